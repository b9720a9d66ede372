/-! runs told exactly, written by ext.py -/
section EG
def v269 (q : QT) (cc gc : Nat) (a : Int32) : Int32 := cond (pm_cmp .gt ((a ^^^ (Int32.ofInt (-1))) &&& (a - (nI 1))) 0) ((cond (pm_cmp .le (cond (pm_cmp .le (cond (pm_cmp .le (cond (pm_cmp .le ((a ^^^ (Int32.ofInt (-1))) &&& (a - (nI 1))) (nI 65536)) ((a ^^^ (Int32.ofInt (-1))) &&& (a - (nI 1))) (ushr ((a ^^^ (Int32.ofInt (-1))) &&& (a - (nI 1))) (nI 16))) (nI 256)) (cond (pm_cmp .le ((a ^^^ (Int32.ofInt (-1))) &&& (a - (nI 1))) (nI 65536)) ((a ^^^ (Int32.ofInt (-1))) &&& (a - (nI 1))) (ushr ((a ^^^ (Int32.ofInt (-1))) &&& (a - (nI 1))) (nI 16))) (ushr (cond (pm_cmp .le ((a ^^^ (Int32.ofInt (-1))) &&& (a - (nI 1))) (nI 65536)) ((a ^^^ (Int32.ofInt (-1))) &&& (a - (nI 1))) (ushr ((a ^^^ (Int32.ofInt (-1))) &&& (a - (nI 1))) (nI 16))) (nI 8))) (nI 16)) (cond (pm_cmp .le (cond (pm_cmp .le ((a ^^^ (Int32.ofInt (-1))) &&& (a - (nI 1))) (nI 65536)) ((a ^^^ (Int32.ofInt (-1))) &&& (a - (nI 1))) (ushr ((a ^^^ (Int32.ofInt (-1))) &&& (a - (nI 1))) (nI 16))) (nI 256)) (cond (pm_cmp .le ((a ^^^ (Int32.ofInt (-1))) &&& (a - (nI 1))) (nI 65536)) ((a ^^^ (Int32.ofInt (-1))) &&& (a - (nI 1))) (ushr ((a ^^^ (Int32.ofInt (-1))) &&& (a - (nI 1))) (nI 16))) (ushr (cond (pm_cmp .le ((a ^^^ (Int32.ofInt (-1))) &&& (a - (nI 1))) (nI 65536)) ((a ^^^ (Int32.ofInt (-1))) &&& (a - (nI 1))) (ushr ((a ^^^ (Int32.ofInt (-1))) &&& (a - (nI 1))) (nI 16))) (nI 8))) (ushr (cond (pm_cmp .le (cond (pm_cmp .le ((a ^^^ (Int32.ofInt (-1))) &&& (a - (nI 1))) (nI 65536)) ((a ^^^ (Int32.ofInt (-1))) &&& (a - (nI 1))) (ushr ((a ^^^ (Int32.ofInt (-1))) &&& (a - (nI 1))) (nI 16))) (nI 256)) (cond (pm_cmp .le ((a ^^^ (Int32.ofInt (-1))) &&& (a - (nI 1))) (nI 65536)) ((a ^^^ (Int32.ofInt (-1))) &&& (a - (nI 1))) (ushr ((a ^^^ (Int32.ofInt (-1))) &&& (a - (nI 1))) (nI 16))) (ushr (cond (pm_cmp .le ((a ^^^ (Int32.ofInt (-1))) &&& (a - (nI 1))) (nI 65536)) ((a ^^^ (Int32.ofInt (-1))) &&& (a - (nI 1))) (ushr ((a ^^^ (Int32.ofInt (-1))) &&& (a - (nI 1))) (nI 16))) (nI 8))) (nI 4))) (nI 4)) (cond (pm_cmp .le (cond (pm_cmp .le (cond (pm_cmp .le ((a ^^^ (Int32.ofInt (-1))) &&& (a - (nI 1))) (nI 65536)) ((a ^^^ (Int32.ofInt (-1))) &&& (a - (nI 1))) (ushr ((a ^^^ (Int32.ofInt (-1))) &&& (a - (nI 1))) (nI 16))) (nI 256)) (cond (pm_cmp .le ((a ^^^ (Int32.ofInt (-1))) &&& (a - (nI 1))) (nI 65536)) ((a ^^^ (Int32.ofInt (-1))) &&& (a - (nI 1))) (ushr ((a ^^^ (Int32.ofInt (-1))) &&& (a - (nI 1))) (nI 16))) (ushr (cond (pm_cmp .le ((a ^^^ (Int32.ofInt (-1))) &&& (a - (nI 1))) (nI 65536)) ((a ^^^ (Int32.ofInt (-1))) &&& (a - (nI 1))) (ushr ((a ^^^ (Int32.ofInt (-1))) &&& (a - (nI 1))) (nI 16))) (nI 8))) (nI 16)) (cond (pm_cmp .le (cond (pm_cmp .le ((a ^^^ (Int32.ofInt (-1))) &&& (a - (nI 1))) (nI 65536)) ((a ^^^ (Int32.ofInt (-1))) &&& (a - (nI 1))) (ushr ((a ^^^ (Int32.ofInt (-1))) &&& (a - (nI 1))) (nI 16))) (nI 256)) (cond (pm_cmp .le ((a ^^^ (Int32.ofInt (-1))) &&& (a - (nI 1))) (nI 65536)) (nI 1) (nI 17)) ((cond (pm_cmp .le ((a ^^^ (Int32.ofInt (-1))) &&& (a - (nI 1))) (nI 65536)) (nI 1) (nI 17)) + Int32.ofInt 8)) ((cond (pm_cmp .le (cond (pm_cmp .le ((a ^^^ (Int32.ofInt (-1))) &&& (a - (nI 1))) (nI 65536)) ((a ^^^ (Int32.ofInt (-1))) &&& (a - (nI 1))) (ushr ((a ^^^ (Int32.ofInt (-1))) &&& (a - (nI 1))) (nI 16))) (nI 256)) (cond (pm_cmp .le ((a ^^^ (Int32.ofInt (-1))) &&& (a - (nI 1))) (nI 65536)) (nI 1) (nI 17)) ((cond (pm_cmp .le ((a ^^^ (Int32.ofInt (-1))) &&& (a - (nI 1))) (nI 65536)) (nI 1) (nI 17)) + Int32.ofInt 8)) + Int32.ofInt 4)) ((cond (pm_cmp .le (cond (pm_cmp .le (cond (pm_cmp .le ((a ^^^ (Int32.ofInt (-1))) &&& (a - (nI 1))) (nI 65536)) ((a ^^^ (Int32.ofInt (-1))) &&& (a - (nI 1))) (ushr ((a ^^^ (Int32.ofInt (-1))) &&& (a - (nI 1))) (nI 16))) (nI 256)) (cond (pm_cmp .le ((a ^^^ (Int32.ofInt (-1))) &&& (a - (nI 1))) (nI 65536)) ((a ^^^ (Int32.ofInt (-1))) &&& (a - (nI 1))) (ushr ((a ^^^ (Int32.ofInt (-1))) &&& (a - (nI 1))) (nI 16))) (ushr (cond (pm_cmp .le ((a ^^^ (Int32.ofInt (-1))) &&& (a - (nI 1))) (nI 65536)) ((a ^^^ (Int32.ofInt (-1))) &&& (a - (nI 1))) (ushr ((a ^^^ (Int32.ofInt (-1))) &&& (a - (nI 1))) (nI 16))) (nI 8))) (nI 16)) (cond (pm_cmp .le (cond (pm_cmp .le ((a ^^^ (Int32.ofInt (-1))) &&& (a - (nI 1))) (nI 65536)) ((a ^^^ (Int32.ofInt (-1))) &&& (a - (nI 1))) (ushr ((a ^^^ (Int32.ofInt (-1))) &&& (a - (nI 1))) (nI 16))) (nI 256)) (cond (pm_cmp .le ((a ^^^ (Int32.ofInt (-1))) &&& (a - (nI 1))) (nI 65536)) (nI 1) (nI 17)) ((cond (pm_cmp .le ((a ^^^ (Int32.ofInt (-1))) &&& (a - (nI 1))) (nI 65536)) (nI 1) (nI 17)) + Int32.ofInt 8)) ((cond (pm_cmp .le (cond (pm_cmp .le ((a ^^^ (Int32.ofInt (-1))) &&& (a - (nI 1))) (nI 65536)) ((a ^^^ (Int32.ofInt (-1))) &&& (a - (nI 1))) (ushr ((a ^^^ (Int32.ofInt (-1))) &&& (a - (nI 1))) (nI 16))) (nI 256)) (cond (pm_cmp .le ((a ^^^ (Int32.ofInt (-1))) &&& (a - (nI 1))) (nI 65536)) (nI 1) (nI 17)) ((cond (pm_cmp .le ((a ^^^ (Int32.ofInt (-1))) &&& (a - (nI 1))) (nI 65536)) (nI 1) (nI 17)) + Int32.ofInt 8)) + Int32.ofInt 4)) + Int32.ofInt 2)) + (ushr (cond (pm_cmp .le (cond (pm_cmp .le (cond (pm_cmp .le (cond (pm_cmp .le ((a ^^^ (Int32.ofInt (-1))) &&& (a - (nI 1))) (nI 65536)) ((a ^^^ (Int32.ofInt (-1))) &&& (a - (nI 1))) (ushr ((a ^^^ (Int32.ofInt (-1))) &&& (a - (nI 1))) (nI 16))) (nI 256)) (cond (pm_cmp .le ((a ^^^ (Int32.ofInt (-1))) &&& (a - (nI 1))) (nI 65536)) ((a ^^^ (Int32.ofInt (-1))) &&& (a - (nI 1))) (ushr ((a ^^^ (Int32.ofInt (-1))) &&& (a - (nI 1))) (nI 16))) (ushr (cond (pm_cmp .le ((a ^^^ (Int32.ofInt (-1))) &&& (a - (nI 1))) (nI 65536)) ((a ^^^ (Int32.ofInt (-1))) &&& (a - (nI 1))) (ushr ((a ^^^ (Int32.ofInt (-1))) &&& (a - (nI 1))) (nI 16))) (nI 8))) (nI 16)) (cond (pm_cmp .le (cond (pm_cmp .le ((a ^^^ (Int32.ofInt (-1))) &&& (a - (nI 1))) (nI 65536)) ((a ^^^ (Int32.ofInt (-1))) &&& (a - (nI 1))) (ushr ((a ^^^ (Int32.ofInt (-1))) &&& (a - (nI 1))) (nI 16))) (nI 256)) (cond (pm_cmp .le ((a ^^^ (Int32.ofInt (-1))) &&& (a - (nI 1))) (nI 65536)) ((a ^^^ (Int32.ofInt (-1))) &&& (a - (nI 1))) (ushr ((a ^^^ (Int32.ofInt (-1))) &&& (a - (nI 1))) (nI 16))) (ushr (cond (pm_cmp .le ((a ^^^ (Int32.ofInt (-1))) &&& (a - (nI 1))) (nI 65536)) ((a ^^^ (Int32.ofInt (-1))) &&& (a - (nI 1))) (ushr ((a ^^^ (Int32.ofInt (-1))) &&& (a - (nI 1))) (nI 16))) (nI 8))) (ushr (cond (pm_cmp .le (cond (pm_cmp .le ((a ^^^ (Int32.ofInt (-1))) &&& (a - (nI 1))) (nI 65536)) ((a ^^^ (Int32.ofInt (-1))) &&& (a - (nI 1))) (ushr ((a ^^^ (Int32.ofInt (-1))) &&& (a - (nI 1))) (nI 16))) (nI 256)) (cond (pm_cmp .le ((a ^^^ (Int32.ofInt (-1))) &&& (a - (nI 1))) (nI 65536)) ((a ^^^ (Int32.ofInt (-1))) &&& (a - (nI 1))) (ushr ((a ^^^ (Int32.ofInt (-1))) &&& (a - (nI 1))) (nI 16))) (ushr (cond (pm_cmp .le ((a ^^^ (Int32.ofInt (-1))) &&& (a - (nI 1))) (nI 65536)) ((a ^^^ (Int32.ofInt (-1))) &&& (a - (nI 1))) (ushr ((a ^^^ (Int32.ofInt (-1))) &&& (a - (nI 1))) (nI 16))) (nI 8))) (nI 4))) (nI 4)) (cond (pm_cmp .le (cond (pm_cmp .le (cond (pm_cmp .le ((a ^^^ (Int32.ofInt (-1))) &&& (a - (nI 1))) (nI 65536)) ((a ^^^ (Int32.ofInt (-1))) &&& (a - (nI 1))) (ushr ((a ^^^ (Int32.ofInt (-1))) &&& (a - (nI 1))) (nI 16))) (nI 256)) (cond (pm_cmp .le ((a ^^^ (Int32.ofInt (-1))) &&& (a - (nI 1))) (nI 65536)) ((a ^^^ (Int32.ofInt (-1))) &&& (a - (nI 1))) (ushr ((a ^^^ (Int32.ofInt (-1))) &&& (a - (nI 1))) (nI 16))) (ushr (cond (pm_cmp .le ((a ^^^ (Int32.ofInt (-1))) &&& (a - (nI 1))) (nI 65536)) ((a ^^^ (Int32.ofInt (-1))) &&& (a - (nI 1))) (ushr ((a ^^^ (Int32.ofInt (-1))) &&& (a - (nI 1))) (nI 16))) (nI 8))) (nI 16)) (cond (pm_cmp .le (cond (pm_cmp .le ((a ^^^ (Int32.ofInt (-1))) &&& (a - (nI 1))) (nI 65536)) ((a ^^^ (Int32.ofInt (-1))) &&& (a - (nI 1))) (ushr ((a ^^^ (Int32.ofInt (-1))) &&& (a - (nI 1))) (nI 16))) (nI 256)) (cond (pm_cmp .le ((a ^^^ (Int32.ofInt (-1))) &&& (a - (nI 1))) (nI 65536)) ((a ^^^ (Int32.ofInt (-1))) &&& (a - (nI 1))) (ushr ((a ^^^ (Int32.ofInt (-1))) &&& (a - (nI 1))) (nI 16))) (ushr (cond (pm_cmp .le ((a ^^^ (Int32.ofInt (-1))) &&& (a - (nI 1))) (nI 65536)) ((a ^^^ (Int32.ofInt (-1))) &&& (a - (nI 1))) (ushr ((a ^^^ (Int32.ofInt (-1))) &&& (a - (nI 1))) (nI 16))) (nI 8))) (ushr (cond (pm_cmp .le (cond (pm_cmp .le ((a ^^^ (Int32.ofInt (-1))) &&& (a - (nI 1))) (nI 65536)) ((a ^^^ (Int32.ofInt (-1))) &&& (a - (nI 1))) (ushr ((a ^^^ (Int32.ofInt (-1))) &&& (a - (nI 1))) (nI 16))) (nI 256)) (cond (pm_cmp .le ((a ^^^ (Int32.ofInt (-1))) &&& (a - (nI 1))) (nI 65536)) ((a ^^^ (Int32.ofInt (-1))) &&& (a - (nI 1))) (ushr ((a ^^^ (Int32.ofInt (-1))) &&& (a - (nI 1))) (nI 16))) (ushr (cond (pm_cmp .le ((a ^^^ (Int32.ofInt (-1))) &&& (a - (nI 1))) (nI 65536)) ((a ^^^ (Int32.ofInt (-1))) &&& (a - (nI 1))) (ushr ((a ^^^ (Int32.ofInt (-1))) &&& (a - (nI 1))) (nI 16))) (nI 8))) (nI 4))) (ushr (cond (pm_cmp .le (cond (pm_cmp .le (cond (pm_cmp .le ((a ^^^ (Int32.ofInt (-1))) &&& (a - (nI 1))) (nI 65536)) ((a ^^^ (Int32.ofInt (-1))) &&& (a - (nI 1))) (ushr ((a ^^^ (Int32.ofInt (-1))) &&& (a - (nI 1))) (nI 16))) (nI 256)) (cond (pm_cmp .le ((a ^^^ (Int32.ofInt (-1))) &&& (a - (nI 1))) (nI 65536)) ((a ^^^ (Int32.ofInt (-1))) &&& (a - (nI 1))) (ushr ((a ^^^ (Int32.ofInt (-1))) &&& (a - (nI 1))) (nI 16))) (ushr (cond (pm_cmp .le ((a ^^^ (Int32.ofInt (-1))) &&& (a - (nI 1))) (nI 65536)) ((a ^^^ (Int32.ofInt (-1))) &&& (a - (nI 1))) (ushr ((a ^^^ (Int32.ofInt (-1))) &&& (a - (nI 1))) (nI 16))) (nI 8))) (nI 16)) (cond (pm_cmp .le (cond (pm_cmp .le ((a ^^^ (Int32.ofInt (-1))) &&& (a - (nI 1))) (nI 65536)) ((a ^^^ (Int32.ofInt (-1))) &&& (a - (nI 1))) (ushr ((a ^^^ (Int32.ofInt (-1))) &&& (a - (nI 1))) (nI 16))) (nI 256)) (cond (pm_cmp .le ((a ^^^ (Int32.ofInt (-1))) &&& (a - (nI 1))) (nI 65536)) ((a ^^^ (Int32.ofInt (-1))) &&& (a - (nI 1))) (ushr ((a ^^^ (Int32.ofInt (-1))) &&& (a - (nI 1))) (nI 16))) (ushr (cond (pm_cmp .le ((a ^^^ (Int32.ofInt (-1))) &&& (a - (nI 1))) (nI 65536)) ((a ^^^ (Int32.ofInt (-1))) &&& (a - (nI 1))) (ushr ((a ^^^ (Int32.ofInt (-1))) &&& (a - (nI 1))) (nI 16))) (nI 8))) (ushr (cond (pm_cmp .le (cond (pm_cmp .le ((a ^^^ (Int32.ofInt (-1))) &&& (a - (nI 1))) (nI 65536)) ((a ^^^ (Int32.ofInt (-1))) &&& (a - (nI 1))) (ushr ((a ^^^ (Int32.ofInt (-1))) &&& (a - (nI 1))) (nI 16))) (nI 256)) (cond (pm_cmp .le ((a ^^^ (Int32.ofInt (-1))) &&& (a - (nI 1))) (nI 65536)) ((a ^^^ (Int32.ofInt (-1))) &&& (a - (nI 1))) (ushr ((a ^^^ (Int32.ofInt (-1))) &&& (a - (nI 1))) (nI 16))) (ushr (cond (pm_cmp .le ((a ^^^ (Int32.ofInt (-1))) &&& (a - (nI 1))) (nI 65536)) ((a ^^^ (Int32.ofInt (-1))) &&& (a - (nI 1))) (ushr ((a ^^^ (Int32.ofInt (-1))) &&& (a - (nI 1))) (nI 16))) (nI 8))) (nI 4))) (nI 2))) (nI 1))) (((a ^^^ (Int32.ofInt (-1))) &&& (a - (nI 1))) &&& (nI 32))
theorem v269_ok {n fr lo sl cc gc : Nat} {q : QT} {h : pm_H} {R : pm_Rs} {a : Int32} (hw : HC q cc gc h) (hh : pm_run PT n fr lo 269 (0, pm_l0 [.int a] 2, [], h, 198, sl) = some R) : R = (some (.int (v269 q cc gc a)), h, 198, sl) := by
  have hcc := hw.cb
  have hgc := hw.gb
  have hzr := hw.zr
  obtain ⟨n, hh⟩ := rn_i rfl rfl rfl rfl hh
  obtain ⟨n, hh⟩ := rn_i rfl rfl rfl rfl hh
  obtain ⟨n, hh⟩ := rn_i rfl rfl rfl rfl hh
  obtain ⟨n, hh⟩ := rn_i rfl rfl rfl rfl hh
  obtain ⟨n, hh⟩ := rn_i rfl rfl rfl rfl hh
  obtain ⟨n, hh⟩ := rn_i rfl rfl rfl rfl hh
  obtain ⟨n, hh⟩ := rn_i rfl rfl rfl rfl hh
  obtain ⟨n, hh⟩ := rn_i rfl rfl rfl rfl hh
  obtain ⟨n, hh⟩ := rn_i rfl rfl rfl rfl hh
  have hh : pm_run PT n fr lo 269 (9, [some (.int ((a ^^^ (Int32.ofInt (-1))) &&& (a - (nI 1)))), none], [.int ((a ^^^ (Int32.ofInt (-1))) &&& (a - (nI 1)))], h, 198, sl) = some R := hh
  obtain ⟨n, hh⟩ := en_zn (cc := .gt) (off := 8) (t := 17) (b := pm_cmp .gt ((a ^^^ (Int32.ofInt (-1))) &&& (a - (nI 1))) 0) rfl rfl rfl hh
  cases z1 : pm_cmp .gt ((a ^^^ (Int32.ofInt (-1))) &&& (a - (nI 1))) 0 with
  | true =>
    have hh := en_t z1 hh
    have hh : pm_run PT n fr lo 269 (17, [some (.int ((a ^^^ (Int32.ofInt (-1))) &&& (a - (nI 1)))), none], [], h, 198, sl) = some R := hh
    obtain ⟨n, hh⟩ := rn_i rfl rfl rfl rfl hh
    obtain ⟨n, hh⟩ := rn_i rfl rfl rfl rfl hh
    obtain ⟨n, hh⟩ := rn_i rfl rfl rfl rfl hh
    obtain ⟨n, hh⟩ := rn_i rfl rfl rfl rfl hh
    have hh : pm_run PT n fr lo 269 (23, [some (.int ((a ^^^ (Int32.ofInt (-1))) &&& (a - (nI 1)))), some (.int (nI 1))], [.int (nI 65536), .int ((a ^^^ (Int32.ofInt (-1))) &&& (a - (nI 1)))], h, 198, sl) = some R := hh
    obtain ⟨n, hh⟩ := en_cn (cc := .le) (off := 11) (t := 34) (b := pm_cmp .le ((a ^^^ (Int32.ofInt (-1))) &&& (a - (nI 1))) (nI 65536)) rfl rfl rfl hh
    have hj3 : ∃ mJ, pm_run PT mJ fr lo 269 (cond (pm_cmp .le ((a ^^^ (Int32.ofInt (-1))) &&& (a - (nI 1))) (nI 65536)) (34, [some (.int ((a ^^^ (Int32.ofInt (-1))) &&& (a - (nI 1)))), some (.int (nI 1))], [], h, 198, sl) (34, [some (.int (ushr ((a ^^^ (Int32.ofInt (-1))) &&& (a - (nI 1))) (nI 16))), some (.int (nI 17))], [], h, 198, sl)) = some R := en_J (fun z2 => by
        have hh := en_t z2 hh
        have hh : pm_run PT n fr lo 269 (34, [some (.int ((a ^^^ (Int32.ofInt (-1))) &&& (a - (nI 1)))), some (.int (nI 1))], [], h, 198, sl) = some R := hh
        exact ⟨n, hh⟩) (fun z2 => by
        have hh := en_f z2 hh
        have hh : pm_run PT n fr lo 269 (26, [some (.int ((a ^^^ (Int32.ofInt (-1))) &&& (a - (nI 1)))), some (.int (nI 1))], [], h, 198, sl) = some R := hh
        have hh : pm_run PT n fr lo 269 (26, [some (.int ((a ^^^ (Int32.ofInt (-1))) &&& (a - (nI 1)))), some (.int (nI 1))], [], h, 198, sl) = some R := hh
        obtain ⟨n, hh⟩ := en_inc (x := 1) (c := 16) (j := 1) rfl rfl (by decide) hh
        have hh : pm_run PT n fr lo 269 (29, [some (.int ((a ^^^ (Int32.ofInt (-1))) &&& (a - (nI 1)))), some (.int (nI 17))], [], h, 198, sl) = some R := hh
        obtain ⟨n, hh⟩ := rn_i rfl rfl rfl rfl hh
        obtain ⟨n, hh⟩ := rn_i rfl rfl rfl rfl hh
        obtain ⟨n, hh⟩ := rn_i rfl rfl rfl rfl hh
        obtain ⟨n, hh⟩ := rn_i rfl rfl rfl rfl hh
        exact ⟨n, hh⟩)
    obtain ⟨n, hh⟩ := hj3
    rw [show (cond (pm_cmp .le ((a ^^^ (Int32.ofInt (-1))) &&& (a - (nI 1))) (nI 65536)) (34, [some (.int ((a ^^^ (Int32.ofInt (-1))) &&& (a - (nI 1)))), some (.int (nI 1))], [], h, 198, sl) (34, [some (.int (ushr ((a ^^^ (Int32.ofInt (-1))) &&& (a - (nI 1))) (nI 16))), some (.int (nI 17))], [], h, 198, sl) : pm_St) = (34, [some (.int (cond (pm_cmp .le ((a ^^^ (Int32.ofInt (-1))) &&& (a - (nI 1))) (nI 65536)) ((a ^^^ (Int32.ofInt (-1))) &&& (a - (nI 1))) (ushr ((a ^^^ (Int32.ofInt (-1))) &&& (a - (nI 1))) (nI 16)))), some (.int (cond (pm_cmp .le ((a ^^^ (Int32.ofInt (-1))) &&& (a - (nI 1))) (nI 65536)) (nI 1) (nI 17)))], [], h, 198, sl) from by cases (pm_cmp .le ((a ^^^ (Int32.ofInt (-1))) &&& (a - (nI 1))) (nI 65536)) <;> rfl] at hh
    obtain ⟨n, hh⟩ := rn_i rfl rfl rfl rfl hh
    obtain ⟨n, hh⟩ := rn_i rfl rfl rfl rfl hh
    have hh : pm_run PT n fr lo 269 (38, [some (.int (cond (pm_cmp .le ((a ^^^ (Int32.ofInt (-1))) &&& (a - (nI 1))) (nI 65536)) ((a ^^^ (Int32.ofInt (-1))) &&& (a - (nI 1))) (ushr ((a ^^^ (Int32.ofInt (-1))) &&& (a - (nI 1))) (nI 16)))), some (.int (cond (pm_cmp .le ((a ^^^ (Int32.ofInt (-1))) &&& (a - (nI 1))) (nI 65536)) (nI 1) (nI 17)))], [.int (nI 256), .int (cond (pm_cmp .le ((a ^^^ (Int32.ofInt (-1))) &&& (a - (nI 1))) (nI 65536)) ((a ^^^ (Int32.ofInt (-1))) &&& (a - (nI 1))) (ushr ((a ^^^ (Int32.ofInt (-1))) &&& (a - (nI 1))) (nI 16)))], h, 198, sl) = some R := hh
    obtain ⟨n, hh⟩ := en_cn (cc := .le) (off := 11) (t := 49) (b := pm_cmp .le (cond (pm_cmp .le ((a ^^^ (Int32.ofInt (-1))) &&& (a - (nI 1))) (nI 65536)) ((a ^^^ (Int32.ofInt (-1))) &&& (a - (nI 1))) (ushr ((a ^^^ (Int32.ofInt (-1))) &&& (a - (nI 1))) (nI 16))) (nI 256)) rfl rfl rfl hh
    have hj5 : ∃ mJ, pm_run PT mJ fr lo 269 (cond (pm_cmp .le (cond (pm_cmp .le ((a ^^^ (Int32.ofInt (-1))) &&& (a - (nI 1))) (nI 65536)) ((a ^^^ (Int32.ofInt (-1))) &&& (a - (nI 1))) (ushr ((a ^^^ (Int32.ofInt (-1))) &&& (a - (nI 1))) (nI 16))) (nI 256)) (49, [some (.int (cond (pm_cmp .le ((a ^^^ (Int32.ofInt (-1))) &&& (a - (nI 1))) (nI 65536)) ((a ^^^ (Int32.ofInt (-1))) &&& (a - (nI 1))) (ushr ((a ^^^ (Int32.ofInt (-1))) &&& (a - (nI 1))) (nI 16)))), some (.int (cond (pm_cmp .le ((a ^^^ (Int32.ofInt (-1))) &&& (a - (nI 1))) (nI 65536)) (nI 1) (nI 17)))], [], h, 198, sl) (49, [some (.int (ushr (cond (pm_cmp .le ((a ^^^ (Int32.ofInt (-1))) &&& (a - (nI 1))) (nI 65536)) ((a ^^^ (Int32.ofInt (-1))) &&& (a - (nI 1))) (ushr ((a ^^^ (Int32.ofInt (-1))) &&& (a - (nI 1))) (nI 16))) (nI 8))), some (.int ((cond (pm_cmp .le ((a ^^^ (Int32.ofInt (-1))) &&& (a - (nI 1))) (nI 65536)) (nI 1) (nI 17)) + Int32.ofInt 8))], [], h, 198, sl)) = some R := en_J (fun z4 => by
        have hh := en_t z4 hh
        have hh : pm_run PT n fr lo 269 (49, [some (.int (cond (pm_cmp .le ((a ^^^ (Int32.ofInt (-1))) &&& (a - (nI 1))) (nI 65536)) ((a ^^^ (Int32.ofInt (-1))) &&& (a - (nI 1))) (ushr ((a ^^^ (Int32.ofInt (-1))) &&& (a - (nI 1))) (nI 16)))), some (.int (cond (pm_cmp .le ((a ^^^ (Int32.ofInt (-1))) &&& (a - (nI 1))) (nI 65536)) (nI 1) (nI 17)))], [], h, 198, sl) = some R := hh
        exact ⟨n, hh⟩) (fun z4 => by
        have hh := en_f z4 hh
        have hh : pm_run PT n fr lo 269 (41, [some (.int (cond (pm_cmp .le ((a ^^^ (Int32.ofInt (-1))) &&& (a - (nI 1))) (nI 65536)) ((a ^^^ (Int32.ofInt (-1))) &&& (a - (nI 1))) (ushr ((a ^^^ (Int32.ofInt (-1))) &&& (a - (nI 1))) (nI 16)))), some (.int (cond (pm_cmp .le ((a ^^^ (Int32.ofInt (-1))) &&& (a - (nI 1))) (nI 65536)) (nI 1) (nI 17)))], [], h, 198, sl) = some R := hh
        obtain ⟨n, hh⟩ := rn_i rfl rfl rfl rfl hh
        obtain ⟨n, hh⟩ := rn_i rfl rfl rfl rfl hh
        obtain ⟨n, hh⟩ := rn_i rfl rfl rfl rfl hh
        obtain ⟨n, hh⟩ := rn_i rfl rfl rfl rfl hh
        obtain ⟨n, hh⟩ := rn_i rfl rfl rfl rfl hh
        exact ⟨n, hh⟩)
    obtain ⟨n, hh⟩ := hj5
    rw [show (cond (pm_cmp .le (cond (pm_cmp .le ((a ^^^ (Int32.ofInt (-1))) &&& (a - (nI 1))) (nI 65536)) ((a ^^^ (Int32.ofInt (-1))) &&& (a - (nI 1))) (ushr ((a ^^^ (Int32.ofInt (-1))) &&& (a - (nI 1))) (nI 16))) (nI 256)) (49, [some (.int (cond (pm_cmp .le ((a ^^^ (Int32.ofInt (-1))) &&& (a - (nI 1))) (nI 65536)) ((a ^^^ (Int32.ofInt (-1))) &&& (a - (nI 1))) (ushr ((a ^^^ (Int32.ofInt (-1))) &&& (a - (nI 1))) (nI 16)))), some (.int (cond (pm_cmp .le ((a ^^^ (Int32.ofInt (-1))) &&& (a - (nI 1))) (nI 65536)) (nI 1) (nI 17)))], [], h, 198, sl) (49, [some (.int (ushr (cond (pm_cmp .le ((a ^^^ (Int32.ofInt (-1))) &&& (a - (nI 1))) (nI 65536)) ((a ^^^ (Int32.ofInt (-1))) &&& (a - (nI 1))) (ushr ((a ^^^ (Int32.ofInt (-1))) &&& (a - (nI 1))) (nI 16))) (nI 8))), some (.int ((cond (pm_cmp .le ((a ^^^ (Int32.ofInt (-1))) &&& (a - (nI 1))) (nI 65536)) (nI 1) (nI 17)) + Int32.ofInt 8))], [], h, 198, sl) : pm_St) = (49, [some (.int (cond (pm_cmp .le (cond (pm_cmp .le ((a ^^^ (Int32.ofInt (-1))) &&& (a - (nI 1))) (nI 65536)) ((a ^^^ (Int32.ofInt (-1))) &&& (a - (nI 1))) (ushr ((a ^^^ (Int32.ofInt (-1))) &&& (a - (nI 1))) (nI 16))) (nI 256)) (cond (pm_cmp .le ((a ^^^ (Int32.ofInt (-1))) &&& (a - (nI 1))) (nI 65536)) ((a ^^^ (Int32.ofInt (-1))) &&& (a - (nI 1))) (ushr ((a ^^^ (Int32.ofInt (-1))) &&& (a - (nI 1))) (nI 16))) (ushr (cond (pm_cmp .le ((a ^^^ (Int32.ofInt (-1))) &&& (a - (nI 1))) (nI 65536)) ((a ^^^ (Int32.ofInt (-1))) &&& (a - (nI 1))) (ushr ((a ^^^ (Int32.ofInt (-1))) &&& (a - (nI 1))) (nI 16))) (nI 8)))), some (.int (cond (pm_cmp .le (cond (pm_cmp .le ((a ^^^ (Int32.ofInt (-1))) &&& (a - (nI 1))) (nI 65536)) ((a ^^^ (Int32.ofInt (-1))) &&& (a - (nI 1))) (ushr ((a ^^^ (Int32.ofInt (-1))) &&& (a - (nI 1))) (nI 16))) (nI 256)) (cond (pm_cmp .le ((a ^^^ (Int32.ofInt (-1))) &&& (a - (nI 1))) (nI 65536)) (nI 1) (nI 17)) ((cond (pm_cmp .le ((a ^^^ (Int32.ofInt (-1))) &&& (a - (nI 1))) (nI 65536)) (nI 1) (nI 17)) + Int32.ofInt 8)))], [], h, 198, sl) from by cases (pm_cmp .le (cond (pm_cmp .le ((a ^^^ (Int32.ofInt (-1))) &&& (a - (nI 1))) (nI 65536)) ((a ^^^ (Int32.ofInt (-1))) &&& (a - (nI 1))) (ushr ((a ^^^ (Int32.ofInt (-1))) &&& (a - (nI 1))) (nI 16))) (nI 256)) <;> rfl] at hh
    obtain ⟨n, hh⟩ := rn_i rfl rfl rfl rfl hh
    obtain ⟨n, hh⟩ := rn_i rfl rfl rfl rfl hh
    have hh : pm_run PT n fr lo 269 (52, [some (.int (cond (pm_cmp .le (cond (pm_cmp .le ((a ^^^ (Int32.ofInt (-1))) &&& (a - (nI 1))) (nI 65536)) ((a ^^^ (Int32.ofInt (-1))) &&& (a - (nI 1))) (ushr ((a ^^^ (Int32.ofInt (-1))) &&& (a - (nI 1))) (nI 16))) (nI 256)) (cond (pm_cmp .le ((a ^^^ (Int32.ofInt (-1))) &&& (a - (nI 1))) (nI 65536)) ((a ^^^ (Int32.ofInt (-1))) &&& (a - (nI 1))) (ushr ((a ^^^ (Int32.ofInt (-1))) &&& (a - (nI 1))) (nI 16))) (ushr (cond (pm_cmp .le ((a ^^^ (Int32.ofInt (-1))) &&& (a - (nI 1))) (nI 65536)) ((a ^^^ (Int32.ofInt (-1))) &&& (a - (nI 1))) (ushr ((a ^^^ (Int32.ofInt (-1))) &&& (a - (nI 1))) (nI 16))) (nI 8)))), some (.int (cond (pm_cmp .le (cond (pm_cmp .le ((a ^^^ (Int32.ofInt (-1))) &&& (a - (nI 1))) (nI 65536)) ((a ^^^ (Int32.ofInt (-1))) &&& (a - (nI 1))) (ushr ((a ^^^ (Int32.ofInt (-1))) &&& (a - (nI 1))) (nI 16))) (nI 256)) (cond (pm_cmp .le ((a ^^^ (Int32.ofInt (-1))) &&& (a - (nI 1))) (nI 65536)) (nI 1) (nI 17)) ((cond (pm_cmp .le ((a ^^^ (Int32.ofInt (-1))) &&& (a - (nI 1))) (nI 65536)) (nI 1) (nI 17)) + Int32.ofInt 8)))], [.int (nI 16), .int (cond (pm_cmp .le (cond (pm_cmp .le ((a ^^^ (Int32.ofInt (-1))) &&& (a - (nI 1))) (nI 65536)) ((a ^^^ (Int32.ofInt (-1))) &&& (a - (nI 1))) (ushr ((a ^^^ (Int32.ofInt (-1))) &&& (a - (nI 1))) (nI 16))) (nI 256)) (cond (pm_cmp .le ((a ^^^ (Int32.ofInt (-1))) &&& (a - (nI 1))) (nI 65536)) ((a ^^^ (Int32.ofInt (-1))) &&& (a - (nI 1))) (ushr ((a ^^^ (Int32.ofInt (-1))) &&& (a - (nI 1))) (nI 16))) (ushr (cond (pm_cmp .le ((a ^^^ (Int32.ofInt (-1))) &&& (a - (nI 1))) (nI 65536)) ((a ^^^ (Int32.ofInt (-1))) &&& (a - (nI 1))) (ushr ((a ^^^ (Int32.ofInt (-1))) &&& (a - (nI 1))) (nI 16))) (nI 8)))], h, 198, sl) = some R := hh
    obtain ⟨n, hh⟩ := en_cn (cc := .le) (off := 10) (t := 62) (b := pm_cmp .le (cond (pm_cmp .le (cond (pm_cmp .le ((a ^^^ (Int32.ofInt (-1))) &&& (a - (nI 1))) (nI 65536)) ((a ^^^ (Int32.ofInt (-1))) &&& (a - (nI 1))) (ushr ((a ^^^ (Int32.ofInt (-1))) &&& (a - (nI 1))) (nI 16))) (nI 256)) (cond (pm_cmp .le ((a ^^^ (Int32.ofInt (-1))) &&& (a - (nI 1))) (nI 65536)) ((a ^^^ (Int32.ofInt (-1))) &&& (a - (nI 1))) (ushr ((a ^^^ (Int32.ofInt (-1))) &&& (a - (nI 1))) (nI 16))) (ushr (cond (pm_cmp .le ((a ^^^ (Int32.ofInt (-1))) &&& (a - (nI 1))) (nI 65536)) ((a ^^^ (Int32.ofInt (-1))) &&& (a - (nI 1))) (ushr ((a ^^^ (Int32.ofInt (-1))) &&& (a - (nI 1))) (nI 16))) (nI 8))) (nI 16)) rfl rfl rfl hh
    have hj7 : ∃ mJ, pm_run PT mJ fr lo 269 (cond (pm_cmp .le (cond (pm_cmp .le (cond (pm_cmp .le ((a ^^^ (Int32.ofInt (-1))) &&& (a - (nI 1))) (nI 65536)) ((a ^^^ (Int32.ofInt (-1))) &&& (a - (nI 1))) (ushr ((a ^^^ (Int32.ofInt (-1))) &&& (a - (nI 1))) (nI 16))) (nI 256)) (cond (pm_cmp .le ((a ^^^ (Int32.ofInt (-1))) &&& (a - (nI 1))) (nI 65536)) ((a ^^^ (Int32.ofInt (-1))) &&& (a - (nI 1))) (ushr ((a ^^^ (Int32.ofInt (-1))) &&& (a - (nI 1))) (nI 16))) (ushr (cond (pm_cmp .le ((a ^^^ (Int32.ofInt (-1))) &&& (a - (nI 1))) (nI 65536)) ((a ^^^ (Int32.ofInt (-1))) &&& (a - (nI 1))) (ushr ((a ^^^ (Int32.ofInt (-1))) &&& (a - (nI 1))) (nI 16))) (nI 8))) (nI 16)) (62, [some (.int (cond (pm_cmp .le (cond (pm_cmp .le ((a ^^^ (Int32.ofInt (-1))) &&& (a - (nI 1))) (nI 65536)) ((a ^^^ (Int32.ofInt (-1))) &&& (a - (nI 1))) (ushr ((a ^^^ (Int32.ofInt (-1))) &&& (a - (nI 1))) (nI 16))) (nI 256)) (cond (pm_cmp .le ((a ^^^ (Int32.ofInt (-1))) &&& (a - (nI 1))) (nI 65536)) ((a ^^^ (Int32.ofInt (-1))) &&& (a - (nI 1))) (ushr ((a ^^^ (Int32.ofInt (-1))) &&& (a - (nI 1))) (nI 16))) (ushr (cond (pm_cmp .le ((a ^^^ (Int32.ofInt (-1))) &&& (a - (nI 1))) (nI 65536)) ((a ^^^ (Int32.ofInt (-1))) &&& (a - (nI 1))) (ushr ((a ^^^ (Int32.ofInt (-1))) &&& (a - (nI 1))) (nI 16))) (nI 8)))), some (.int (cond (pm_cmp .le (cond (pm_cmp .le ((a ^^^ (Int32.ofInt (-1))) &&& (a - (nI 1))) (nI 65536)) ((a ^^^ (Int32.ofInt (-1))) &&& (a - (nI 1))) (ushr ((a ^^^ (Int32.ofInt (-1))) &&& (a - (nI 1))) (nI 16))) (nI 256)) (cond (pm_cmp .le ((a ^^^ (Int32.ofInt (-1))) &&& (a - (nI 1))) (nI 65536)) (nI 1) (nI 17)) ((cond (pm_cmp .le ((a ^^^ (Int32.ofInt (-1))) &&& (a - (nI 1))) (nI 65536)) (nI 1) (nI 17)) + Int32.ofInt 8)))], [], h, 198, sl) (62, [some (.int (ushr (cond (pm_cmp .le (cond (pm_cmp .le ((a ^^^ (Int32.ofInt (-1))) &&& (a - (nI 1))) (nI 65536)) ((a ^^^ (Int32.ofInt (-1))) &&& (a - (nI 1))) (ushr ((a ^^^ (Int32.ofInt (-1))) &&& (a - (nI 1))) (nI 16))) (nI 256)) (cond (pm_cmp .le ((a ^^^ (Int32.ofInt (-1))) &&& (a - (nI 1))) (nI 65536)) ((a ^^^ (Int32.ofInt (-1))) &&& (a - (nI 1))) (ushr ((a ^^^ (Int32.ofInt (-1))) &&& (a - (nI 1))) (nI 16))) (ushr (cond (pm_cmp .le ((a ^^^ (Int32.ofInt (-1))) &&& (a - (nI 1))) (nI 65536)) ((a ^^^ (Int32.ofInt (-1))) &&& (a - (nI 1))) (ushr ((a ^^^ (Int32.ofInt (-1))) &&& (a - (nI 1))) (nI 16))) (nI 8))) (nI 4))), some (.int ((cond (pm_cmp .le (cond (pm_cmp .le ((a ^^^ (Int32.ofInt (-1))) &&& (a - (nI 1))) (nI 65536)) ((a ^^^ (Int32.ofInt (-1))) &&& (a - (nI 1))) (ushr ((a ^^^ (Int32.ofInt (-1))) &&& (a - (nI 1))) (nI 16))) (nI 256)) (cond (pm_cmp .le ((a ^^^ (Int32.ofInt (-1))) &&& (a - (nI 1))) (nI 65536)) (nI 1) (nI 17)) ((cond (pm_cmp .le ((a ^^^ (Int32.ofInt (-1))) &&& (a - (nI 1))) (nI 65536)) (nI 1) (nI 17)) + Int32.ofInt 8)) + Int32.ofInt 4))], [], h, 198, sl)) = some R := en_J (fun z6 => by
        have hh := en_t z6 hh
        have hh : pm_run PT n fr lo 269 (62, [some (.int (cond (pm_cmp .le (cond (pm_cmp .le ((a ^^^ (Int32.ofInt (-1))) &&& (a - (nI 1))) (nI 65536)) ((a ^^^ (Int32.ofInt (-1))) &&& (a - (nI 1))) (ushr ((a ^^^ (Int32.ofInt (-1))) &&& (a - (nI 1))) (nI 16))) (nI 256)) (cond (pm_cmp .le ((a ^^^ (Int32.ofInt (-1))) &&& (a - (nI 1))) (nI 65536)) ((a ^^^ (Int32.ofInt (-1))) &&& (a - (nI 1))) (ushr ((a ^^^ (Int32.ofInt (-1))) &&& (a - (nI 1))) (nI 16))) (ushr (cond (pm_cmp .le ((a ^^^ (Int32.ofInt (-1))) &&& (a - (nI 1))) (nI 65536)) ((a ^^^ (Int32.ofInt (-1))) &&& (a - (nI 1))) (ushr ((a ^^^ (Int32.ofInt (-1))) &&& (a - (nI 1))) (nI 16))) (nI 8)))), some (.int (cond (pm_cmp .le (cond (pm_cmp .le ((a ^^^ (Int32.ofInt (-1))) &&& (a - (nI 1))) (nI 65536)) ((a ^^^ (Int32.ofInt (-1))) &&& (a - (nI 1))) (ushr ((a ^^^ (Int32.ofInt (-1))) &&& (a - (nI 1))) (nI 16))) (nI 256)) (cond (pm_cmp .le ((a ^^^ (Int32.ofInt (-1))) &&& (a - (nI 1))) (nI 65536)) (nI 1) (nI 17)) ((cond (pm_cmp .le ((a ^^^ (Int32.ofInt (-1))) &&& (a - (nI 1))) (nI 65536)) (nI 1) (nI 17)) + Int32.ofInt 8)))], [], h, 198, sl) = some R := hh
        exact ⟨n, hh⟩) (fun z6 => by
        have hh := en_f z6 hh
        have hh : pm_run PT n fr lo 269 (55, [some (.int (cond (pm_cmp .le (cond (pm_cmp .le ((a ^^^ (Int32.ofInt (-1))) &&& (a - (nI 1))) (nI 65536)) ((a ^^^ (Int32.ofInt (-1))) &&& (a - (nI 1))) (ushr ((a ^^^ (Int32.ofInt (-1))) &&& (a - (nI 1))) (nI 16))) (nI 256)) (cond (pm_cmp .le ((a ^^^ (Int32.ofInt (-1))) &&& (a - (nI 1))) (nI 65536)) ((a ^^^ (Int32.ofInt (-1))) &&& (a - (nI 1))) (ushr ((a ^^^ (Int32.ofInt (-1))) &&& (a - (nI 1))) (nI 16))) (ushr (cond (pm_cmp .le ((a ^^^ (Int32.ofInt (-1))) &&& (a - (nI 1))) (nI 65536)) ((a ^^^ (Int32.ofInt (-1))) &&& (a - (nI 1))) (ushr ((a ^^^ (Int32.ofInt (-1))) &&& (a - (nI 1))) (nI 16))) (nI 8)))), some (.int (cond (pm_cmp .le (cond (pm_cmp .le ((a ^^^ (Int32.ofInt (-1))) &&& (a - (nI 1))) (nI 65536)) ((a ^^^ (Int32.ofInt (-1))) &&& (a - (nI 1))) (ushr ((a ^^^ (Int32.ofInt (-1))) &&& (a - (nI 1))) (nI 16))) (nI 256)) (cond (pm_cmp .le ((a ^^^ (Int32.ofInt (-1))) &&& (a - (nI 1))) (nI 65536)) (nI 1) (nI 17)) ((cond (pm_cmp .le ((a ^^^ (Int32.ofInt (-1))) &&& (a - (nI 1))) (nI 65536)) (nI 1) (nI 17)) + Int32.ofInt 8)))], [], h, 198, sl) = some R := hh
        obtain ⟨n, hh⟩ := rn_i rfl rfl rfl rfl hh
        obtain ⟨n, hh⟩ := rn_i rfl rfl rfl rfl hh
        obtain ⟨n, hh⟩ := rn_i rfl rfl rfl rfl hh
        obtain ⟨n, hh⟩ := rn_i rfl rfl rfl rfl hh
        obtain ⟨n, hh⟩ := rn_i rfl rfl rfl rfl hh
        exact ⟨n, hh⟩)
    obtain ⟨n, hh⟩ := hj7
    rw [show (cond (pm_cmp .le (cond (pm_cmp .le (cond (pm_cmp .le ((a ^^^ (Int32.ofInt (-1))) &&& (a - (nI 1))) (nI 65536)) ((a ^^^ (Int32.ofInt (-1))) &&& (a - (nI 1))) (ushr ((a ^^^ (Int32.ofInt (-1))) &&& (a - (nI 1))) (nI 16))) (nI 256)) (cond (pm_cmp .le ((a ^^^ (Int32.ofInt (-1))) &&& (a - (nI 1))) (nI 65536)) ((a ^^^ (Int32.ofInt (-1))) &&& (a - (nI 1))) (ushr ((a ^^^ (Int32.ofInt (-1))) &&& (a - (nI 1))) (nI 16))) (ushr (cond (pm_cmp .le ((a ^^^ (Int32.ofInt (-1))) &&& (a - (nI 1))) (nI 65536)) ((a ^^^ (Int32.ofInt (-1))) &&& (a - (nI 1))) (ushr ((a ^^^ (Int32.ofInt (-1))) &&& (a - (nI 1))) (nI 16))) (nI 8))) (nI 16)) (62, [some (.int (cond (pm_cmp .le (cond (pm_cmp .le ((a ^^^ (Int32.ofInt (-1))) &&& (a - (nI 1))) (nI 65536)) ((a ^^^ (Int32.ofInt (-1))) &&& (a - (nI 1))) (ushr ((a ^^^ (Int32.ofInt (-1))) &&& (a - (nI 1))) (nI 16))) (nI 256)) (cond (pm_cmp .le ((a ^^^ (Int32.ofInt (-1))) &&& (a - (nI 1))) (nI 65536)) ((a ^^^ (Int32.ofInt (-1))) &&& (a - (nI 1))) (ushr ((a ^^^ (Int32.ofInt (-1))) &&& (a - (nI 1))) (nI 16))) (ushr (cond (pm_cmp .le ((a ^^^ (Int32.ofInt (-1))) &&& (a - (nI 1))) (nI 65536)) ((a ^^^ (Int32.ofInt (-1))) &&& (a - (nI 1))) (ushr ((a ^^^ (Int32.ofInt (-1))) &&& (a - (nI 1))) (nI 16))) (nI 8)))), some (.int (cond (pm_cmp .le (cond (pm_cmp .le ((a ^^^ (Int32.ofInt (-1))) &&& (a - (nI 1))) (nI 65536)) ((a ^^^ (Int32.ofInt (-1))) &&& (a - (nI 1))) (ushr ((a ^^^ (Int32.ofInt (-1))) &&& (a - (nI 1))) (nI 16))) (nI 256)) (cond (pm_cmp .le ((a ^^^ (Int32.ofInt (-1))) &&& (a - (nI 1))) (nI 65536)) (nI 1) (nI 17)) ((cond (pm_cmp .le ((a ^^^ (Int32.ofInt (-1))) &&& (a - (nI 1))) (nI 65536)) (nI 1) (nI 17)) + Int32.ofInt 8)))], [], h, 198, sl) (62, [some (.int (ushr (cond (pm_cmp .le (cond (pm_cmp .le ((a ^^^ (Int32.ofInt (-1))) &&& (a - (nI 1))) (nI 65536)) ((a ^^^ (Int32.ofInt (-1))) &&& (a - (nI 1))) (ushr ((a ^^^ (Int32.ofInt (-1))) &&& (a - (nI 1))) (nI 16))) (nI 256)) (cond (pm_cmp .le ((a ^^^ (Int32.ofInt (-1))) &&& (a - (nI 1))) (nI 65536)) ((a ^^^ (Int32.ofInt (-1))) &&& (a - (nI 1))) (ushr ((a ^^^ (Int32.ofInt (-1))) &&& (a - (nI 1))) (nI 16))) (ushr (cond (pm_cmp .le ((a ^^^ (Int32.ofInt (-1))) &&& (a - (nI 1))) (nI 65536)) ((a ^^^ (Int32.ofInt (-1))) &&& (a - (nI 1))) (ushr ((a ^^^ (Int32.ofInt (-1))) &&& (a - (nI 1))) (nI 16))) (nI 8))) (nI 4))), some (.int ((cond (pm_cmp .le (cond (pm_cmp .le ((a ^^^ (Int32.ofInt (-1))) &&& (a - (nI 1))) (nI 65536)) ((a ^^^ (Int32.ofInt (-1))) &&& (a - (nI 1))) (ushr ((a ^^^ (Int32.ofInt (-1))) &&& (a - (nI 1))) (nI 16))) (nI 256)) (cond (pm_cmp .le ((a ^^^ (Int32.ofInt (-1))) &&& (a - (nI 1))) (nI 65536)) (nI 1) (nI 17)) ((cond (pm_cmp .le ((a ^^^ (Int32.ofInt (-1))) &&& (a - (nI 1))) (nI 65536)) (nI 1) (nI 17)) + Int32.ofInt 8)) + Int32.ofInt 4))], [], h, 198, sl) : pm_St) = (62, [some (.int (cond (pm_cmp .le (cond (pm_cmp .le (cond (pm_cmp .le ((a ^^^ (Int32.ofInt (-1))) &&& (a - (nI 1))) (nI 65536)) ((a ^^^ (Int32.ofInt (-1))) &&& (a - (nI 1))) (ushr ((a ^^^ (Int32.ofInt (-1))) &&& (a - (nI 1))) (nI 16))) (nI 256)) (cond (pm_cmp .le ((a ^^^ (Int32.ofInt (-1))) &&& (a - (nI 1))) (nI 65536)) ((a ^^^ (Int32.ofInt (-1))) &&& (a - (nI 1))) (ushr ((a ^^^ (Int32.ofInt (-1))) &&& (a - (nI 1))) (nI 16))) (ushr (cond (pm_cmp .le ((a ^^^ (Int32.ofInt (-1))) &&& (a - (nI 1))) (nI 65536)) ((a ^^^ (Int32.ofInt (-1))) &&& (a - (nI 1))) (ushr ((a ^^^ (Int32.ofInt (-1))) &&& (a - (nI 1))) (nI 16))) (nI 8))) (nI 16)) (cond (pm_cmp .le (cond (pm_cmp .le ((a ^^^ (Int32.ofInt (-1))) &&& (a - (nI 1))) (nI 65536)) ((a ^^^ (Int32.ofInt (-1))) &&& (a - (nI 1))) (ushr ((a ^^^ (Int32.ofInt (-1))) &&& (a - (nI 1))) (nI 16))) (nI 256)) (cond (pm_cmp .le ((a ^^^ (Int32.ofInt (-1))) &&& (a - (nI 1))) (nI 65536)) ((a ^^^ (Int32.ofInt (-1))) &&& (a - (nI 1))) (ushr ((a ^^^ (Int32.ofInt (-1))) &&& (a - (nI 1))) (nI 16))) (ushr (cond (pm_cmp .le ((a ^^^ (Int32.ofInt (-1))) &&& (a - (nI 1))) (nI 65536)) ((a ^^^ (Int32.ofInt (-1))) &&& (a - (nI 1))) (ushr ((a ^^^ (Int32.ofInt (-1))) &&& (a - (nI 1))) (nI 16))) (nI 8))) (ushr (cond (pm_cmp .le (cond (pm_cmp .le ((a ^^^ (Int32.ofInt (-1))) &&& (a - (nI 1))) (nI 65536)) ((a ^^^ (Int32.ofInt (-1))) &&& (a - (nI 1))) (ushr ((a ^^^ (Int32.ofInt (-1))) &&& (a - (nI 1))) (nI 16))) (nI 256)) (cond (pm_cmp .le ((a ^^^ (Int32.ofInt (-1))) &&& (a - (nI 1))) (nI 65536)) ((a ^^^ (Int32.ofInt (-1))) &&& (a - (nI 1))) (ushr ((a ^^^ (Int32.ofInt (-1))) &&& (a - (nI 1))) (nI 16))) (ushr (cond (pm_cmp .le ((a ^^^ (Int32.ofInt (-1))) &&& (a - (nI 1))) (nI 65536)) ((a ^^^ (Int32.ofInt (-1))) &&& (a - (nI 1))) (ushr ((a ^^^ (Int32.ofInt (-1))) &&& (a - (nI 1))) (nI 16))) (nI 8))) (nI 4)))), some (.int (cond (pm_cmp .le (cond (pm_cmp .le (cond (pm_cmp .le ((a ^^^ (Int32.ofInt (-1))) &&& (a - (nI 1))) (nI 65536)) ((a ^^^ (Int32.ofInt (-1))) &&& (a - (nI 1))) (ushr ((a ^^^ (Int32.ofInt (-1))) &&& (a - (nI 1))) (nI 16))) (nI 256)) (cond (pm_cmp .le ((a ^^^ (Int32.ofInt (-1))) &&& (a - (nI 1))) (nI 65536)) ((a ^^^ (Int32.ofInt (-1))) &&& (a - (nI 1))) (ushr ((a ^^^ (Int32.ofInt (-1))) &&& (a - (nI 1))) (nI 16))) (ushr (cond (pm_cmp .le ((a ^^^ (Int32.ofInt (-1))) &&& (a - (nI 1))) (nI 65536)) ((a ^^^ (Int32.ofInt (-1))) &&& (a - (nI 1))) (ushr ((a ^^^ (Int32.ofInt (-1))) &&& (a - (nI 1))) (nI 16))) (nI 8))) (nI 16)) (cond (pm_cmp .le (cond (pm_cmp .le ((a ^^^ (Int32.ofInt (-1))) &&& (a - (nI 1))) (nI 65536)) ((a ^^^ (Int32.ofInt (-1))) &&& (a - (nI 1))) (ushr ((a ^^^ (Int32.ofInt (-1))) &&& (a - (nI 1))) (nI 16))) (nI 256)) (cond (pm_cmp .le ((a ^^^ (Int32.ofInt (-1))) &&& (a - (nI 1))) (nI 65536)) (nI 1) (nI 17)) ((cond (pm_cmp .le ((a ^^^ (Int32.ofInt (-1))) &&& (a - (nI 1))) (nI 65536)) (nI 1) (nI 17)) + Int32.ofInt 8)) ((cond (pm_cmp .le (cond (pm_cmp .le ((a ^^^ (Int32.ofInt (-1))) &&& (a - (nI 1))) (nI 65536)) ((a ^^^ (Int32.ofInt (-1))) &&& (a - (nI 1))) (ushr ((a ^^^ (Int32.ofInt (-1))) &&& (a - (nI 1))) (nI 16))) (nI 256)) (cond (pm_cmp .le ((a ^^^ (Int32.ofInt (-1))) &&& (a - (nI 1))) (nI 65536)) (nI 1) (nI 17)) ((cond (pm_cmp .le ((a ^^^ (Int32.ofInt (-1))) &&& (a - (nI 1))) (nI 65536)) (nI 1) (nI 17)) + Int32.ofInt 8)) + Int32.ofInt 4)))], [], h, 198, sl) from by cases (pm_cmp .le (cond (pm_cmp .le (cond (pm_cmp .le ((a ^^^ (Int32.ofInt (-1))) &&& (a - (nI 1))) (nI 65536)) ((a ^^^ (Int32.ofInt (-1))) &&& (a - (nI 1))) (ushr ((a ^^^ (Int32.ofInt (-1))) &&& (a - (nI 1))) (nI 16))) (nI 256)) (cond (pm_cmp .le ((a ^^^ (Int32.ofInt (-1))) &&& (a - (nI 1))) (nI 65536)) ((a ^^^ (Int32.ofInt (-1))) &&& (a - (nI 1))) (ushr ((a ^^^ (Int32.ofInt (-1))) &&& (a - (nI 1))) (nI 16))) (ushr (cond (pm_cmp .le ((a ^^^ (Int32.ofInt (-1))) &&& (a - (nI 1))) (nI 65536)) ((a ^^^ (Int32.ofInt (-1))) &&& (a - (nI 1))) (ushr ((a ^^^ (Int32.ofInt (-1))) &&& (a - (nI 1))) (nI 16))) (nI 8))) (nI 16)) <;> rfl] at hh
    obtain ⟨n, hh⟩ := rn_i rfl rfl rfl rfl hh
    obtain ⟨n, hh⟩ := rn_i rfl rfl rfl rfl hh
    have hh : pm_run PT n fr lo 269 (64, [some (.int (cond (pm_cmp .le (cond (pm_cmp .le (cond (pm_cmp .le ((a ^^^ (Int32.ofInt (-1))) &&& (a - (nI 1))) (nI 65536)) ((a ^^^ (Int32.ofInt (-1))) &&& (a - (nI 1))) (ushr ((a ^^^ (Int32.ofInt (-1))) &&& (a - (nI 1))) (nI 16))) (nI 256)) (cond (pm_cmp .le ((a ^^^ (Int32.ofInt (-1))) &&& (a - (nI 1))) (nI 65536)) ((a ^^^ (Int32.ofInt (-1))) &&& (a - (nI 1))) (ushr ((a ^^^ (Int32.ofInt (-1))) &&& (a - (nI 1))) (nI 16))) (ushr (cond (pm_cmp .le ((a ^^^ (Int32.ofInt (-1))) &&& (a - (nI 1))) (nI 65536)) ((a ^^^ (Int32.ofInt (-1))) &&& (a - (nI 1))) (ushr ((a ^^^ (Int32.ofInt (-1))) &&& (a - (nI 1))) (nI 16))) (nI 8))) (nI 16)) (cond (pm_cmp .le (cond (pm_cmp .le ((a ^^^ (Int32.ofInt (-1))) &&& (a - (nI 1))) (nI 65536)) ((a ^^^ (Int32.ofInt (-1))) &&& (a - (nI 1))) (ushr ((a ^^^ (Int32.ofInt (-1))) &&& (a - (nI 1))) (nI 16))) (nI 256)) (cond (pm_cmp .le ((a ^^^ (Int32.ofInt (-1))) &&& (a - (nI 1))) (nI 65536)) ((a ^^^ (Int32.ofInt (-1))) &&& (a - (nI 1))) (ushr ((a ^^^ (Int32.ofInt (-1))) &&& (a - (nI 1))) (nI 16))) (ushr (cond (pm_cmp .le ((a ^^^ (Int32.ofInt (-1))) &&& (a - (nI 1))) (nI 65536)) ((a ^^^ (Int32.ofInt (-1))) &&& (a - (nI 1))) (ushr ((a ^^^ (Int32.ofInt (-1))) &&& (a - (nI 1))) (nI 16))) (nI 8))) (ushr (cond (pm_cmp .le (cond (pm_cmp .le ((a ^^^ (Int32.ofInt (-1))) &&& (a - (nI 1))) (nI 65536)) ((a ^^^ (Int32.ofInt (-1))) &&& (a - (nI 1))) (ushr ((a ^^^ (Int32.ofInt (-1))) &&& (a - (nI 1))) (nI 16))) (nI 256)) (cond (pm_cmp .le ((a ^^^ (Int32.ofInt (-1))) &&& (a - (nI 1))) (nI 65536)) ((a ^^^ (Int32.ofInt (-1))) &&& (a - (nI 1))) (ushr ((a ^^^ (Int32.ofInt (-1))) &&& (a - (nI 1))) (nI 16))) (ushr (cond (pm_cmp .le ((a ^^^ (Int32.ofInt (-1))) &&& (a - (nI 1))) (nI 65536)) ((a ^^^ (Int32.ofInt (-1))) &&& (a - (nI 1))) (ushr ((a ^^^ (Int32.ofInt (-1))) &&& (a - (nI 1))) (nI 16))) (nI 8))) (nI 4)))), some (.int (cond (pm_cmp .le (cond (pm_cmp .le (cond (pm_cmp .le ((a ^^^ (Int32.ofInt (-1))) &&& (a - (nI 1))) (nI 65536)) ((a ^^^ (Int32.ofInt (-1))) &&& (a - (nI 1))) (ushr ((a ^^^ (Int32.ofInt (-1))) &&& (a - (nI 1))) (nI 16))) (nI 256)) (cond (pm_cmp .le ((a ^^^ (Int32.ofInt (-1))) &&& (a - (nI 1))) (nI 65536)) ((a ^^^ (Int32.ofInt (-1))) &&& (a - (nI 1))) (ushr ((a ^^^ (Int32.ofInt (-1))) &&& (a - (nI 1))) (nI 16))) (ushr (cond (pm_cmp .le ((a ^^^ (Int32.ofInt (-1))) &&& (a - (nI 1))) (nI 65536)) ((a ^^^ (Int32.ofInt (-1))) &&& (a - (nI 1))) (ushr ((a ^^^ (Int32.ofInt (-1))) &&& (a - (nI 1))) (nI 16))) (nI 8))) (nI 16)) (cond (pm_cmp .le (cond (pm_cmp .le ((a ^^^ (Int32.ofInt (-1))) &&& (a - (nI 1))) (nI 65536)) ((a ^^^ (Int32.ofInt (-1))) &&& (a - (nI 1))) (ushr ((a ^^^ (Int32.ofInt (-1))) &&& (a - (nI 1))) (nI 16))) (nI 256)) (cond (pm_cmp .le ((a ^^^ (Int32.ofInt (-1))) &&& (a - (nI 1))) (nI 65536)) (nI 1) (nI 17)) ((cond (pm_cmp .le ((a ^^^ (Int32.ofInt (-1))) &&& (a - (nI 1))) (nI 65536)) (nI 1) (nI 17)) + Int32.ofInt 8)) ((cond (pm_cmp .le (cond (pm_cmp .le ((a ^^^ (Int32.ofInt (-1))) &&& (a - (nI 1))) (nI 65536)) ((a ^^^ (Int32.ofInt (-1))) &&& (a - (nI 1))) (ushr ((a ^^^ (Int32.ofInt (-1))) &&& (a - (nI 1))) (nI 16))) (nI 256)) (cond (pm_cmp .le ((a ^^^ (Int32.ofInt (-1))) &&& (a - (nI 1))) (nI 65536)) (nI 1) (nI 17)) ((cond (pm_cmp .le ((a ^^^ (Int32.ofInt (-1))) &&& (a - (nI 1))) (nI 65536)) (nI 1) (nI 17)) + Int32.ofInt 8)) + Int32.ofInt 4)))], [.int (nI 4), .int (cond (pm_cmp .le (cond (pm_cmp .le (cond (pm_cmp .le ((a ^^^ (Int32.ofInt (-1))) &&& (a - (nI 1))) (nI 65536)) ((a ^^^ (Int32.ofInt (-1))) &&& (a - (nI 1))) (ushr ((a ^^^ (Int32.ofInt (-1))) &&& (a - (nI 1))) (nI 16))) (nI 256)) (cond (pm_cmp .le ((a ^^^ (Int32.ofInt (-1))) &&& (a - (nI 1))) (nI 65536)) ((a ^^^ (Int32.ofInt (-1))) &&& (a - (nI 1))) (ushr ((a ^^^ (Int32.ofInt (-1))) &&& (a - (nI 1))) (nI 16))) (ushr (cond (pm_cmp .le ((a ^^^ (Int32.ofInt (-1))) &&& (a - (nI 1))) (nI 65536)) ((a ^^^ (Int32.ofInt (-1))) &&& (a - (nI 1))) (ushr ((a ^^^ (Int32.ofInt (-1))) &&& (a - (nI 1))) (nI 16))) (nI 8))) (nI 16)) (cond (pm_cmp .le (cond (pm_cmp .le ((a ^^^ (Int32.ofInt (-1))) &&& (a - (nI 1))) (nI 65536)) ((a ^^^ (Int32.ofInt (-1))) &&& (a - (nI 1))) (ushr ((a ^^^ (Int32.ofInt (-1))) &&& (a - (nI 1))) (nI 16))) (nI 256)) (cond (pm_cmp .le ((a ^^^ (Int32.ofInt (-1))) &&& (a - (nI 1))) (nI 65536)) ((a ^^^ (Int32.ofInt (-1))) &&& (a - (nI 1))) (ushr ((a ^^^ (Int32.ofInt (-1))) &&& (a - (nI 1))) (nI 16))) (ushr (cond (pm_cmp .le ((a ^^^ (Int32.ofInt (-1))) &&& (a - (nI 1))) (nI 65536)) ((a ^^^ (Int32.ofInt (-1))) &&& (a - (nI 1))) (ushr ((a ^^^ (Int32.ofInt (-1))) &&& (a - (nI 1))) (nI 16))) (nI 8))) (ushr (cond (pm_cmp .le (cond (pm_cmp .le ((a ^^^ (Int32.ofInt (-1))) &&& (a - (nI 1))) (nI 65536)) ((a ^^^ (Int32.ofInt (-1))) &&& (a - (nI 1))) (ushr ((a ^^^ (Int32.ofInt (-1))) &&& (a - (nI 1))) (nI 16))) (nI 256)) (cond (pm_cmp .le ((a ^^^ (Int32.ofInt (-1))) &&& (a - (nI 1))) (nI 65536)) ((a ^^^ (Int32.ofInt (-1))) &&& (a - (nI 1))) (ushr ((a ^^^ (Int32.ofInt (-1))) &&& (a - (nI 1))) (nI 16))) (ushr (cond (pm_cmp .le ((a ^^^ (Int32.ofInt (-1))) &&& (a - (nI 1))) (nI 65536)) ((a ^^^ (Int32.ofInt (-1))) &&& (a - (nI 1))) (ushr ((a ^^^ (Int32.ofInt (-1))) &&& (a - (nI 1))) (nI 16))) (nI 8))) (nI 4)))], h, 198, sl) = some R := hh
    obtain ⟨n, hh⟩ := en_cn (cc := .le) (off := 10) (t := 74) (b := pm_cmp .le (cond (pm_cmp .le (cond (pm_cmp .le (cond (pm_cmp .le ((a ^^^ (Int32.ofInt (-1))) &&& (a - (nI 1))) (nI 65536)) ((a ^^^ (Int32.ofInt (-1))) &&& (a - (nI 1))) (ushr ((a ^^^ (Int32.ofInt (-1))) &&& (a - (nI 1))) (nI 16))) (nI 256)) (cond (pm_cmp .le ((a ^^^ (Int32.ofInt (-1))) &&& (a - (nI 1))) (nI 65536)) ((a ^^^ (Int32.ofInt (-1))) &&& (a - (nI 1))) (ushr ((a ^^^ (Int32.ofInt (-1))) &&& (a - (nI 1))) (nI 16))) (ushr (cond (pm_cmp .le ((a ^^^ (Int32.ofInt (-1))) &&& (a - (nI 1))) (nI 65536)) ((a ^^^ (Int32.ofInt (-1))) &&& (a - (nI 1))) (ushr ((a ^^^ (Int32.ofInt (-1))) &&& (a - (nI 1))) (nI 16))) (nI 8))) (nI 16)) (cond (pm_cmp .le (cond (pm_cmp .le ((a ^^^ (Int32.ofInt (-1))) &&& (a - (nI 1))) (nI 65536)) ((a ^^^ (Int32.ofInt (-1))) &&& (a - (nI 1))) (ushr ((a ^^^ (Int32.ofInt (-1))) &&& (a - (nI 1))) (nI 16))) (nI 256)) (cond (pm_cmp .le ((a ^^^ (Int32.ofInt (-1))) &&& (a - (nI 1))) (nI 65536)) ((a ^^^ (Int32.ofInt (-1))) &&& (a - (nI 1))) (ushr ((a ^^^ (Int32.ofInt (-1))) &&& (a - (nI 1))) (nI 16))) (ushr (cond (pm_cmp .le ((a ^^^ (Int32.ofInt (-1))) &&& (a - (nI 1))) (nI 65536)) ((a ^^^ (Int32.ofInt (-1))) &&& (a - (nI 1))) (ushr ((a ^^^ (Int32.ofInt (-1))) &&& (a - (nI 1))) (nI 16))) (nI 8))) (ushr (cond (pm_cmp .le (cond (pm_cmp .le ((a ^^^ (Int32.ofInt (-1))) &&& (a - (nI 1))) (nI 65536)) ((a ^^^ (Int32.ofInt (-1))) &&& (a - (nI 1))) (ushr ((a ^^^ (Int32.ofInt (-1))) &&& (a - (nI 1))) (nI 16))) (nI 256)) (cond (pm_cmp .le ((a ^^^ (Int32.ofInt (-1))) &&& (a - (nI 1))) (nI 65536)) ((a ^^^ (Int32.ofInt (-1))) &&& (a - (nI 1))) (ushr ((a ^^^ (Int32.ofInt (-1))) &&& (a - (nI 1))) (nI 16))) (ushr (cond (pm_cmp .le ((a ^^^ (Int32.ofInt (-1))) &&& (a - (nI 1))) (nI 65536)) ((a ^^^ (Int32.ofInt (-1))) &&& (a - (nI 1))) (ushr ((a ^^^ (Int32.ofInt (-1))) &&& (a - (nI 1))) (nI 16))) (nI 8))) (nI 4))) (nI 4)) rfl rfl rfl hh
    have hj9 : ∃ mJ, pm_run PT mJ fr lo 269 (cond (pm_cmp .le (cond (pm_cmp .le (cond (pm_cmp .le (cond (pm_cmp .le ((a ^^^ (Int32.ofInt (-1))) &&& (a - (nI 1))) (nI 65536)) ((a ^^^ (Int32.ofInt (-1))) &&& (a - (nI 1))) (ushr ((a ^^^ (Int32.ofInt (-1))) &&& (a - (nI 1))) (nI 16))) (nI 256)) (cond (pm_cmp .le ((a ^^^ (Int32.ofInt (-1))) &&& (a - (nI 1))) (nI 65536)) ((a ^^^ (Int32.ofInt (-1))) &&& (a - (nI 1))) (ushr ((a ^^^ (Int32.ofInt (-1))) &&& (a - (nI 1))) (nI 16))) (ushr (cond (pm_cmp .le ((a ^^^ (Int32.ofInt (-1))) &&& (a - (nI 1))) (nI 65536)) ((a ^^^ (Int32.ofInt (-1))) &&& (a - (nI 1))) (ushr ((a ^^^ (Int32.ofInt (-1))) &&& (a - (nI 1))) (nI 16))) (nI 8))) (nI 16)) (cond (pm_cmp .le (cond (pm_cmp .le ((a ^^^ (Int32.ofInt (-1))) &&& (a - (nI 1))) (nI 65536)) ((a ^^^ (Int32.ofInt (-1))) &&& (a - (nI 1))) (ushr ((a ^^^ (Int32.ofInt (-1))) &&& (a - (nI 1))) (nI 16))) (nI 256)) (cond (pm_cmp .le ((a ^^^ (Int32.ofInt (-1))) &&& (a - (nI 1))) (nI 65536)) ((a ^^^ (Int32.ofInt (-1))) &&& (a - (nI 1))) (ushr ((a ^^^ (Int32.ofInt (-1))) &&& (a - (nI 1))) (nI 16))) (ushr (cond (pm_cmp .le ((a ^^^ (Int32.ofInt (-1))) &&& (a - (nI 1))) (nI 65536)) ((a ^^^ (Int32.ofInt (-1))) &&& (a - (nI 1))) (ushr ((a ^^^ (Int32.ofInt (-1))) &&& (a - (nI 1))) (nI 16))) (nI 8))) (ushr (cond (pm_cmp .le (cond (pm_cmp .le ((a ^^^ (Int32.ofInt (-1))) &&& (a - (nI 1))) (nI 65536)) ((a ^^^ (Int32.ofInt (-1))) &&& (a - (nI 1))) (ushr ((a ^^^ (Int32.ofInt (-1))) &&& (a - (nI 1))) (nI 16))) (nI 256)) (cond (pm_cmp .le ((a ^^^ (Int32.ofInt (-1))) &&& (a - (nI 1))) (nI 65536)) ((a ^^^ (Int32.ofInt (-1))) &&& (a - (nI 1))) (ushr ((a ^^^ (Int32.ofInt (-1))) &&& (a - (nI 1))) (nI 16))) (ushr (cond (pm_cmp .le ((a ^^^ (Int32.ofInt (-1))) &&& (a - (nI 1))) (nI 65536)) ((a ^^^ (Int32.ofInt (-1))) &&& (a - (nI 1))) (ushr ((a ^^^ (Int32.ofInt (-1))) &&& (a - (nI 1))) (nI 16))) (nI 8))) (nI 4))) (nI 4)) (74, [some (.int (cond (pm_cmp .le (cond (pm_cmp .le (cond (pm_cmp .le ((a ^^^ (Int32.ofInt (-1))) &&& (a - (nI 1))) (nI 65536)) ((a ^^^ (Int32.ofInt (-1))) &&& (a - (nI 1))) (ushr ((a ^^^ (Int32.ofInt (-1))) &&& (a - (nI 1))) (nI 16))) (nI 256)) (cond (pm_cmp .le ((a ^^^ (Int32.ofInt (-1))) &&& (a - (nI 1))) (nI 65536)) ((a ^^^ (Int32.ofInt (-1))) &&& (a - (nI 1))) (ushr ((a ^^^ (Int32.ofInt (-1))) &&& (a - (nI 1))) (nI 16))) (ushr (cond (pm_cmp .le ((a ^^^ (Int32.ofInt (-1))) &&& (a - (nI 1))) (nI 65536)) ((a ^^^ (Int32.ofInt (-1))) &&& (a - (nI 1))) (ushr ((a ^^^ (Int32.ofInt (-1))) &&& (a - (nI 1))) (nI 16))) (nI 8))) (nI 16)) (cond (pm_cmp .le (cond (pm_cmp .le ((a ^^^ (Int32.ofInt (-1))) &&& (a - (nI 1))) (nI 65536)) ((a ^^^ (Int32.ofInt (-1))) &&& (a - (nI 1))) (ushr ((a ^^^ (Int32.ofInt (-1))) &&& (a - (nI 1))) (nI 16))) (nI 256)) (cond (pm_cmp .le ((a ^^^ (Int32.ofInt (-1))) &&& (a - (nI 1))) (nI 65536)) ((a ^^^ (Int32.ofInt (-1))) &&& (a - (nI 1))) (ushr ((a ^^^ (Int32.ofInt (-1))) &&& (a - (nI 1))) (nI 16))) (ushr (cond (pm_cmp .le ((a ^^^ (Int32.ofInt (-1))) &&& (a - (nI 1))) (nI 65536)) ((a ^^^ (Int32.ofInt (-1))) &&& (a - (nI 1))) (ushr ((a ^^^ (Int32.ofInt (-1))) &&& (a - (nI 1))) (nI 16))) (nI 8))) (ushr (cond (pm_cmp .le (cond (pm_cmp .le ((a ^^^ (Int32.ofInt (-1))) &&& (a - (nI 1))) (nI 65536)) ((a ^^^ (Int32.ofInt (-1))) &&& (a - (nI 1))) (ushr ((a ^^^ (Int32.ofInt (-1))) &&& (a - (nI 1))) (nI 16))) (nI 256)) (cond (pm_cmp .le ((a ^^^ (Int32.ofInt (-1))) &&& (a - (nI 1))) (nI 65536)) ((a ^^^ (Int32.ofInt (-1))) &&& (a - (nI 1))) (ushr ((a ^^^ (Int32.ofInt (-1))) &&& (a - (nI 1))) (nI 16))) (ushr (cond (pm_cmp .le ((a ^^^ (Int32.ofInt (-1))) &&& (a - (nI 1))) (nI 65536)) ((a ^^^ (Int32.ofInt (-1))) &&& (a - (nI 1))) (ushr ((a ^^^ (Int32.ofInt (-1))) &&& (a - (nI 1))) (nI 16))) (nI 8))) (nI 4)))), some (.int (cond (pm_cmp .le (cond (pm_cmp .le (cond (pm_cmp .le ((a ^^^ (Int32.ofInt (-1))) &&& (a - (nI 1))) (nI 65536)) ((a ^^^ (Int32.ofInt (-1))) &&& (a - (nI 1))) (ushr ((a ^^^ (Int32.ofInt (-1))) &&& (a - (nI 1))) (nI 16))) (nI 256)) (cond (pm_cmp .le ((a ^^^ (Int32.ofInt (-1))) &&& (a - (nI 1))) (nI 65536)) ((a ^^^ (Int32.ofInt (-1))) &&& (a - (nI 1))) (ushr ((a ^^^ (Int32.ofInt (-1))) &&& (a - (nI 1))) (nI 16))) (ushr (cond (pm_cmp .le ((a ^^^ (Int32.ofInt (-1))) &&& (a - (nI 1))) (nI 65536)) ((a ^^^ (Int32.ofInt (-1))) &&& (a - (nI 1))) (ushr ((a ^^^ (Int32.ofInt (-1))) &&& (a - (nI 1))) (nI 16))) (nI 8))) (nI 16)) (cond (pm_cmp .le (cond (pm_cmp .le ((a ^^^ (Int32.ofInt (-1))) &&& (a - (nI 1))) (nI 65536)) ((a ^^^ (Int32.ofInt (-1))) &&& (a - (nI 1))) (ushr ((a ^^^ (Int32.ofInt (-1))) &&& (a - (nI 1))) (nI 16))) (nI 256)) (cond (pm_cmp .le ((a ^^^ (Int32.ofInt (-1))) &&& (a - (nI 1))) (nI 65536)) (nI 1) (nI 17)) ((cond (pm_cmp .le ((a ^^^ (Int32.ofInt (-1))) &&& (a - (nI 1))) (nI 65536)) (nI 1) (nI 17)) + Int32.ofInt 8)) ((cond (pm_cmp .le (cond (pm_cmp .le ((a ^^^ (Int32.ofInt (-1))) &&& (a - (nI 1))) (nI 65536)) ((a ^^^ (Int32.ofInt (-1))) &&& (a - (nI 1))) (ushr ((a ^^^ (Int32.ofInt (-1))) &&& (a - (nI 1))) (nI 16))) (nI 256)) (cond (pm_cmp .le ((a ^^^ (Int32.ofInt (-1))) &&& (a - (nI 1))) (nI 65536)) (nI 1) (nI 17)) ((cond (pm_cmp .le ((a ^^^ (Int32.ofInt (-1))) &&& (a - (nI 1))) (nI 65536)) (nI 1) (nI 17)) + Int32.ofInt 8)) + Int32.ofInt 4)))], [], h, 198, sl) (74, [some (.int (ushr (cond (pm_cmp .le (cond (pm_cmp .le (cond (pm_cmp .le ((a ^^^ (Int32.ofInt (-1))) &&& (a - (nI 1))) (nI 65536)) ((a ^^^ (Int32.ofInt (-1))) &&& (a - (nI 1))) (ushr ((a ^^^ (Int32.ofInt (-1))) &&& (a - (nI 1))) (nI 16))) (nI 256)) (cond (pm_cmp .le ((a ^^^ (Int32.ofInt (-1))) &&& (a - (nI 1))) (nI 65536)) ((a ^^^ (Int32.ofInt (-1))) &&& (a - (nI 1))) (ushr ((a ^^^ (Int32.ofInt (-1))) &&& (a - (nI 1))) (nI 16))) (ushr (cond (pm_cmp .le ((a ^^^ (Int32.ofInt (-1))) &&& (a - (nI 1))) (nI 65536)) ((a ^^^ (Int32.ofInt (-1))) &&& (a - (nI 1))) (ushr ((a ^^^ (Int32.ofInt (-1))) &&& (a - (nI 1))) (nI 16))) (nI 8))) (nI 16)) (cond (pm_cmp .le (cond (pm_cmp .le ((a ^^^ (Int32.ofInt (-1))) &&& (a - (nI 1))) (nI 65536)) ((a ^^^ (Int32.ofInt (-1))) &&& (a - (nI 1))) (ushr ((a ^^^ (Int32.ofInt (-1))) &&& (a - (nI 1))) (nI 16))) (nI 256)) (cond (pm_cmp .le ((a ^^^ (Int32.ofInt (-1))) &&& (a - (nI 1))) (nI 65536)) ((a ^^^ (Int32.ofInt (-1))) &&& (a - (nI 1))) (ushr ((a ^^^ (Int32.ofInt (-1))) &&& (a - (nI 1))) (nI 16))) (ushr (cond (pm_cmp .le ((a ^^^ (Int32.ofInt (-1))) &&& (a - (nI 1))) (nI 65536)) ((a ^^^ (Int32.ofInt (-1))) &&& (a - (nI 1))) (ushr ((a ^^^ (Int32.ofInt (-1))) &&& (a - (nI 1))) (nI 16))) (nI 8))) (ushr (cond (pm_cmp .le (cond (pm_cmp .le ((a ^^^ (Int32.ofInt (-1))) &&& (a - (nI 1))) (nI 65536)) ((a ^^^ (Int32.ofInt (-1))) &&& (a - (nI 1))) (ushr ((a ^^^ (Int32.ofInt (-1))) &&& (a - (nI 1))) (nI 16))) (nI 256)) (cond (pm_cmp .le ((a ^^^ (Int32.ofInt (-1))) &&& (a - (nI 1))) (nI 65536)) ((a ^^^ (Int32.ofInt (-1))) &&& (a - (nI 1))) (ushr ((a ^^^ (Int32.ofInt (-1))) &&& (a - (nI 1))) (nI 16))) (ushr (cond (pm_cmp .le ((a ^^^ (Int32.ofInt (-1))) &&& (a - (nI 1))) (nI 65536)) ((a ^^^ (Int32.ofInt (-1))) &&& (a - (nI 1))) (ushr ((a ^^^ (Int32.ofInt (-1))) &&& (a - (nI 1))) (nI 16))) (nI 8))) (nI 4))) (nI 2))), some (.int ((cond (pm_cmp .le (cond (pm_cmp .le (cond (pm_cmp .le ((a ^^^ (Int32.ofInt (-1))) &&& (a - (nI 1))) (nI 65536)) ((a ^^^ (Int32.ofInt (-1))) &&& (a - (nI 1))) (ushr ((a ^^^ (Int32.ofInt (-1))) &&& (a - (nI 1))) (nI 16))) (nI 256)) (cond (pm_cmp .le ((a ^^^ (Int32.ofInt (-1))) &&& (a - (nI 1))) (nI 65536)) ((a ^^^ (Int32.ofInt (-1))) &&& (a - (nI 1))) (ushr ((a ^^^ (Int32.ofInt (-1))) &&& (a - (nI 1))) (nI 16))) (ushr (cond (pm_cmp .le ((a ^^^ (Int32.ofInt (-1))) &&& (a - (nI 1))) (nI 65536)) ((a ^^^ (Int32.ofInt (-1))) &&& (a - (nI 1))) (ushr ((a ^^^ (Int32.ofInt (-1))) &&& (a - (nI 1))) (nI 16))) (nI 8))) (nI 16)) (cond (pm_cmp .le (cond (pm_cmp .le ((a ^^^ (Int32.ofInt (-1))) &&& (a - (nI 1))) (nI 65536)) ((a ^^^ (Int32.ofInt (-1))) &&& (a - (nI 1))) (ushr ((a ^^^ (Int32.ofInt (-1))) &&& (a - (nI 1))) (nI 16))) (nI 256)) (cond (pm_cmp .le ((a ^^^ (Int32.ofInt (-1))) &&& (a - (nI 1))) (nI 65536)) (nI 1) (nI 17)) ((cond (pm_cmp .le ((a ^^^ (Int32.ofInt (-1))) &&& (a - (nI 1))) (nI 65536)) (nI 1) (nI 17)) + Int32.ofInt 8)) ((cond (pm_cmp .le (cond (pm_cmp .le ((a ^^^ (Int32.ofInt (-1))) &&& (a - (nI 1))) (nI 65536)) ((a ^^^ (Int32.ofInt (-1))) &&& (a - (nI 1))) (ushr ((a ^^^ (Int32.ofInt (-1))) &&& (a - (nI 1))) (nI 16))) (nI 256)) (cond (pm_cmp .le ((a ^^^ (Int32.ofInt (-1))) &&& (a - (nI 1))) (nI 65536)) (nI 1) (nI 17)) ((cond (pm_cmp .le ((a ^^^ (Int32.ofInt (-1))) &&& (a - (nI 1))) (nI 65536)) (nI 1) (nI 17)) + Int32.ofInt 8)) + Int32.ofInt 4)) + Int32.ofInt 2))], [], h, 198, sl)) = some R := en_J (fun z8 => by
        have hh := en_t z8 hh
        have hh : pm_run PT n fr lo 269 (74, [some (.int (cond (pm_cmp .le (cond (pm_cmp .le (cond (pm_cmp .le ((a ^^^ (Int32.ofInt (-1))) &&& (a - (nI 1))) (nI 65536)) ((a ^^^ (Int32.ofInt (-1))) &&& (a - (nI 1))) (ushr ((a ^^^ (Int32.ofInt (-1))) &&& (a - (nI 1))) (nI 16))) (nI 256)) (cond (pm_cmp .le ((a ^^^ (Int32.ofInt (-1))) &&& (a - (nI 1))) (nI 65536)) ((a ^^^ (Int32.ofInt (-1))) &&& (a - (nI 1))) (ushr ((a ^^^ (Int32.ofInt (-1))) &&& (a - (nI 1))) (nI 16))) (ushr (cond (pm_cmp .le ((a ^^^ (Int32.ofInt (-1))) &&& (a - (nI 1))) (nI 65536)) ((a ^^^ (Int32.ofInt (-1))) &&& (a - (nI 1))) (ushr ((a ^^^ (Int32.ofInt (-1))) &&& (a - (nI 1))) (nI 16))) (nI 8))) (nI 16)) (cond (pm_cmp .le (cond (pm_cmp .le ((a ^^^ (Int32.ofInt (-1))) &&& (a - (nI 1))) (nI 65536)) ((a ^^^ (Int32.ofInt (-1))) &&& (a - (nI 1))) (ushr ((a ^^^ (Int32.ofInt (-1))) &&& (a - (nI 1))) (nI 16))) (nI 256)) (cond (pm_cmp .le ((a ^^^ (Int32.ofInt (-1))) &&& (a - (nI 1))) (nI 65536)) ((a ^^^ (Int32.ofInt (-1))) &&& (a - (nI 1))) (ushr ((a ^^^ (Int32.ofInt (-1))) &&& (a - (nI 1))) (nI 16))) (ushr (cond (pm_cmp .le ((a ^^^ (Int32.ofInt (-1))) &&& (a - (nI 1))) (nI 65536)) ((a ^^^ (Int32.ofInt (-1))) &&& (a - (nI 1))) (ushr ((a ^^^ (Int32.ofInt (-1))) &&& (a - (nI 1))) (nI 16))) (nI 8))) (ushr (cond (pm_cmp .le (cond (pm_cmp .le ((a ^^^ (Int32.ofInt (-1))) &&& (a - (nI 1))) (nI 65536)) ((a ^^^ (Int32.ofInt (-1))) &&& (a - (nI 1))) (ushr ((a ^^^ (Int32.ofInt (-1))) &&& (a - (nI 1))) (nI 16))) (nI 256)) (cond (pm_cmp .le ((a ^^^ (Int32.ofInt (-1))) &&& (a - (nI 1))) (nI 65536)) ((a ^^^ (Int32.ofInt (-1))) &&& (a - (nI 1))) (ushr ((a ^^^ (Int32.ofInt (-1))) &&& (a - (nI 1))) (nI 16))) (ushr (cond (pm_cmp .le ((a ^^^ (Int32.ofInt (-1))) &&& (a - (nI 1))) (nI 65536)) ((a ^^^ (Int32.ofInt (-1))) &&& (a - (nI 1))) (ushr ((a ^^^ (Int32.ofInt (-1))) &&& (a - (nI 1))) (nI 16))) (nI 8))) (nI 4)))), some (.int (cond (pm_cmp .le (cond (pm_cmp .le (cond (pm_cmp .le ((a ^^^ (Int32.ofInt (-1))) &&& (a - (nI 1))) (nI 65536)) ((a ^^^ (Int32.ofInt (-1))) &&& (a - (nI 1))) (ushr ((a ^^^ (Int32.ofInt (-1))) &&& (a - (nI 1))) (nI 16))) (nI 256)) (cond (pm_cmp .le ((a ^^^ (Int32.ofInt (-1))) &&& (a - (nI 1))) (nI 65536)) ((a ^^^ (Int32.ofInt (-1))) &&& (a - (nI 1))) (ushr ((a ^^^ (Int32.ofInt (-1))) &&& (a - (nI 1))) (nI 16))) (ushr (cond (pm_cmp .le ((a ^^^ (Int32.ofInt (-1))) &&& (a - (nI 1))) (nI 65536)) ((a ^^^ (Int32.ofInt (-1))) &&& (a - (nI 1))) (ushr ((a ^^^ (Int32.ofInt (-1))) &&& (a - (nI 1))) (nI 16))) (nI 8))) (nI 16)) (cond (pm_cmp .le (cond (pm_cmp .le ((a ^^^ (Int32.ofInt (-1))) &&& (a - (nI 1))) (nI 65536)) ((a ^^^ (Int32.ofInt (-1))) &&& (a - (nI 1))) (ushr ((a ^^^ (Int32.ofInt (-1))) &&& (a - (nI 1))) (nI 16))) (nI 256)) (cond (pm_cmp .le ((a ^^^ (Int32.ofInt (-1))) &&& (a - (nI 1))) (nI 65536)) (nI 1) (nI 17)) ((cond (pm_cmp .le ((a ^^^ (Int32.ofInt (-1))) &&& (a - (nI 1))) (nI 65536)) (nI 1) (nI 17)) + Int32.ofInt 8)) ((cond (pm_cmp .le (cond (pm_cmp .le ((a ^^^ (Int32.ofInt (-1))) &&& (a - (nI 1))) (nI 65536)) ((a ^^^ (Int32.ofInt (-1))) &&& (a - (nI 1))) (ushr ((a ^^^ (Int32.ofInt (-1))) &&& (a - (nI 1))) (nI 16))) (nI 256)) (cond (pm_cmp .le ((a ^^^ (Int32.ofInt (-1))) &&& (a - (nI 1))) (nI 65536)) (nI 1) (nI 17)) ((cond (pm_cmp .le ((a ^^^ (Int32.ofInt (-1))) &&& (a - (nI 1))) (nI 65536)) (nI 1) (nI 17)) + Int32.ofInt 8)) + Int32.ofInt 4)))], [], h, 198, sl) = some R := hh
        exact ⟨n, hh⟩) (fun z8 => by
        have hh := en_f z8 hh
        have hh : pm_run PT n fr lo 269 (67, [some (.int (cond (pm_cmp .le (cond (pm_cmp .le (cond (pm_cmp .le ((a ^^^ (Int32.ofInt (-1))) &&& (a - (nI 1))) (nI 65536)) ((a ^^^ (Int32.ofInt (-1))) &&& (a - (nI 1))) (ushr ((a ^^^ (Int32.ofInt (-1))) &&& (a - (nI 1))) (nI 16))) (nI 256)) (cond (pm_cmp .le ((a ^^^ (Int32.ofInt (-1))) &&& (a - (nI 1))) (nI 65536)) ((a ^^^ (Int32.ofInt (-1))) &&& (a - (nI 1))) (ushr ((a ^^^ (Int32.ofInt (-1))) &&& (a - (nI 1))) (nI 16))) (ushr (cond (pm_cmp .le ((a ^^^ (Int32.ofInt (-1))) &&& (a - (nI 1))) (nI 65536)) ((a ^^^ (Int32.ofInt (-1))) &&& (a - (nI 1))) (ushr ((a ^^^ (Int32.ofInt (-1))) &&& (a - (nI 1))) (nI 16))) (nI 8))) (nI 16)) (cond (pm_cmp .le (cond (pm_cmp .le ((a ^^^ (Int32.ofInt (-1))) &&& (a - (nI 1))) (nI 65536)) ((a ^^^ (Int32.ofInt (-1))) &&& (a - (nI 1))) (ushr ((a ^^^ (Int32.ofInt (-1))) &&& (a - (nI 1))) (nI 16))) (nI 256)) (cond (pm_cmp .le ((a ^^^ (Int32.ofInt (-1))) &&& (a - (nI 1))) (nI 65536)) ((a ^^^ (Int32.ofInt (-1))) &&& (a - (nI 1))) (ushr ((a ^^^ (Int32.ofInt (-1))) &&& (a - (nI 1))) (nI 16))) (ushr (cond (pm_cmp .le ((a ^^^ (Int32.ofInt (-1))) &&& (a - (nI 1))) (nI 65536)) ((a ^^^ (Int32.ofInt (-1))) &&& (a - (nI 1))) (ushr ((a ^^^ (Int32.ofInt (-1))) &&& (a - (nI 1))) (nI 16))) (nI 8))) (ushr (cond (pm_cmp .le (cond (pm_cmp .le ((a ^^^ (Int32.ofInt (-1))) &&& (a - (nI 1))) (nI 65536)) ((a ^^^ (Int32.ofInt (-1))) &&& (a - (nI 1))) (ushr ((a ^^^ (Int32.ofInt (-1))) &&& (a - (nI 1))) (nI 16))) (nI 256)) (cond (pm_cmp .le ((a ^^^ (Int32.ofInt (-1))) &&& (a - (nI 1))) (nI 65536)) ((a ^^^ (Int32.ofInt (-1))) &&& (a - (nI 1))) (ushr ((a ^^^ (Int32.ofInt (-1))) &&& (a - (nI 1))) (nI 16))) (ushr (cond (pm_cmp .le ((a ^^^ (Int32.ofInt (-1))) &&& (a - (nI 1))) (nI 65536)) ((a ^^^ (Int32.ofInt (-1))) &&& (a - (nI 1))) (ushr ((a ^^^ (Int32.ofInt (-1))) &&& (a - (nI 1))) (nI 16))) (nI 8))) (nI 4)))), some (.int (cond (pm_cmp .le (cond (pm_cmp .le (cond (pm_cmp .le ((a ^^^ (Int32.ofInt (-1))) &&& (a - (nI 1))) (nI 65536)) ((a ^^^ (Int32.ofInt (-1))) &&& (a - (nI 1))) (ushr ((a ^^^ (Int32.ofInt (-1))) &&& (a - (nI 1))) (nI 16))) (nI 256)) (cond (pm_cmp .le ((a ^^^ (Int32.ofInt (-1))) &&& (a - (nI 1))) (nI 65536)) ((a ^^^ (Int32.ofInt (-1))) &&& (a - (nI 1))) (ushr ((a ^^^ (Int32.ofInt (-1))) &&& (a - (nI 1))) (nI 16))) (ushr (cond (pm_cmp .le ((a ^^^ (Int32.ofInt (-1))) &&& (a - (nI 1))) (nI 65536)) ((a ^^^ (Int32.ofInt (-1))) &&& (a - (nI 1))) (ushr ((a ^^^ (Int32.ofInt (-1))) &&& (a - (nI 1))) (nI 16))) (nI 8))) (nI 16)) (cond (pm_cmp .le (cond (pm_cmp .le ((a ^^^ (Int32.ofInt (-1))) &&& (a - (nI 1))) (nI 65536)) ((a ^^^ (Int32.ofInt (-1))) &&& (a - (nI 1))) (ushr ((a ^^^ (Int32.ofInt (-1))) &&& (a - (nI 1))) (nI 16))) (nI 256)) (cond (pm_cmp .le ((a ^^^ (Int32.ofInt (-1))) &&& (a - (nI 1))) (nI 65536)) (nI 1) (nI 17)) ((cond (pm_cmp .le ((a ^^^ (Int32.ofInt (-1))) &&& (a - (nI 1))) (nI 65536)) (nI 1) (nI 17)) + Int32.ofInt 8)) ((cond (pm_cmp .le (cond (pm_cmp .le ((a ^^^ (Int32.ofInt (-1))) &&& (a - (nI 1))) (nI 65536)) ((a ^^^ (Int32.ofInt (-1))) &&& (a - (nI 1))) (ushr ((a ^^^ (Int32.ofInt (-1))) &&& (a - (nI 1))) (nI 16))) (nI 256)) (cond (pm_cmp .le ((a ^^^ (Int32.ofInt (-1))) &&& (a - (nI 1))) (nI 65536)) (nI 1) (nI 17)) ((cond (pm_cmp .le ((a ^^^ (Int32.ofInt (-1))) &&& (a - (nI 1))) (nI 65536)) (nI 1) (nI 17)) + Int32.ofInt 8)) + Int32.ofInt 4)))], [], h, 198, sl) = some R := hh
        obtain ⟨n, hh⟩ := rn_i rfl rfl rfl rfl hh
        obtain ⟨n, hh⟩ := rn_i rfl rfl rfl rfl hh
        obtain ⟨n, hh⟩ := rn_i rfl rfl rfl rfl hh
        obtain ⟨n, hh⟩ := rn_i rfl rfl rfl rfl hh
        obtain ⟨n, hh⟩ := rn_i rfl rfl rfl rfl hh
        exact ⟨n, hh⟩)
    obtain ⟨n, hh⟩ := hj9
    rw [show (cond (pm_cmp .le (cond (pm_cmp .le (cond (pm_cmp .le (cond (pm_cmp .le ((a ^^^ (Int32.ofInt (-1))) &&& (a - (nI 1))) (nI 65536)) ((a ^^^ (Int32.ofInt (-1))) &&& (a - (nI 1))) (ushr ((a ^^^ (Int32.ofInt (-1))) &&& (a - (nI 1))) (nI 16))) (nI 256)) (cond (pm_cmp .le ((a ^^^ (Int32.ofInt (-1))) &&& (a - (nI 1))) (nI 65536)) ((a ^^^ (Int32.ofInt (-1))) &&& (a - (nI 1))) (ushr ((a ^^^ (Int32.ofInt (-1))) &&& (a - (nI 1))) (nI 16))) (ushr (cond (pm_cmp .le ((a ^^^ (Int32.ofInt (-1))) &&& (a - (nI 1))) (nI 65536)) ((a ^^^ (Int32.ofInt (-1))) &&& (a - (nI 1))) (ushr ((a ^^^ (Int32.ofInt (-1))) &&& (a - (nI 1))) (nI 16))) (nI 8))) (nI 16)) (cond (pm_cmp .le (cond (pm_cmp .le ((a ^^^ (Int32.ofInt (-1))) &&& (a - (nI 1))) (nI 65536)) ((a ^^^ (Int32.ofInt (-1))) &&& (a - (nI 1))) (ushr ((a ^^^ (Int32.ofInt (-1))) &&& (a - (nI 1))) (nI 16))) (nI 256)) (cond (pm_cmp .le ((a ^^^ (Int32.ofInt (-1))) &&& (a - (nI 1))) (nI 65536)) ((a ^^^ (Int32.ofInt (-1))) &&& (a - (nI 1))) (ushr ((a ^^^ (Int32.ofInt (-1))) &&& (a - (nI 1))) (nI 16))) (ushr (cond (pm_cmp .le ((a ^^^ (Int32.ofInt (-1))) &&& (a - (nI 1))) (nI 65536)) ((a ^^^ (Int32.ofInt (-1))) &&& (a - (nI 1))) (ushr ((a ^^^ (Int32.ofInt (-1))) &&& (a - (nI 1))) (nI 16))) (nI 8))) (ushr (cond (pm_cmp .le (cond (pm_cmp .le ((a ^^^ (Int32.ofInt (-1))) &&& (a - (nI 1))) (nI 65536)) ((a ^^^ (Int32.ofInt (-1))) &&& (a - (nI 1))) (ushr ((a ^^^ (Int32.ofInt (-1))) &&& (a - (nI 1))) (nI 16))) (nI 256)) (cond (pm_cmp .le ((a ^^^ (Int32.ofInt (-1))) &&& (a - (nI 1))) (nI 65536)) ((a ^^^ (Int32.ofInt (-1))) &&& (a - (nI 1))) (ushr ((a ^^^ (Int32.ofInt (-1))) &&& (a - (nI 1))) (nI 16))) (ushr (cond (pm_cmp .le ((a ^^^ (Int32.ofInt (-1))) &&& (a - (nI 1))) (nI 65536)) ((a ^^^ (Int32.ofInt (-1))) &&& (a - (nI 1))) (ushr ((a ^^^ (Int32.ofInt (-1))) &&& (a - (nI 1))) (nI 16))) (nI 8))) (nI 4))) (nI 4)) (74, [some (.int (cond (pm_cmp .le (cond (pm_cmp .le (cond (pm_cmp .le ((a ^^^ (Int32.ofInt (-1))) &&& (a - (nI 1))) (nI 65536)) ((a ^^^ (Int32.ofInt (-1))) &&& (a - (nI 1))) (ushr ((a ^^^ (Int32.ofInt (-1))) &&& (a - (nI 1))) (nI 16))) (nI 256)) (cond (pm_cmp .le ((a ^^^ (Int32.ofInt (-1))) &&& (a - (nI 1))) (nI 65536)) ((a ^^^ (Int32.ofInt (-1))) &&& (a - (nI 1))) (ushr ((a ^^^ (Int32.ofInt (-1))) &&& (a - (nI 1))) (nI 16))) (ushr (cond (pm_cmp .le ((a ^^^ (Int32.ofInt (-1))) &&& (a - (nI 1))) (nI 65536)) ((a ^^^ (Int32.ofInt (-1))) &&& (a - (nI 1))) (ushr ((a ^^^ (Int32.ofInt (-1))) &&& (a - (nI 1))) (nI 16))) (nI 8))) (nI 16)) (cond (pm_cmp .le (cond (pm_cmp .le ((a ^^^ (Int32.ofInt (-1))) &&& (a - (nI 1))) (nI 65536)) ((a ^^^ (Int32.ofInt (-1))) &&& (a - (nI 1))) (ushr ((a ^^^ (Int32.ofInt (-1))) &&& (a - (nI 1))) (nI 16))) (nI 256)) (cond (pm_cmp .le ((a ^^^ (Int32.ofInt (-1))) &&& (a - (nI 1))) (nI 65536)) ((a ^^^ (Int32.ofInt (-1))) &&& (a - (nI 1))) (ushr ((a ^^^ (Int32.ofInt (-1))) &&& (a - (nI 1))) (nI 16))) (ushr (cond (pm_cmp .le ((a ^^^ (Int32.ofInt (-1))) &&& (a - (nI 1))) (nI 65536)) ((a ^^^ (Int32.ofInt (-1))) &&& (a - (nI 1))) (ushr ((a ^^^ (Int32.ofInt (-1))) &&& (a - (nI 1))) (nI 16))) (nI 8))) (ushr (cond (pm_cmp .le (cond (pm_cmp .le ((a ^^^ (Int32.ofInt (-1))) &&& (a - (nI 1))) (nI 65536)) ((a ^^^ (Int32.ofInt (-1))) &&& (a - (nI 1))) (ushr ((a ^^^ (Int32.ofInt (-1))) &&& (a - (nI 1))) (nI 16))) (nI 256)) (cond (pm_cmp .le ((a ^^^ (Int32.ofInt (-1))) &&& (a - (nI 1))) (nI 65536)) ((a ^^^ (Int32.ofInt (-1))) &&& (a - (nI 1))) (ushr ((a ^^^ (Int32.ofInt (-1))) &&& (a - (nI 1))) (nI 16))) (ushr (cond (pm_cmp .le ((a ^^^ (Int32.ofInt (-1))) &&& (a - (nI 1))) (nI 65536)) ((a ^^^ (Int32.ofInt (-1))) &&& (a - (nI 1))) (ushr ((a ^^^ (Int32.ofInt (-1))) &&& (a - (nI 1))) (nI 16))) (nI 8))) (nI 4)))), some (.int (cond (pm_cmp .le (cond (pm_cmp .le (cond (pm_cmp .le ((a ^^^ (Int32.ofInt (-1))) &&& (a - (nI 1))) (nI 65536)) ((a ^^^ (Int32.ofInt (-1))) &&& (a - (nI 1))) (ushr ((a ^^^ (Int32.ofInt (-1))) &&& (a - (nI 1))) (nI 16))) (nI 256)) (cond (pm_cmp .le ((a ^^^ (Int32.ofInt (-1))) &&& (a - (nI 1))) (nI 65536)) ((a ^^^ (Int32.ofInt (-1))) &&& (a - (nI 1))) (ushr ((a ^^^ (Int32.ofInt (-1))) &&& (a - (nI 1))) (nI 16))) (ushr (cond (pm_cmp .le ((a ^^^ (Int32.ofInt (-1))) &&& (a - (nI 1))) (nI 65536)) ((a ^^^ (Int32.ofInt (-1))) &&& (a - (nI 1))) (ushr ((a ^^^ (Int32.ofInt (-1))) &&& (a - (nI 1))) (nI 16))) (nI 8))) (nI 16)) (cond (pm_cmp .le (cond (pm_cmp .le ((a ^^^ (Int32.ofInt (-1))) &&& (a - (nI 1))) (nI 65536)) ((a ^^^ (Int32.ofInt (-1))) &&& (a - (nI 1))) (ushr ((a ^^^ (Int32.ofInt (-1))) &&& (a - (nI 1))) (nI 16))) (nI 256)) (cond (pm_cmp .le ((a ^^^ (Int32.ofInt (-1))) &&& (a - (nI 1))) (nI 65536)) (nI 1) (nI 17)) ((cond (pm_cmp .le ((a ^^^ (Int32.ofInt (-1))) &&& (a - (nI 1))) (nI 65536)) (nI 1) (nI 17)) + Int32.ofInt 8)) ((cond (pm_cmp .le (cond (pm_cmp .le ((a ^^^ (Int32.ofInt (-1))) &&& (a - (nI 1))) (nI 65536)) ((a ^^^ (Int32.ofInt (-1))) &&& (a - (nI 1))) (ushr ((a ^^^ (Int32.ofInt (-1))) &&& (a - (nI 1))) (nI 16))) (nI 256)) (cond (pm_cmp .le ((a ^^^ (Int32.ofInt (-1))) &&& (a - (nI 1))) (nI 65536)) (nI 1) (nI 17)) ((cond (pm_cmp .le ((a ^^^ (Int32.ofInt (-1))) &&& (a - (nI 1))) (nI 65536)) (nI 1) (nI 17)) + Int32.ofInt 8)) + Int32.ofInt 4)))], [], h, 198, sl) (74, [some (.int (ushr (cond (pm_cmp .le (cond (pm_cmp .le (cond (pm_cmp .le ((a ^^^ (Int32.ofInt (-1))) &&& (a - (nI 1))) (nI 65536)) ((a ^^^ (Int32.ofInt (-1))) &&& (a - (nI 1))) (ushr ((a ^^^ (Int32.ofInt (-1))) &&& (a - (nI 1))) (nI 16))) (nI 256)) (cond (pm_cmp .le ((a ^^^ (Int32.ofInt (-1))) &&& (a - (nI 1))) (nI 65536)) ((a ^^^ (Int32.ofInt (-1))) &&& (a - (nI 1))) (ushr ((a ^^^ (Int32.ofInt (-1))) &&& (a - (nI 1))) (nI 16))) (ushr (cond (pm_cmp .le ((a ^^^ (Int32.ofInt (-1))) &&& (a - (nI 1))) (nI 65536)) ((a ^^^ (Int32.ofInt (-1))) &&& (a - (nI 1))) (ushr ((a ^^^ (Int32.ofInt (-1))) &&& (a - (nI 1))) (nI 16))) (nI 8))) (nI 16)) (cond (pm_cmp .le (cond (pm_cmp .le ((a ^^^ (Int32.ofInt (-1))) &&& (a - (nI 1))) (nI 65536)) ((a ^^^ (Int32.ofInt (-1))) &&& (a - (nI 1))) (ushr ((a ^^^ (Int32.ofInt (-1))) &&& (a - (nI 1))) (nI 16))) (nI 256)) (cond (pm_cmp .le ((a ^^^ (Int32.ofInt (-1))) &&& (a - (nI 1))) (nI 65536)) ((a ^^^ (Int32.ofInt (-1))) &&& (a - (nI 1))) (ushr ((a ^^^ (Int32.ofInt (-1))) &&& (a - (nI 1))) (nI 16))) (ushr (cond (pm_cmp .le ((a ^^^ (Int32.ofInt (-1))) &&& (a - (nI 1))) (nI 65536)) ((a ^^^ (Int32.ofInt (-1))) &&& (a - (nI 1))) (ushr ((a ^^^ (Int32.ofInt (-1))) &&& (a - (nI 1))) (nI 16))) (nI 8))) (ushr (cond (pm_cmp .le (cond (pm_cmp .le ((a ^^^ (Int32.ofInt (-1))) &&& (a - (nI 1))) (nI 65536)) ((a ^^^ (Int32.ofInt (-1))) &&& (a - (nI 1))) (ushr ((a ^^^ (Int32.ofInt (-1))) &&& (a - (nI 1))) (nI 16))) (nI 256)) (cond (pm_cmp .le ((a ^^^ (Int32.ofInt (-1))) &&& (a - (nI 1))) (nI 65536)) ((a ^^^ (Int32.ofInt (-1))) &&& (a - (nI 1))) (ushr ((a ^^^ (Int32.ofInt (-1))) &&& (a - (nI 1))) (nI 16))) (ushr (cond (pm_cmp .le ((a ^^^ (Int32.ofInt (-1))) &&& (a - (nI 1))) (nI 65536)) ((a ^^^ (Int32.ofInt (-1))) &&& (a - (nI 1))) (ushr ((a ^^^ (Int32.ofInt (-1))) &&& (a - (nI 1))) (nI 16))) (nI 8))) (nI 4))) (nI 2))), some (.int ((cond (pm_cmp .le (cond (pm_cmp .le (cond (pm_cmp .le ((a ^^^ (Int32.ofInt (-1))) &&& (a - (nI 1))) (nI 65536)) ((a ^^^ (Int32.ofInt (-1))) &&& (a - (nI 1))) (ushr ((a ^^^ (Int32.ofInt (-1))) &&& (a - (nI 1))) (nI 16))) (nI 256)) (cond (pm_cmp .le ((a ^^^ (Int32.ofInt (-1))) &&& (a - (nI 1))) (nI 65536)) ((a ^^^ (Int32.ofInt (-1))) &&& (a - (nI 1))) (ushr ((a ^^^ (Int32.ofInt (-1))) &&& (a - (nI 1))) (nI 16))) (ushr (cond (pm_cmp .le ((a ^^^ (Int32.ofInt (-1))) &&& (a - (nI 1))) (nI 65536)) ((a ^^^ (Int32.ofInt (-1))) &&& (a - (nI 1))) (ushr ((a ^^^ (Int32.ofInt (-1))) &&& (a - (nI 1))) (nI 16))) (nI 8))) (nI 16)) (cond (pm_cmp .le (cond (pm_cmp .le ((a ^^^ (Int32.ofInt (-1))) &&& (a - (nI 1))) (nI 65536)) ((a ^^^ (Int32.ofInt (-1))) &&& (a - (nI 1))) (ushr ((a ^^^ (Int32.ofInt (-1))) &&& (a - (nI 1))) (nI 16))) (nI 256)) (cond (pm_cmp .le ((a ^^^ (Int32.ofInt (-1))) &&& (a - (nI 1))) (nI 65536)) (nI 1) (nI 17)) ((cond (pm_cmp .le ((a ^^^ (Int32.ofInt (-1))) &&& (a - (nI 1))) (nI 65536)) (nI 1) (nI 17)) + Int32.ofInt 8)) ((cond (pm_cmp .le (cond (pm_cmp .le ((a ^^^ (Int32.ofInt (-1))) &&& (a - (nI 1))) (nI 65536)) ((a ^^^ (Int32.ofInt (-1))) &&& (a - (nI 1))) (ushr ((a ^^^ (Int32.ofInt (-1))) &&& (a - (nI 1))) (nI 16))) (nI 256)) (cond (pm_cmp .le ((a ^^^ (Int32.ofInt (-1))) &&& (a - (nI 1))) (nI 65536)) (nI 1) (nI 17)) ((cond (pm_cmp .le ((a ^^^ (Int32.ofInt (-1))) &&& (a - (nI 1))) (nI 65536)) (nI 1) (nI 17)) + Int32.ofInt 8)) + Int32.ofInt 4)) + Int32.ofInt 2))], [], h, 198, sl) : pm_St) = (74, [some (.int (cond (pm_cmp .le (cond (pm_cmp .le (cond (pm_cmp .le (cond (pm_cmp .le ((a ^^^ (Int32.ofInt (-1))) &&& (a - (nI 1))) (nI 65536)) ((a ^^^ (Int32.ofInt (-1))) &&& (a - (nI 1))) (ushr ((a ^^^ (Int32.ofInt (-1))) &&& (a - (nI 1))) (nI 16))) (nI 256)) (cond (pm_cmp .le ((a ^^^ (Int32.ofInt (-1))) &&& (a - (nI 1))) (nI 65536)) ((a ^^^ (Int32.ofInt (-1))) &&& (a - (nI 1))) (ushr ((a ^^^ (Int32.ofInt (-1))) &&& (a - (nI 1))) (nI 16))) (ushr (cond (pm_cmp .le ((a ^^^ (Int32.ofInt (-1))) &&& (a - (nI 1))) (nI 65536)) ((a ^^^ (Int32.ofInt (-1))) &&& (a - (nI 1))) (ushr ((a ^^^ (Int32.ofInt (-1))) &&& (a - (nI 1))) (nI 16))) (nI 8))) (nI 16)) (cond (pm_cmp .le (cond (pm_cmp .le ((a ^^^ (Int32.ofInt (-1))) &&& (a - (nI 1))) (nI 65536)) ((a ^^^ (Int32.ofInt (-1))) &&& (a - (nI 1))) (ushr ((a ^^^ (Int32.ofInt (-1))) &&& (a - (nI 1))) (nI 16))) (nI 256)) (cond (pm_cmp .le ((a ^^^ (Int32.ofInt (-1))) &&& (a - (nI 1))) (nI 65536)) ((a ^^^ (Int32.ofInt (-1))) &&& (a - (nI 1))) (ushr ((a ^^^ (Int32.ofInt (-1))) &&& (a - (nI 1))) (nI 16))) (ushr (cond (pm_cmp .le ((a ^^^ (Int32.ofInt (-1))) &&& (a - (nI 1))) (nI 65536)) ((a ^^^ (Int32.ofInt (-1))) &&& (a - (nI 1))) (ushr ((a ^^^ (Int32.ofInt (-1))) &&& (a - (nI 1))) (nI 16))) (nI 8))) (ushr (cond (pm_cmp .le (cond (pm_cmp .le ((a ^^^ (Int32.ofInt (-1))) &&& (a - (nI 1))) (nI 65536)) ((a ^^^ (Int32.ofInt (-1))) &&& (a - (nI 1))) (ushr ((a ^^^ (Int32.ofInt (-1))) &&& (a - (nI 1))) (nI 16))) (nI 256)) (cond (pm_cmp .le ((a ^^^ (Int32.ofInt (-1))) &&& (a - (nI 1))) (nI 65536)) ((a ^^^ (Int32.ofInt (-1))) &&& (a - (nI 1))) (ushr ((a ^^^ (Int32.ofInt (-1))) &&& (a - (nI 1))) (nI 16))) (ushr (cond (pm_cmp .le ((a ^^^ (Int32.ofInt (-1))) &&& (a - (nI 1))) (nI 65536)) ((a ^^^ (Int32.ofInt (-1))) &&& (a - (nI 1))) (ushr ((a ^^^ (Int32.ofInt (-1))) &&& (a - (nI 1))) (nI 16))) (nI 8))) (nI 4))) (nI 4)) (cond (pm_cmp .le (cond (pm_cmp .le (cond (pm_cmp .le ((a ^^^ (Int32.ofInt (-1))) &&& (a - (nI 1))) (nI 65536)) ((a ^^^ (Int32.ofInt (-1))) &&& (a - (nI 1))) (ushr ((a ^^^ (Int32.ofInt (-1))) &&& (a - (nI 1))) (nI 16))) (nI 256)) (cond (pm_cmp .le ((a ^^^ (Int32.ofInt (-1))) &&& (a - (nI 1))) (nI 65536)) ((a ^^^ (Int32.ofInt (-1))) &&& (a - (nI 1))) (ushr ((a ^^^ (Int32.ofInt (-1))) &&& (a - (nI 1))) (nI 16))) (ushr (cond (pm_cmp .le ((a ^^^ (Int32.ofInt (-1))) &&& (a - (nI 1))) (nI 65536)) ((a ^^^ (Int32.ofInt (-1))) &&& (a - (nI 1))) (ushr ((a ^^^ (Int32.ofInt (-1))) &&& (a - (nI 1))) (nI 16))) (nI 8))) (nI 16)) (cond (pm_cmp .le (cond (pm_cmp .le ((a ^^^ (Int32.ofInt (-1))) &&& (a - (nI 1))) (nI 65536)) ((a ^^^ (Int32.ofInt (-1))) &&& (a - (nI 1))) (ushr ((a ^^^ (Int32.ofInt (-1))) &&& (a - (nI 1))) (nI 16))) (nI 256)) (cond (pm_cmp .le ((a ^^^ (Int32.ofInt (-1))) &&& (a - (nI 1))) (nI 65536)) ((a ^^^ (Int32.ofInt (-1))) &&& (a - (nI 1))) (ushr ((a ^^^ (Int32.ofInt (-1))) &&& (a - (nI 1))) (nI 16))) (ushr (cond (pm_cmp .le ((a ^^^ (Int32.ofInt (-1))) &&& (a - (nI 1))) (nI 65536)) ((a ^^^ (Int32.ofInt (-1))) &&& (a - (nI 1))) (ushr ((a ^^^ (Int32.ofInt (-1))) &&& (a - (nI 1))) (nI 16))) (nI 8))) (ushr (cond (pm_cmp .le (cond (pm_cmp .le ((a ^^^ (Int32.ofInt (-1))) &&& (a - (nI 1))) (nI 65536)) ((a ^^^ (Int32.ofInt (-1))) &&& (a - (nI 1))) (ushr ((a ^^^ (Int32.ofInt (-1))) &&& (a - (nI 1))) (nI 16))) (nI 256)) (cond (pm_cmp .le ((a ^^^ (Int32.ofInt (-1))) &&& (a - (nI 1))) (nI 65536)) ((a ^^^ (Int32.ofInt (-1))) &&& (a - (nI 1))) (ushr ((a ^^^ (Int32.ofInt (-1))) &&& (a - (nI 1))) (nI 16))) (ushr (cond (pm_cmp .le ((a ^^^ (Int32.ofInt (-1))) &&& (a - (nI 1))) (nI 65536)) ((a ^^^ (Int32.ofInt (-1))) &&& (a - (nI 1))) (ushr ((a ^^^ (Int32.ofInt (-1))) &&& (a - (nI 1))) (nI 16))) (nI 8))) (nI 4))) (ushr (cond (pm_cmp .le (cond (pm_cmp .le (cond (pm_cmp .le ((a ^^^ (Int32.ofInt (-1))) &&& (a - (nI 1))) (nI 65536)) ((a ^^^ (Int32.ofInt (-1))) &&& (a - (nI 1))) (ushr ((a ^^^ (Int32.ofInt (-1))) &&& (a - (nI 1))) (nI 16))) (nI 256)) (cond (pm_cmp .le ((a ^^^ (Int32.ofInt (-1))) &&& (a - (nI 1))) (nI 65536)) ((a ^^^ (Int32.ofInt (-1))) &&& (a - (nI 1))) (ushr ((a ^^^ (Int32.ofInt (-1))) &&& (a - (nI 1))) (nI 16))) (ushr (cond (pm_cmp .le ((a ^^^ (Int32.ofInt (-1))) &&& (a - (nI 1))) (nI 65536)) ((a ^^^ (Int32.ofInt (-1))) &&& (a - (nI 1))) (ushr ((a ^^^ (Int32.ofInt (-1))) &&& (a - (nI 1))) (nI 16))) (nI 8))) (nI 16)) (cond (pm_cmp .le (cond (pm_cmp .le ((a ^^^ (Int32.ofInt (-1))) &&& (a - (nI 1))) (nI 65536)) ((a ^^^ (Int32.ofInt (-1))) &&& (a - (nI 1))) (ushr ((a ^^^ (Int32.ofInt (-1))) &&& (a - (nI 1))) (nI 16))) (nI 256)) (cond (pm_cmp .le ((a ^^^ (Int32.ofInt (-1))) &&& (a - (nI 1))) (nI 65536)) ((a ^^^ (Int32.ofInt (-1))) &&& (a - (nI 1))) (ushr ((a ^^^ (Int32.ofInt (-1))) &&& (a - (nI 1))) (nI 16))) (ushr (cond (pm_cmp .le ((a ^^^ (Int32.ofInt (-1))) &&& (a - (nI 1))) (nI 65536)) ((a ^^^ (Int32.ofInt (-1))) &&& (a - (nI 1))) (ushr ((a ^^^ (Int32.ofInt (-1))) &&& (a - (nI 1))) (nI 16))) (nI 8))) (ushr (cond (pm_cmp .le (cond (pm_cmp .le ((a ^^^ (Int32.ofInt (-1))) &&& (a - (nI 1))) (nI 65536)) ((a ^^^ (Int32.ofInt (-1))) &&& (a - (nI 1))) (ushr ((a ^^^ (Int32.ofInt (-1))) &&& (a - (nI 1))) (nI 16))) (nI 256)) (cond (pm_cmp .le ((a ^^^ (Int32.ofInt (-1))) &&& (a - (nI 1))) (nI 65536)) ((a ^^^ (Int32.ofInt (-1))) &&& (a - (nI 1))) (ushr ((a ^^^ (Int32.ofInt (-1))) &&& (a - (nI 1))) (nI 16))) (ushr (cond (pm_cmp .le ((a ^^^ (Int32.ofInt (-1))) &&& (a - (nI 1))) (nI 65536)) ((a ^^^ (Int32.ofInt (-1))) &&& (a - (nI 1))) (ushr ((a ^^^ (Int32.ofInt (-1))) &&& (a - (nI 1))) (nI 16))) (nI 8))) (nI 4))) (nI 2)))), some (.int (cond (pm_cmp .le (cond (pm_cmp .le (cond (pm_cmp .le (cond (pm_cmp .le ((a ^^^ (Int32.ofInt (-1))) &&& (a - (nI 1))) (nI 65536)) ((a ^^^ (Int32.ofInt (-1))) &&& (a - (nI 1))) (ushr ((a ^^^ (Int32.ofInt (-1))) &&& (a - (nI 1))) (nI 16))) (nI 256)) (cond (pm_cmp .le ((a ^^^ (Int32.ofInt (-1))) &&& (a - (nI 1))) (nI 65536)) ((a ^^^ (Int32.ofInt (-1))) &&& (a - (nI 1))) (ushr ((a ^^^ (Int32.ofInt (-1))) &&& (a - (nI 1))) (nI 16))) (ushr (cond (pm_cmp .le ((a ^^^ (Int32.ofInt (-1))) &&& (a - (nI 1))) (nI 65536)) ((a ^^^ (Int32.ofInt (-1))) &&& (a - (nI 1))) (ushr ((a ^^^ (Int32.ofInt (-1))) &&& (a - (nI 1))) (nI 16))) (nI 8))) (nI 16)) (cond (pm_cmp .le (cond (pm_cmp .le ((a ^^^ (Int32.ofInt (-1))) &&& (a - (nI 1))) (nI 65536)) ((a ^^^ (Int32.ofInt (-1))) &&& (a - (nI 1))) (ushr ((a ^^^ (Int32.ofInt (-1))) &&& (a - (nI 1))) (nI 16))) (nI 256)) (cond (pm_cmp .le ((a ^^^ (Int32.ofInt (-1))) &&& (a - (nI 1))) (nI 65536)) ((a ^^^ (Int32.ofInt (-1))) &&& (a - (nI 1))) (ushr ((a ^^^ (Int32.ofInt (-1))) &&& (a - (nI 1))) (nI 16))) (ushr (cond (pm_cmp .le ((a ^^^ (Int32.ofInt (-1))) &&& (a - (nI 1))) (nI 65536)) ((a ^^^ (Int32.ofInt (-1))) &&& (a - (nI 1))) (ushr ((a ^^^ (Int32.ofInt (-1))) &&& (a - (nI 1))) (nI 16))) (nI 8))) (ushr (cond (pm_cmp .le (cond (pm_cmp .le ((a ^^^ (Int32.ofInt (-1))) &&& (a - (nI 1))) (nI 65536)) ((a ^^^ (Int32.ofInt (-1))) &&& (a - (nI 1))) (ushr ((a ^^^ (Int32.ofInt (-1))) &&& (a - (nI 1))) (nI 16))) (nI 256)) (cond (pm_cmp .le ((a ^^^ (Int32.ofInt (-1))) &&& (a - (nI 1))) (nI 65536)) ((a ^^^ (Int32.ofInt (-1))) &&& (a - (nI 1))) (ushr ((a ^^^ (Int32.ofInt (-1))) &&& (a - (nI 1))) (nI 16))) (ushr (cond (pm_cmp .le ((a ^^^ (Int32.ofInt (-1))) &&& (a - (nI 1))) (nI 65536)) ((a ^^^ (Int32.ofInt (-1))) &&& (a - (nI 1))) (ushr ((a ^^^ (Int32.ofInt (-1))) &&& (a - (nI 1))) (nI 16))) (nI 8))) (nI 4))) (nI 4)) (cond (pm_cmp .le (cond (pm_cmp .le (cond (pm_cmp .le ((a ^^^ (Int32.ofInt (-1))) &&& (a - (nI 1))) (nI 65536)) ((a ^^^ (Int32.ofInt (-1))) &&& (a - (nI 1))) (ushr ((a ^^^ (Int32.ofInt (-1))) &&& (a - (nI 1))) (nI 16))) (nI 256)) (cond (pm_cmp .le ((a ^^^ (Int32.ofInt (-1))) &&& (a - (nI 1))) (nI 65536)) ((a ^^^ (Int32.ofInt (-1))) &&& (a - (nI 1))) (ushr ((a ^^^ (Int32.ofInt (-1))) &&& (a - (nI 1))) (nI 16))) (ushr (cond (pm_cmp .le ((a ^^^ (Int32.ofInt (-1))) &&& (a - (nI 1))) (nI 65536)) ((a ^^^ (Int32.ofInt (-1))) &&& (a - (nI 1))) (ushr ((a ^^^ (Int32.ofInt (-1))) &&& (a - (nI 1))) (nI 16))) (nI 8))) (nI 16)) (cond (pm_cmp .le (cond (pm_cmp .le ((a ^^^ (Int32.ofInt (-1))) &&& (a - (nI 1))) (nI 65536)) ((a ^^^ (Int32.ofInt (-1))) &&& (a - (nI 1))) (ushr ((a ^^^ (Int32.ofInt (-1))) &&& (a - (nI 1))) (nI 16))) (nI 256)) (cond (pm_cmp .le ((a ^^^ (Int32.ofInt (-1))) &&& (a - (nI 1))) (nI 65536)) (nI 1) (nI 17)) ((cond (pm_cmp .le ((a ^^^ (Int32.ofInt (-1))) &&& (a - (nI 1))) (nI 65536)) (nI 1) (nI 17)) + Int32.ofInt 8)) ((cond (pm_cmp .le (cond (pm_cmp .le ((a ^^^ (Int32.ofInt (-1))) &&& (a - (nI 1))) (nI 65536)) ((a ^^^ (Int32.ofInt (-1))) &&& (a - (nI 1))) (ushr ((a ^^^ (Int32.ofInt (-1))) &&& (a - (nI 1))) (nI 16))) (nI 256)) (cond (pm_cmp .le ((a ^^^ (Int32.ofInt (-1))) &&& (a - (nI 1))) (nI 65536)) (nI 1) (nI 17)) ((cond (pm_cmp .le ((a ^^^ (Int32.ofInt (-1))) &&& (a - (nI 1))) (nI 65536)) (nI 1) (nI 17)) + Int32.ofInt 8)) + Int32.ofInt 4)) ((cond (pm_cmp .le (cond (pm_cmp .le (cond (pm_cmp .le ((a ^^^ (Int32.ofInt (-1))) &&& (a - (nI 1))) (nI 65536)) ((a ^^^ (Int32.ofInt (-1))) &&& (a - (nI 1))) (ushr ((a ^^^ (Int32.ofInt (-1))) &&& (a - (nI 1))) (nI 16))) (nI 256)) (cond (pm_cmp .le ((a ^^^ (Int32.ofInt (-1))) &&& (a - (nI 1))) (nI 65536)) ((a ^^^ (Int32.ofInt (-1))) &&& (a - (nI 1))) (ushr ((a ^^^ (Int32.ofInt (-1))) &&& (a - (nI 1))) (nI 16))) (ushr (cond (pm_cmp .le ((a ^^^ (Int32.ofInt (-1))) &&& (a - (nI 1))) (nI 65536)) ((a ^^^ (Int32.ofInt (-1))) &&& (a - (nI 1))) (ushr ((a ^^^ (Int32.ofInt (-1))) &&& (a - (nI 1))) (nI 16))) (nI 8))) (nI 16)) (cond (pm_cmp .le (cond (pm_cmp .le ((a ^^^ (Int32.ofInt (-1))) &&& (a - (nI 1))) (nI 65536)) ((a ^^^ (Int32.ofInt (-1))) &&& (a - (nI 1))) (ushr ((a ^^^ (Int32.ofInt (-1))) &&& (a - (nI 1))) (nI 16))) (nI 256)) (cond (pm_cmp .le ((a ^^^ (Int32.ofInt (-1))) &&& (a - (nI 1))) (nI 65536)) (nI 1) (nI 17)) ((cond (pm_cmp .le ((a ^^^ (Int32.ofInt (-1))) &&& (a - (nI 1))) (nI 65536)) (nI 1) (nI 17)) + Int32.ofInt 8)) ((cond (pm_cmp .le (cond (pm_cmp .le ((a ^^^ (Int32.ofInt (-1))) &&& (a - (nI 1))) (nI 65536)) ((a ^^^ (Int32.ofInt (-1))) &&& (a - (nI 1))) (ushr ((a ^^^ (Int32.ofInt (-1))) &&& (a - (nI 1))) (nI 16))) (nI 256)) (cond (pm_cmp .le ((a ^^^ (Int32.ofInt (-1))) &&& (a - (nI 1))) (nI 65536)) (nI 1) (nI 17)) ((cond (pm_cmp .le ((a ^^^ (Int32.ofInt (-1))) &&& (a - (nI 1))) (nI 65536)) (nI 1) (nI 17)) + Int32.ofInt 8)) + Int32.ofInt 4)) + Int32.ofInt 2)))], [], h, 198, sl) from by cases (pm_cmp .le (cond (pm_cmp .le (cond (pm_cmp .le (cond (pm_cmp .le ((a ^^^ (Int32.ofInt (-1))) &&& (a - (nI 1))) (nI 65536)) ((a ^^^ (Int32.ofInt (-1))) &&& (a - (nI 1))) (ushr ((a ^^^ (Int32.ofInt (-1))) &&& (a - (nI 1))) (nI 16))) (nI 256)) (cond (pm_cmp .le ((a ^^^ (Int32.ofInt (-1))) &&& (a - (nI 1))) (nI 65536)) ((a ^^^ (Int32.ofInt (-1))) &&& (a - (nI 1))) (ushr ((a ^^^ (Int32.ofInt (-1))) &&& (a - (nI 1))) (nI 16))) (ushr (cond (pm_cmp .le ((a ^^^ (Int32.ofInt (-1))) &&& (a - (nI 1))) (nI 65536)) ((a ^^^ (Int32.ofInt (-1))) &&& (a - (nI 1))) (ushr ((a ^^^ (Int32.ofInt (-1))) &&& (a - (nI 1))) (nI 16))) (nI 8))) (nI 16)) (cond (pm_cmp .le (cond (pm_cmp .le ((a ^^^ (Int32.ofInt (-1))) &&& (a - (nI 1))) (nI 65536)) ((a ^^^ (Int32.ofInt (-1))) &&& (a - (nI 1))) (ushr ((a ^^^ (Int32.ofInt (-1))) &&& (a - (nI 1))) (nI 16))) (nI 256)) (cond (pm_cmp .le ((a ^^^ (Int32.ofInt (-1))) &&& (a - (nI 1))) (nI 65536)) ((a ^^^ (Int32.ofInt (-1))) &&& (a - (nI 1))) (ushr ((a ^^^ (Int32.ofInt (-1))) &&& (a - (nI 1))) (nI 16))) (ushr (cond (pm_cmp .le ((a ^^^ (Int32.ofInt (-1))) &&& (a - (nI 1))) (nI 65536)) ((a ^^^ (Int32.ofInt (-1))) &&& (a - (nI 1))) (ushr ((a ^^^ (Int32.ofInt (-1))) &&& (a - (nI 1))) (nI 16))) (nI 8))) (ushr (cond (pm_cmp .le (cond (pm_cmp .le ((a ^^^ (Int32.ofInt (-1))) &&& (a - (nI 1))) (nI 65536)) ((a ^^^ (Int32.ofInt (-1))) &&& (a - (nI 1))) (ushr ((a ^^^ (Int32.ofInt (-1))) &&& (a - (nI 1))) (nI 16))) (nI 256)) (cond (pm_cmp .le ((a ^^^ (Int32.ofInt (-1))) &&& (a - (nI 1))) (nI 65536)) ((a ^^^ (Int32.ofInt (-1))) &&& (a - (nI 1))) (ushr ((a ^^^ (Int32.ofInt (-1))) &&& (a - (nI 1))) (nI 16))) (ushr (cond (pm_cmp .le ((a ^^^ (Int32.ofInt (-1))) &&& (a - (nI 1))) (nI 65536)) ((a ^^^ (Int32.ofInt (-1))) &&& (a - (nI 1))) (ushr ((a ^^^ (Int32.ofInt (-1))) &&& (a - (nI 1))) (nI 16))) (nI 8))) (nI 4))) (nI 4)) <;> rfl] at hh
    obtain ⟨n, hh⟩ := rn_i rfl rfl rfl rfl hh
    obtain ⟨n, hh⟩ := rn_i rfl rfl rfl rfl hh
    obtain ⟨n, hh⟩ := rn_i rfl rfl rfl rfl hh
    obtain ⟨n, hh⟩ := rn_i rfl rfl rfl rfl hh
    obtain ⟨n, hh⟩ := rn_i rfl rfl rfl rfl hh
    have hh : pm_run PT n fr lo 269 (79, [some (.int (cond (pm_cmp .le (cond (pm_cmp .le (cond (pm_cmp .le (cond (pm_cmp .le ((a ^^^ (Int32.ofInt (-1))) &&& (a - (nI 1))) (nI 65536)) ((a ^^^ (Int32.ofInt (-1))) &&& (a - (nI 1))) (ushr ((a ^^^ (Int32.ofInt (-1))) &&& (a - (nI 1))) (nI 16))) (nI 256)) (cond (pm_cmp .le ((a ^^^ (Int32.ofInt (-1))) &&& (a - (nI 1))) (nI 65536)) ((a ^^^ (Int32.ofInt (-1))) &&& (a - (nI 1))) (ushr ((a ^^^ (Int32.ofInt (-1))) &&& (a - (nI 1))) (nI 16))) (ushr (cond (pm_cmp .le ((a ^^^ (Int32.ofInt (-1))) &&& (a - (nI 1))) (nI 65536)) ((a ^^^ (Int32.ofInt (-1))) &&& (a - (nI 1))) (ushr ((a ^^^ (Int32.ofInt (-1))) &&& (a - (nI 1))) (nI 16))) (nI 8))) (nI 16)) (cond (pm_cmp .le (cond (pm_cmp .le ((a ^^^ (Int32.ofInt (-1))) &&& (a - (nI 1))) (nI 65536)) ((a ^^^ (Int32.ofInt (-1))) &&& (a - (nI 1))) (ushr ((a ^^^ (Int32.ofInt (-1))) &&& (a - (nI 1))) (nI 16))) (nI 256)) (cond (pm_cmp .le ((a ^^^ (Int32.ofInt (-1))) &&& (a - (nI 1))) (nI 65536)) ((a ^^^ (Int32.ofInt (-1))) &&& (a - (nI 1))) (ushr ((a ^^^ (Int32.ofInt (-1))) &&& (a - (nI 1))) (nI 16))) (ushr (cond (pm_cmp .le ((a ^^^ (Int32.ofInt (-1))) &&& (a - (nI 1))) (nI 65536)) ((a ^^^ (Int32.ofInt (-1))) &&& (a - (nI 1))) (ushr ((a ^^^ (Int32.ofInt (-1))) &&& (a - (nI 1))) (nI 16))) (nI 8))) (ushr (cond (pm_cmp .le (cond (pm_cmp .le ((a ^^^ (Int32.ofInt (-1))) &&& (a - (nI 1))) (nI 65536)) ((a ^^^ (Int32.ofInt (-1))) &&& (a - (nI 1))) (ushr ((a ^^^ (Int32.ofInt (-1))) &&& (a - (nI 1))) (nI 16))) (nI 256)) (cond (pm_cmp .le ((a ^^^ (Int32.ofInt (-1))) &&& (a - (nI 1))) (nI 65536)) ((a ^^^ (Int32.ofInt (-1))) &&& (a - (nI 1))) (ushr ((a ^^^ (Int32.ofInt (-1))) &&& (a - (nI 1))) (nI 16))) (ushr (cond (pm_cmp .le ((a ^^^ (Int32.ofInt (-1))) &&& (a - (nI 1))) (nI 65536)) ((a ^^^ (Int32.ofInt (-1))) &&& (a - (nI 1))) (ushr ((a ^^^ (Int32.ofInt (-1))) &&& (a - (nI 1))) (nI 16))) (nI 8))) (nI 4))) (nI 4)) (cond (pm_cmp .le (cond (pm_cmp .le (cond (pm_cmp .le ((a ^^^ (Int32.ofInt (-1))) &&& (a - (nI 1))) (nI 65536)) ((a ^^^ (Int32.ofInt (-1))) &&& (a - (nI 1))) (ushr ((a ^^^ (Int32.ofInt (-1))) &&& (a - (nI 1))) (nI 16))) (nI 256)) (cond (pm_cmp .le ((a ^^^ (Int32.ofInt (-1))) &&& (a - (nI 1))) (nI 65536)) ((a ^^^ (Int32.ofInt (-1))) &&& (a - (nI 1))) (ushr ((a ^^^ (Int32.ofInt (-1))) &&& (a - (nI 1))) (nI 16))) (ushr (cond (pm_cmp .le ((a ^^^ (Int32.ofInt (-1))) &&& (a - (nI 1))) (nI 65536)) ((a ^^^ (Int32.ofInt (-1))) &&& (a - (nI 1))) (ushr ((a ^^^ (Int32.ofInt (-1))) &&& (a - (nI 1))) (nI 16))) (nI 8))) (nI 16)) (cond (pm_cmp .le (cond (pm_cmp .le ((a ^^^ (Int32.ofInt (-1))) &&& (a - (nI 1))) (nI 65536)) ((a ^^^ (Int32.ofInt (-1))) &&& (a - (nI 1))) (ushr ((a ^^^ (Int32.ofInt (-1))) &&& (a - (nI 1))) (nI 16))) (nI 256)) (cond (pm_cmp .le ((a ^^^ (Int32.ofInt (-1))) &&& (a - (nI 1))) (nI 65536)) ((a ^^^ (Int32.ofInt (-1))) &&& (a - (nI 1))) (ushr ((a ^^^ (Int32.ofInt (-1))) &&& (a - (nI 1))) (nI 16))) (ushr (cond (pm_cmp .le ((a ^^^ (Int32.ofInt (-1))) &&& (a - (nI 1))) (nI 65536)) ((a ^^^ (Int32.ofInt (-1))) &&& (a - (nI 1))) (ushr ((a ^^^ (Int32.ofInt (-1))) &&& (a - (nI 1))) (nI 16))) (nI 8))) (ushr (cond (pm_cmp .le (cond (pm_cmp .le ((a ^^^ (Int32.ofInt (-1))) &&& (a - (nI 1))) (nI 65536)) ((a ^^^ (Int32.ofInt (-1))) &&& (a - (nI 1))) (ushr ((a ^^^ (Int32.ofInt (-1))) &&& (a - (nI 1))) (nI 16))) (nI 256)) (cond (pm_cmp .le ((a ^^^ (Int32.ofInt (-1))) &&& (a - (nI 1))) (nI 65536)) ((a ^^^ (Int32.ofInt (-1))) &&& (a - (nI 1))) (ushr ((a ^^^ (Int32.ofInt (-1))) &&& (a - (nI 1))) (nI 16))) (ushr (cond (pm_cmp .le ((a ^^^ (Int32.ofInt (-1))) &&& (a - (nI 1))) (nI 65536)) ((a ^^^ (Int32.ofInt (-1))) &&& (a - (nI 1))) (ushr ((a ^^^ (Int32.ofInt (-1))) &&& (a - (nI 1))) (nI 16))) (nI 8))) (nI 4))) (ushr (cond (pm_cmp .le (cond (pm_cmp .le (cond (pm_cmp .le ((a ^^^ (Int32.ofInt (-1))) &&& (a - (nI 1))) (nI 65536)) ((a ^^^ (Int32.ofInt (-1))) &&& (a - (nI 1))) (ushr ((a ^^^ (Int32.ofInt (-1))) &&& (a - (nI 1))) (nI 16))) (nI 256)) (cond (pm_cmp .le ((a ^^^ (Int32.ofInt (-1))) &&& (a - (nI 1))) (nI 65536)) ((a ^^^ (Int32.ofInt (-1))) &&& (a - (nI 1))) (ushr ((a ^^^ (Int32.ofInt (-1))) &&& (a - (nI 1))) (nI 16))) (ushr (cond (pm_cmp .le ((a ^^^ (Int32.ofInt (-1))) &&& (a - (nI 1))) (nI 65536)) ((a ^^^ (Int32.ofInt (-1))) &&& (a - (nI 1))) (ushr ((a ^^^ (Int32.ofInt (-1))) &&& (a - (nI 1))) (nI 16))) (nI 8))) (nI 16)) (cond (pm_cmp .le (cond (pm_cmp .le ((a ^^^ (Int32.ofInt (-1))) &&& (a - (nI 1))) (nI 65536)) ((a ^^^ (Int32.ofInt (-1))) &&& (a - (nI 1))) (ushr ((a ^^^ (Int32.ofInt (-1))) &&& (a - (nI 1))) (nI 16))) (nI 256)) (cond (pm_cmp .le ((a ^^^ (Int32.ofInt (-1))) &&& (a - (nI 1))) (nI 65536)) ((a ^^^ (Int32.ofInt (-1))) &&& (a - (nI 1))) (ushr ((a ^^^ (Int32.ofInt (-1))) &&& (a - (nI 1))) (nI 16))) (ushr (cond (pm_cmp .le ((a ^^^ (Int32.ofInt (-1))) &&& (a - (nI 1))) (nI 65536)) ((a ^^^ (Int32.ofInt (-1))) &&& (a - (nI 1))) (ushr ((a ^^^ (Int32.ofInt (-1))) &&& (a - (nI 1))) (nI 16))) (nI 8))) (ushr (cond (pm_cmp .le (cond (pm_cmp .le ((a ^^^ (Int32.ofInt (-1))) &&& (a - (nI 1))) (nI 65536)) ((a ^^^ (Int32.ofInt (-1))) &&& (a - (nI 1))) (ushr ((a ^^^ (Int32.ofInt (-1))) &&& (a - (nI 1))) (nI 16))) (nI 256)) (cond (pm_cmp .le ((a ^^^ (Int32.ofInt (-1))) &&& (a - (nI 1))) (nI 65536)) ((a ^^^ (Int32.ofInt (-1))) &&& (a - (nI 1))) (ushr ((a ^^^ (Int32.ofInt (-1))) &&& (a - (nI 1))) (nI 16))) (ushr (cond (pm_cmp .le ((a ^^^ (Int32.ofInt (-1))) &&& (a - (nI 1))) (nI 65536)) ((a ^^^ (Int32.ofInt (-1))) &&& (a - (nI 1))) (ushr ((a ^^^ (Int32.ofInt (-1))) &&& (a - (nI 1))) (nI 16))) (nI 8))) (nI 4))) (nI 2)))), some (.int (cond (pm_cmp .le (cond (pm_cmp .le (cond (pm_cmp .le (cond (pm_cmp .le ((a ^^^ (Int32.ofInt (-1))) &&& (a - (nI 1))) (nI 65536)) ((a ^^^ (Int32.ofInt (-1))) &&& (a - (nI 1))) (ushr ((a ^^^ (Int32.ofInt (-1))) &&& (a - (nI 1))) (nI 16))) (nI 256)) (cond (pm_cmp .le ((a ^^^ (Int32.ofInt (-1))) &&& (a - (nI 1))) (nI 65536)) ((a ^^^ (Int32.ofInt (-1))) &&& (a - (nI 1))) (ushr ((a ^^^ (Int32.ofInt (-1))) &&& (a - (nI 1))) (nI 16))) (ushr (cond (pm_cmp .le ((a ^^^ (Int32.ofInt (-1))) &&& (a - (nI 1))) (nI 65536)) ((a ^^^ (Int32.ofInt (-1))) &&& (a - (nI 1))) (ushr ((a ^^^ (Int32.ofInt (-1))) &&& (a - (nI 1))) (nI 16))) (nI 8))) (nI 16)) (cond (pm_cmp .le (cond (pm_cmp .le ((a ^^^ (Int32.ofInt (-1))) &&& (a - (nI 1))) (nI 65536)) ((a ^^^ (Int32.ofInt (-1))) &&& (a - (nI 1))) (ushr ((a ^^^ (Int32.ofInt (-1))) &&& (a - (nI 1))) (nI 16))) (nI 256)) (cond (pm_cmp .le ((a ^^^ (Int32.ofInt (-1))) &&& (a - (nI 1))) (nI 65536)) ((a ^^^ (Int32.ofInt (-1))) &&& (a - (nI 1))) (ushr ((a ^^^ (Int32.ofInt (-1))) &&& (a - (nI 1))) (nI 16))) (ushr (cond (pm_cmp .le ((a ^^^ (Int32.ofInt (-1))) &&& (a - (nI 1))) (nI 65536)) ((a ^^^ (Int32.ofInt (-1))) &&& (a - (nI 1))) (ushr ((a ^^^ (Int32.ofInt (-1))) &&& (a - (nI 1))) (nI 16))) (nI 8))) (ushr (cond (pm_cmp .le (cond (pm_cmp .le ((a ^^^ (Int32.ofInt (-1))) &&& (a - (nI 1))) (nI 65536)) ((a ^^^ (Int32.ofInt (-1))) &&& (a - (nI 1))) (ushr ((a ^^^ (Int32.ofInt (-1))) &&& (a - (nI 1))) (nI 16))) (nI 256)) (cond (pm_cmp .le ((a ^^^ (Int32.ofInt (-1))) &&& (a - (nI 1))) (nI 65536)) ((a ^^^ (Int32.ofInt (-1))) &&& (a - (nI 1))) (ushr ((a ^^^ (Int32.ofInt (-1))) &&& (a - (nI 1))) (nI 16))) (ushr (cond (pm_cmp .le ((a ^^^ (Int32.ofInt (-1))) &&& (a - (nI 1))) (nI 65536)) ((a ^^^ (Int32.ofInt (-1))) &&& (a - (nI 1))) (ushr ((a ^^^ (Int32.ofInt (-1))) &&& (a - (nI 1))) (nI 16))) (nI 8))) (nI 4))) (nI 4)) (cond (pm_cmp .le (cond (pm_cmp .le (cond (pm_cmp .le ((a ^^^ (Int32.ofInt (-1))) &&& (a - (nI 1))) (nI 65536)) ((a ^^^ (Int32.ofInt (-1))) &&& (a - (nI 1))) (ushr ((a ^^^ (Int32.ofInt (-1))) &&& (a - (nI 1))) (nI 16))) (nI 256)) (cond (pm_cmp .le ((a ^^^ (Int32.ofInt (-1))) &&& (a - (nI 1))) (nI 65536)) ((a ^^^ (Int32.ofInt (-1))) &&& (a - (nI 1))) (ushr ((a ^^^ (Int32.ofInt (-1))) &&& (a - (nI 1))) (nI 16))) (ushr (cond (pm_cmp .le ((a ^^^ (Int32.ofInt (-1))) &&& (a - (nI 1))) (nI 65536)) ((a ^^^ (Int32.ofInt (-1))) &&& (a - (nI 1))) (ushr ((a ^^^ (Int32.ofInt (-1))) &&& (a - (nI 1))) (nI 16))) (nI 8))) (nI 16)) (cond (pm_cmp .le (cond (pm_cmp .le ((a ^^^ (Int32.ofInt (-1))) &&& (a - (nI 1))) (nI 65536)) ((a ^^^ (Int32.ofInt (-1))) &&& (a - (nI 1))) (ushr ((a ^^^ (Int32.ofInt (-1))) &&& (a - (nI 1))) (nI 16))) (nI 256)) (cond (pm_cmp .le ((a ^^^ (Int32.ofInt (-1))) &&& (a - (nI 1))) (nI 65536)) (nI 1) (nI 17)) ((cond (pm_cmp .le ((a ^^^ (Int32.ofInt (-1))) &&& (a - (nI 1))) (nI 65536)) (nI 1) (nI 17)) + Int32.ofInt 8)) ((cond (pm_cmp .le (cond (pm_cmp .le ((a ^^^ (Int32.ofInt (-1))) &&& (a - (nI 1))) (nI 65536)) ((a ^^^ (Int32.ofInt (-1))) &&& (a - (nI 1))) (ushr ((a ^^^ (Int32.ofInt (-1))) &&& (a - (nI 1))) (nI 16))) (nI 256)) (cond (pm_cmp .le ((a ^^^ (Int32.ofInt (-1))) &&& (a - (nI 1))) (nI 65536)) (nI 1) (nI 17)) ((cond (pm_cmp .le ((a ^^^ (Int32.ofInt (-1))) &&& (a - (nI 1))) (nI 65536)) (nI 1) (nI 17)) + Int32.ofInt 8)) + Int32.ofInt 4)) ((cond (pm_cmp .le (cond (pm_cmp .le (cond (pm_cmp .le ((a ^^^ (Int32.ofInt (-1))) &&& (a - (nI 1))) (nI 65536)) ((a ^^^ (Int32.ofInt (-1))) &&& (a - (nI 1))) (ushr ((a ^^^ (Int32.ofInt (-1))) &&& (a - (nI 1))) (nI 16))) (nI 256)) (cond (pm_cmp .le ((a ^^^ (Int32.ofInt (-1))) &&& (a - (nI 1))) (nI 65536)) ((a ^^^ (Int32.ofInt (-1))) &&& (a - (nI 1))) (ushr ((a ^^^ (Int32.ofInt (-1))) &&& (a - (nI 1))) (nI 16))) (ushr (cond (pm_cmp .le ((a ^^^ (Int32.ofInt (-1))) &&& (a - (nI 1))) (nI 65536)) ((a ^^^ (Int32.ofInt (-1))) &&& (a - (nI 1))) (ushr ((a ^^^ (Int32.ofInt (-1))) &&& (a - (nI 1))) (nI 16))) (nI 8))) (nI 16)) (cond (pm_cmp .le (cond (pm_cmp .le ((a ^^^ (Int32.ofInt (-1))) &&& (a - (nI 1))) (nI 65536)) ((a ^^^ (Int32.ofInt (-1))) &&& (a - (nI 1))) (ushr ((a ^^^ (Int32.ofInt (-1))) &&& (a - (nI 1))) (nI 16))) (nI 256)) (cond (pm_cmp .le ((a ^^^ (Int32.ofInt (-1))) &&& (a - (nI 1))) (nI 65536)) (nI 1) (nI 17)) ((cond (pm_cmp .le ((a ^^^ (Int32.ofInt (-1))) &&& (a - (nI 1))) (nI 65536)) (nI 1) (nI 17)) + Int32.ofInt 8)) ((cond (pm_cmp .le (cond (pm_cmp .le ((a ^^^ (Int32.ofInt (-1))) &&& (a - (nI 1))) (nI 65536)) ((a ^^^ (Int32.ofInt (-1))) &&& (a - (nI 1))) (ushr ((a ^^^ (Int32.ofInt (-1))) &&& (a - (nI 1))) (nI 16))) (nI 256)) (cond (pm_cmp .le ((a ^^^ (Int32.ofInt (-1))) &&& (a - (nI 1))) (nI 65536)) (nI 1) (nI 17)) ((cond (pm_cmp .le ((a ^^^ (Int32.ofInt (-1))) &&& (a - (nI 1))) (nI 65536)) (nI 1) (nI 17)) + Int32.ofInt 8)) + Int32.ofInt 4)) + Int32.ofInt 2)))], [.int ((cond (pm_cmp .le (cond (pm_cmp .le (cond (pm_cmp .le (cond (pm_cmp .le ((a ^^^ (Int32.ofInt (-1))) &&& (a - (nI 1))) (nI 65536)) ((a ^^^ (Int32.ofInt (-1))) &&& (a - (nI 1))) (ushr ((a ^^^ (Int32.ofInt (-1))) &&& (a - (nI 1))) (nI 16))) (nI 256)) (cond (pm_cmp .le ((a ^^^ (Int32.ofInt (-1))) &&& (a - (nI 1))) (nI 65536)) ((a ^^^ (Int32.ofInt (-1))) &&& (a - (nI 1))) (ushr ((a ^^^ (Int32.ofInt (-1))) &&& (a - (nI 1))) (nI 16))) (ushr (cond (pm_cmp .le ((a ^^^ (Int32.ofInt (-1))) &&& (a - (nI 1))) (nI 65536)) ((a ^^^ (Int32.ofInt (-1))) &&& (a - (nI 1))) (ushr ((a ^^^ (Int32.ofInt (-1))) &&& (a - (nI 1))) (nI 16))) (nI 8))) (nI 16)) (cond (pm_cmp .le (cond (pm_cmp .le ((a ^^^ (Int32.ofInt (-1))) &&& (a - (nI 1))) (nI 65536)) ((a ^^^ (Int32.ofInt (-1))) &&& (a - (nI 1))) (ushr ((a ^^^ (Int32.ofInt (-1))) &&& (a - (nI 1))) (nI 16))) (nI 256)) (cond (pm_cmp .le ((a ^^^ (Int32.ofInt (-1))) &&& (a - (nI 1))) (nI 65536)) ((a ^^^ (Int32.ofInt (-1))) &&& (a - (nI 1))) (ushr ((a ^^^ (Int32.ofInt (-1))) &&& (a - (nI 1))) (nI 16))) (ushr (cond (pm_cmp .le ((a ^^^ (Int32.ofInt (-1))) &&& (a - (nI 1))) (nI 65536)) ((a ^^^ (Int32.ofInt (-1))) &&& (a - (nI 1))) (ushr ((a ^^^ (Int32.ofInt (-1))) &&& (a - (nI 1))) (nI 16))) (nI 8))) (ushr (cond (pm_cmp .le (cond (pm_cmp .le ((a ^^^ (Int32.ofInt (-1))) &&& (a - (nI 1))) (nI 65536)) ((a ^^^ (Int32.ofInt (-1))) &&& (a - (nI 1))) (ushr ((a ^^^ (Int32.ofInt (-1))) &&& (a - (nI 1))) (nI 16))) (nI 256)) (cond (pm_cmp .le ((a ^^^ (Int32.ofInt (-1))) &&& (a - (nI 1))) (nI 65536)) ((a ^^^ (Int32.ofInt (-1))) &&& (a - (nI 1))) (ushr ((a ^^^ (Int32.ofInt (-1))) &&& (a - (nI 1))) (nI 16))) (ushr (cond (pm_cmp .le ((a ^^^ (Int32.ofInt (-1))) &&& (a - (nI 1))) (nI 65536)) ((a ^^^ (Int32.ofInt (-1))) &&& (a - (nI 1))) (ushr ((a ^^^ (Int32.ofInt (-1))) &&& (a - (nI 1))) (nI 16))) (nI 8))) (nI 4))) (nI 4)) (cond (pm_cmp .le (cond (pm_cmp .le (cond (pm_cmp .le ((a ^^^ (Int32.ofInt (-1))) &&& (a - (nI 1))) (nI 65536)) ((a ^^^ (Int32.ofInt (-1))) &&& (a - (nI 1))) (ushr ((a ^^^ (Int32.ofInt (-1))) &&& (a - (nI 1))) (nI 16))) (nI 256)) (cond (pm_cmp .le ((a ^^^ (Int32.ofInt (-1))) &&& (a - (nI 1))) (nI 65536)) ((a ^^^ (Int32.ofInt (-1))) &&& (a - (nI 1))) (ushr ((a ^^^ (Int32.ofInt (-1))) &&& (a - (nI 1))) (nI 16))) (ushr (cond (pm_cmp .le ((a ^^^ (Int32.ofInt (-1))) &&& (a - (nI 1))) (nI 65536)) ((a ^^^ (Int32.ofInt (-1))) &&& (a - (nI 1))) (ushr ((a ^^^ (Int32.ofInt (-1))) &&& (a - (nI 1))) (nI 16))) (nI 8))) (nI 16)) (cond (pm_cmp .le (cond (pm_cmp .le ((a ^^^ (Int32.ofInt (-1))) &&& (a - (nI 1))) (nI 65536)) ((a ^^^ (Int32.ofInt (-1))) &&& (a - (nI 1))) (ushr ((a ^^^ (Int32.ofInt (-1))) &&& (a - (nI 1))) (nI 16))) (nI 256)) (cond (pm_cmp .le ((a ^^^ (Int32.ofInt (-1))) &&& (a - (nI 1))) (nI 65536)) (nI 1) (nI 17)) ((cond (pm_cmp .le ((a ^^^ (Int32.ofInt (-1))) &&& (a - (nI 1))) (nI 65536)) (nI 1) (nI 17)) + Int32.ofInt 8)) ((cond (pm_cmp .le (cond (pm_cmp .le ((a ^^^ (Int32.ofInt (-1))) &&& (a - (nI 1))) (nI 65536)) ((a ^^^ (Int32.ofInt (-1))) &&& (a - (nI 1))) (ushr ((a ^^^ (Int32.ofInt (-1))) &&& (a - (nI 1))) (nI 16))) (nI 256)) (cond (pm_cmp .le ((a ^^^ (Int32.ofInt (-1))) &&& (a - (nI 1))) (nI 65536)) (nI 1) (nI 17)) ((cond (pm_cmp .le ((a ^^^ (Int32.ofInt (-1))) &&& (a - (nI 1))) (nI 65536)) (nI 1) (nI 17)) + Int32.ofInt 8)) + Int32.ofInt 4)) ((cond (pm_cmp .le (cond (pm_cmp .le (cond (pm_cmp .le ((a ^^^ (Int32.ofInt (-1))) &&& (a - (nI 1))) (nI 65536)) ((a ^^^ (Int32.ofInt (-1))) &&& (a - (nI 1))) (ushr ((a ^^^ (Int32.ofInt (-1))) &&& (a - (nI 1))) (nI 16))) (nI 256)) (cond (pm_cmp .le ((a ^^^ (Int32.ofInt (-1))) &&& (a - (nI 1))) (nI 65536)) ((a ^^^ (Int32.ofInt (-1))) &&& (a - (nI 1))) (ushr ((a ^^^ (Int32.ofInt (-1))) &&& (a - (nI 1))) (nI 16))) (ushr (cond (pm_cmp .le ((a ^^^ (Int32.ofInt (-1))) &&& (a - (nI 1))) (nI 65536)) ((a ^^^ (Int32.ofInt (-1))) &&& (a - (nI 1))) (ushr ((a ^^^ (Int32.ofInt (-1))) &&& (a - (nI 1))) (nI 16))) (nI 8))) (nI 16)) (cond (pm_cmp .le (cond (pm_cmp .le ((a ^^^ (Int32.ofInt (-1))) &&& (a - (nI 1))) (nI 65536)) ((a ^^^ (Int32.ofInt (-1))) &&& (a - (nI 1))) (ushr ((a ^^^ (Int32.ofInt (-1))) &&& (a - (nI 1))) (nI 16))) (nI 256)) (cond (pm_cmp .le ((a ^^^ (Int32.ofInt (-1))) &&& (a - (nI 1))) (nI 65536)) (nI 1) (nI 17)) ((cond (pm_cmp .le ((a ^^^ (Int32.ofInt (-1))) &&& (a - (nI 1))) (nI 65536)) (nI 1) (nI 17)) + Int32.ofInt 8)) ((cond (pm_cmp .le (cond (pm_cmp .le ((a ^^^ (Int32.ofInt (-1))) &&& (a - (nI 1))) (nI 65536)) ((a ^^^ (Int32.ofInt (-1))) &&& (a - (nI 1))) (ushr ((a ^^^ (Int32.ofInt (-1))) &&& (a - (nI 1))) (nI 16))) (nI 256)) (cond (pm_cmp .le ((a ^^^ (Int32.ofInt (-1))) &&& (a - (nI 1))) (nI 65536)) (nI 1) (nI 17)) ((cond (pm_cmp .le ((a ^^^ (Int32.ofInt (-1))) &&& (a - (nI 1))) (nI 65536)) (nI 1) (nI 17)) + Int32.ofInt 8)) + Int32.ofInt 4)) + Int32.ofInt 2)) + (ushr (cond (pm_cmp .le (cond (pm_cmp .le (cond (pm_cmp .le (cond (pm_cmp .le ((a ^^^ (Int32.ofInt (-1))) &&& (a - (nI 1))) (nI 65536)) ((a ^^^ (Int32.ofInt (-1))) &&& (a - (nI 1))) (ushr ((a ^^^ (Int32.ofInt (-1))) &&& (a - (nI 1))) (nI 16))) (nI 256)) (cond (pm_cmp .le ((a ^^^ (Int32.ofInt (-1))) &&& (a - (nI 1))) (nI 65536)) ((a ^^^ (Int32.ofInt (-1))) &&& (a - (nI 1))) (ushr ((a ^^^ (Int32.ofInt (-1))) &&& (a - (nI 1))) (nI 16))) (ushr (cond (pm_cmp .le ((a ^^^ (Int32.ofInt (-1))) &&& (a - (nI 1))) (nI 65536)) ((a ^^^ (Int32.ofInt (-1))) &&& (a - (nI 1))) (ushr ((a ^^^ (Int32.ofInt (-1))) &&& (a - (nI 1))) (nI 16))) (nI 8))) (nI 16)) (cond (pm_cmp .le (cond (pm_cmp .le ((a ^^^ (Int32.ofInt (-1))) &&& (a - (nI 1))) (nI 65536)) ((a ^^^ (Int32.ofInt (-1))) &&& (a - (nI 1))) (ushr ((a ^^^ (Int32.ofInt (-1))) &&& (a - (nI 1))) (nI 16))) (nI 256)) (cond (pm_cmp .le ((a ^^^ (Int32.ofInt (-1))) &&& (a - (nI 1))) (nI 65536)) ((a ^^^ (Int32.ofInt (-1))) &&& (a - (nI 1))) (ushr ((a ^^^ (Int32.ofInt (-1))) &&& (a - (nI 1))) (nI 16))) (ushr (cond (pm_cmp .le ((a ^^^ (Int32.ofInt (-1))) &&& (a - (nI 1))) (nI 65536)) ((a ^^^ (Int32.ofInt (-1))) &&& (a - (nI 1))) (ushr ((a ^^^ (Int32.ofInt (-1))) &&& (a - (nI 1))) (nI 16))) (nI 8))) (ushr (cond (pm_cmp .le (cond (pm_cmp .le ((a ^^^ (Int32.ofInt (-1))) &&& (a - (nI 1))) (nI 65536)) ((a ^^^ (Int32.ofInt (-1))) &&& (a - (nI 1))) (ushr ((a ^^^ (Int32.ofInt (-1))) &&& (a - (nI 1))) (nI 16))) (nI 256)) (cond (pm_cmp .le ((a ^^^ (Int32.ofInt (-1))) &&& (a - (nI 1))) (nI 65536)) ((a ^^^ (Int32.ofInt (-1))) &&& (a - (nI 1))) (ushr ((a ^^^ (Int32.ofInt (-1))) &&& (a - (nI 1))) (nI 16))) (ushr (cond (pm_cmp .le ((a ^^^ (Int32.ofInt (-1))) &&& (a - (nI 1))) (nI 65536)) ((a ^^^ (Int32.ofInt (-1))) &&& (a - (nI 1))) (ushr ((a ^^^ (Int32.ofInt (-1))) &&& (a - (nI 1))) (nI 16))) (nI 8))) (nI 4))) (nI 4)) (cond (pm_cmp .le (cond (pm_cmp .le (cond (pm_cmp .le ((a ^^^ (Int32.ofInt (-1))) &&& (a - (nI 1))) (nI 65536)) ((a ^^^ (Int32.ofInt (-1))) &&& (a - (nI 1))) (ushr ((a ^^^ (Int32.ofInt (-1))) &&& (a - (nI 1))) (nI 16))) (nI 256)) (cond (pm_cmp .le ((a ^^^ (Int32.ofInt (-1))) &&& (a - (nI 1))) (nI 65536)) ((a ^^^ (Int32.ofInt (-1))) &&& (a - (nI 1))) (ushr ((a ^^^ (Int32.ofInt (-1))) &&& (a - (nI 1))) (nI 16))) (ushr (cond (pm_cmp .le ((a ^^^ (Int32.ofInt (-1))) &&& (a - (nI 1))) (nI 65536)) ((a ^^^ (Int32.ofInt (-1))) &&& (a - (nI 1))) (ushr ((a ^^^ (Int32.ofInt (-1))) &&& (a - (nI 1))) (nI 16))) (nI 8))) (nI 16)) (cond (pm_cmp .le (cond (pm_cmp .le ((a ^^^ (Int32.ofInt (-1))) &&& (a - (nI 1))) (nI 65536)) ((a ^^^ (Int32.ofInt (-1))) &&& (a - (nI 1))) (ushr ((a ^^^ (Int32.ofInt (-1))) &&& (a - (nI 1))) (nI 16))) (nI 256)) (cond (pm_cmp .le ((a ^^^ (Int32.ofInt (-1))) &&& (a - (nI 1))) (nI 65536)) ((a ^^^ (Int32.ofInt (-1))) &&& (a - (nI 1))) (ushr ((a ^^^ (Int32.ofInt (-1))) &&& (a - (nI 1))) (nI 16))) (ushr (cond (pm_cmp .le ((a ^^^ (Int32.ofInt (-1))) &&& (a - (nI 1))) (nI 65536)) ((a ^^^ (Int32.ofInt (-1))) &&& (a - (nI 1))) (ushr ((a ^^^ (Int32.ofInt (-1))) &&& (a - (nI 1))) (nI 16))) (nI 8))) (ushr (cond (pm_cmp .le (cond (pm_cmp .le ((a ^^^ (Int32.ofInt (-1))) &&& (a - (nI 1))) (nI 65536)) ((a ^^^ (Int32.ofInt (-1))) &&& (a - (nI 1))) (ushr ((a ^^^ (Int32.ofInt (-1))) &&& (a - (nI 1))) (nI 16))) (nI 256)) (cond (pm_cmp .le ((a ^^^ (Int32.ofInt (-1))) &&& (a - (nI 1))) (nI 65536)) ((a ^^^ (Int32.ofInt (-1))) &&& (a - (nI 1))) (ushr ((a ^^^ (Int32.ofInt (-1))) &&& (a - (nI 1))) (nI 16))) (ushr (cond (pm_cmp .le ((a ^^^ (Int32.ofInt (-1))) &&& (a - (nI 1))) (nI 65536)) ((a ^^^ (Int32.ofInt (-1))) &&& (a - (nI 1))) (ushr ((a ^^^ (Int32.ofInt (-1))) &&& (a - (nI 1))) (nI 16))) (nI 8))) (nI 4))) (ushr (cond (pm_cmp .le (cond (pm_cmp .le (cond (pm_cmp .le ((a ^^^ (Int32.ofInt (-1))) &&& (a - (nI 1))) (nI 65536)) ((a ^^^ (Int32.ofInt (-1))) &&& (a - (nI 1))) (ushr ((a ^^^ (Int32.ofInt (-1))) &&& (a - (nI 1))) (nI 16))) (nI 256)) (cond (pm_cmp .le ((a ^^^ (Int32.ofInt (-1))) &&& (a - (nI 1))) (nI 65536)) ((a ^^^ (Int32.ofInt (-1))) &&& (a - (nI 1))) (ushr ((a ^^^ (Int32.ofInt (-1))) &&& (a - (nI 1))) (nI 16))) (ushr (cond (pm_cmp .le ((a ^^^ (Int32.ofInt (-1))) &&& (a - (nI 1))) (nI 65536)) ((a ^^^ (Int32.ofInt (-1))) &&& (a - (nI 1))) (ushr ((a ^^^ (Int32.ofInt (-1))) &&& (a - (nI 1))) (nI 16))) (nI 8))) (nI 16)) (cond (pm_cmp .le (cond (pm_cmp .le ((a ^^^ (Int32.ofInt (-1))) &&& (a - (nI 1))) (nI 65536)) ((a ^^^ (Int32.ofInt (-1))) &&& (a - (nI 1))) (ushr ((a ^^^ (Int32.ofInt (-1))) &&& (a - (nI 1))) (nI 16))) (nI 256)) (cond (pm_cmp .le ((a ^^^ (Int32.ofInt (-1))) &&& (a - (nI 1))) (nI 65536)) ((a ^^^ (Int32.ofInt (-1))) &&& (a - (nI 1))) (ushr ((a ^^^ (Int32.ofInt (-1))) &&& (a - (nI 1))) (nI 16))) (ushr (cond (pm_cmp .le ((a ^^^ (Int32.ofInt (-1))) &&& (a - (nI 1))) (nI 65536)) ((a ^^^ (Int32.ofInt (-1))) &&& (a - (nI 1))) (ushr ((a ^^^ (Int32.ofInt (-1))) &&& (a - (nI 1))) (nI 16))) (nI 8))) (ushr (cond (pm_cmp .le (cond (pm_cmp .le ((a ^^^ (Int32.ofInt (-1))) &&& (a - (nI 1))) (nI 65536)) ((a ^^^ (Int32.ofInt (-1))) &&& (a - (nI 1))) (ushr ((a ^^^ (Int32.ofInt (-1))) &&& (a - (nI 1))) (nI 16))) (nI 256)) (cond (pm_cmp .le ((a ^^^ (Int32.ofInt (-1))) &&& (a - (nI 1))) (nI 65536)) ((a ^^^ (Int32.ofInt (-1))) &&& (a - (nI 1))) (ushr ((a ^^^ (Int32.ofInt (-1))) &&& (a - (nI 1))) (nI 16))) (ushr (cond (pm_cmp .le ((a ^^^ (Int32.ofInt (-1))) &&& (a - (nI 1))) (nI 65536)) ((a ^^^ (Int32.ofInt (-1))) &&& (a - (nI 1))) (ushr ((a ^^^ (Int32.ofInt (-1))) &&& (a - (nI 1))) (nI 16))) (nI 8))) (nI 4))) (nI 2))) (nI 1)))], h, 198, sl) = some R := hh
    have er10 : R = (some (.int ((cond (pm_cmp .le (cond (pm_cmp .le (cond (pm_cmp .le (cond (pm_cmp .le ((a ^^^ (Int32.ofInt (-1))) &&& (a - (nI 1))) (nI 65536)) ((a ^^^ (Int32.ofInt (-1))) &&& (a - (nI 1))) (ushr ((a ^^^ (Int32.ofInt (-1))) &&& (a - (nI 1))) (nI 16))) (nI 256)) (cond (pm_cmp .le ((a ^^^ (Int32.ofInt (-1))) &&& (a - (nI 1))) (nI 65536)) ((a ^^^ (Int32.ofInt (-1))) &&& (a - (nI 1))) (ushr ((a ^^^ (Int32.ofInt (-1))) &&& (a - (nI 1))) (nI 16))) (ushr (cond (pm_cmp .le ((a ^^^ (Int32.ofInt (-1))) &&& (a - (nI 1))) (nI 65536)) ((a ^^^ (Int32.ofInt (-1))) &&& (a - (nI 1))) (ushr ((a ^^^ (Int32.ofInt (-1))) &&& (a - (nI 1))) (nI 16))) (nI 8))) (nI 16)) (cond (pm_cmp .le (cond (pm_cmp .le ((a ^^^ (Int32.ofInt (-1))) &&& (a - (nI 1))) (nI 65536)) ((a ^^^ (Int32.ofInt (-1))) &&& (a - (nI 1))) (ushr ((a ^^^ (Int32.ofInt (-1))) &&& (a - (nI 1))) (nI 16))) (nI 256)) (cond (pm_cmp .le ((a ^^^ (Int32.ofInt (-1))) &&& (a - (nI 1))) (nI 65536)) ((a ^^^ (Int32.ofInt (-1))) &&& (a - (nI 1))) (ushr ((a ^^^ (Int32.ofInt (-1))) &&& (a - (nI 1))) (nI 16))) (ushr (cond (pm_cmp .le ((a ^^^ (Int32.ofInt (-1))) &&& (a - (nI 1))) (nI 65536)) ((a ^^^ (Int32.ofInt (-1))) &&& (a - (nI 1))) (ushr ((a ^^^ (Int32.ofInt (-1))) &&& (a - (nI 1))) (nI 16))) (nI 8))) (ushr (cond (pm_cmp .le (cond (pm_cmp .le ((a ^^^ (Int32.ofInt (-1))) &&& (a - (nI 1))) (nI 65536)) ((a ^^^ (Int32.ofInt (-1))) &&& (a - (nI 1))) (ushr ((a ^^^ (Int32.ofInt (-1))) &&& (a - (nI 1))) (nI 16))) (nI 256)) (cond (pm_cmp .le ((a ^^^ (Int32.ofInt (-1))) &&& (a - (nI 1))) (nI 65536)) ((a ^^^ (Int32.ofInt (-1))) &&& (a - (nI 1))) (ushr ((a ^^^ (Int32.ofInt (-1))) &&& (a - (nI 1))) (nI 16))) (ushr (cond (pm_cmp .le ((a ^^^ (Int32.ofInt (-1))) &&& (a - (nI 1))) (nI 65536)) ((a ^^^ (Int32.ofInt (-1))) &&& (a - (nI 1))) (ushr ((a ^^^ (Int32.ofInt (-1))) &&& (a - (nI 1))) (nI 16))) (nI 8))) (nI 4))) (nI 4)) (cond (pm_cmp .le (cond (pm_cmp .le (cond (pm_cmp .le ((a ^^^ (Int32.ofInt (-1))) &&& (a - (nI 1))) (nI 65536)) ((a ^^^ (Int32.ofInt (-1))) &&& (a - (nI 1))) (ushr ((a ^^^ (Int32.ofInt (-1))) &&& (a - (nI 1))) (nI 16))) (nI 256)) (cond (pm_cmp .le ((a ^^^ (Int32.ofInt (-1))) &&& (a - (nI 1))) (nI 65536)) ((a ^^^ (Int32.ofInt (-1))) &&& (a - (nI 1))) (ushr ((a ^^^ (Int32.ofInt (-1))) &&& (a - (nI 1))) (nI 16))) (ushr (cond (pm_cmp .le ((a ^^^ (Int32.ofInt (-1))) &&& (a - (nI 1))) (nI 65536)) ((a ^^^ (Int32.ofInt (-1))) &&& (a - (nI 1))) (ushr ((a ^^^ (Int32.ofInt (-1))) &&& (a - (nI 1))) (nI 16))) (nI 8))) (nI 16)) (cond (pm_cmp .le (cond (pm_cmp .le ((a ^^^ (Int32.ofInt (-1))) &&& (a - (nI 1))) (nI 65536)) ((a ^^^ (Int32.ofInt (-1))) &&& (a - (nI 1))) (ushr ((a ^^^ (Int32.ofInt (-1))) &&& (a - (nI 1))) (nI 16))) (nI 256)) (cond (pm_cmp .le ((a ^^^ (Int32.ofInt (-1))) &&& (a - (nI 1))) (nI 65536)) (nI 1) (nI 17)) ((cond (pm_cmp .le ((a ^^^ (Int32.ofInt (-1))) &&& (a - (nI 1))) (nI 65536)) (nI 1) (nI 17)) + Int32.ofInt 8)) ((cond (pm_cmp .le (cond (pm_cmp .le ((a ^^^ (Int32.ofInt (-1))) &&& (a - (nI 1))) (nI 65536)) ((a ^^^ (Int32.ofInt (-1))) &&& (a - (nI 1))) (ushr ((a ^^^ (Int32.ofInt (-1))) &&& (a - (nI 1))) (nI 16))) (nI 256)) (cond (pm_cmp .le ((a ^^^ (Int32.ofInt (-1))) &&& (a - (nI 1))) (nI 65536)) (nI 1) (nI 17)) ((cond (pm_cmp .le ((a ^^^ (Int32.ofInt (-1))) &&& (a - (nI 1))) (nI 65536)) (nI 1) (nI 17)) + Int32.ofInt 8)) + Int32.ofInt 4)) ((cond (pm_cmp .le (cond (pm_cmp .le (cond (pm_cmp .le ((a ^^^ (Int32.ofInt (-1))) &&& (a - (nI 1))) (nI 65536)) ((a ^^^ (Int32.ofInt (-1))) &&& (a - (nI 1))) (ushr ((a ^^^ (Int32.ofInt (-1))) &&& (a - (nI 1))) (nI 16))) (nI 256)) (cond (pm_cmp .le ((a ^^^ (Int32.ofInt (-1))) &&& (a - (nI 1))) (nI 65536)) ((a ^^^ (Int32.ofInt (-1))) &&& (a - (nI 1))) (ushr ((a ^^^ (Int32.ofInt (-1))) &&& (a - (nI 1))) (nI 16))) (ushr (cond (pm_cmp .le ((a ^^^ (Int32.ofInt (-1))) &&& (a - (nI 1))) (nI 65536)) ((a ^^^ (Int32.ofInt (-1))) &&& (a - (nI 1))) (ushr ((a ^^^ (Int32.ofInt (-1))) &&& (a - (nI 1))) (nI 16))) (nI 8))) (nI 16)) (cond (pm_cmp .le (cond (pm_cmp .le ((a ^^^ (Int32.ofInt (-1))) &&& (a - (nI 1))) (nI 65536)) ((a ^^^ (Int32.ofInt (-1))) &&& (a - (nI 1))) (ushr ((a ^^^ (Int32.ofInt (-1))) &&& (a - (nI 1))) (nI 16))) (nI 256)) (cond (pm_cmp .le ((a ^^^ (Int32.ofInt (-1))) &&& (a - (nI 1))) (nI 65536)) (nI 1) (nI 17)) ((cond (pm_cmp .le ((a ^^^ (Int32.ofInt (-1))) &&& (a - (nI 1))) (nI 65536)) (nI 1) (nI 17)) + Int32.ofInt 8)) ((cond (pm_cmp .le (cond (pm_cmp .le ((a ^^^ (Int32.ofInt (-1))) &&& (a - (nI 1))) (nI 65536)) ((a ^^^ (Int32.ofInt (-1))) &&& (a - (nI 1))) (ushr ((a ^^^ (Int32.ofInt (-1))) &&& (a - (nI 1))) (nI 16))) (nI 256)) (cond (pm_cmp .le ((a ^^^ (Int32.ofInt (-1))) &&& (a - (nI 1))) (nI 65536)) (nI 1) (nI 17)) ((cond (pm_cmp .le ((a ^^^ (Int32.ofInt (-1))) &&& (a - (nI 1))) (nI 65536)) (nI 1) (nI 17)) + Int32.ofInt 8)) + Int32.ofInt 4)) + Int32.ofInt 2)) + (ushr (cond (pm_cmp .le (cond (pm_cmp .le (cond (pm_cmp .le (cond (pm_cmp .le ((a ^^^ (Int32.ofInt (-1))) &&& (a - (nI 1))) (nI 65536)) ((a ^^^ (Int32.ofInt (-1))) &&& (a - (nI 1))) (ushr ((a ^^^ (Int32.ofInt (-1))) &&& (a - (nI 1))) (nI 16))) (nI 256)) (cond (pm_cmp .le ((a ^^^ (Int32.ofInt (-1))) &&& (a - (nI 1))) (nI 65536)) ((a ^^^ (Int32.ofInt (-1))) &&& (a - (nI 1))) (ushr ((a ^^^ (Int32.ofInt (-1))) &&& (a - (nI 1))) (nI 16))) (ushr (cond (pm_cmp .le ((a ^^^ (Int32.ofInt (-1))) &&& (a - (nI 1))) (nI 65536)) ((a ^^^ (Int32.ofInt (-1))) &&& (a - (nI 1))) (ushr ((a ^^^ (Int32.ofInt (-1))) &&& (a - (nI 1))) (nI 16))) (nI 8))) (nI 16)) (cond (pm_cmp .le (cond (pm_cmp .le ((a ^^^ (Int32.ofInt (-1))) &&& (a - (nI 1))) (nI 65536)) ((a ^^^ (Int32.ofInt (-1))) &&& (a - (nI 1))) (ushr ((a ^^^ (Int32.ofInt (-1))) &&& (a - (nI 1))) (nI 16))) (nI 256)) (cond (pm_cmp .le ((a ^^^ (Int32.ofInt (-1))) &&& (a - (nI 1))) (nI 65536)) ((a ^^^ (Int32.ofInt (-1))) &&& (a - (nI 1))) (ushr ((a ^^^ (Int32.ofInt (-1))) &&& (a - (nI 1))) (nI 16))) (ushr (cond (pm_cmp .le ((a ^^^ (Int32.ofInt (-1))) &&& (a - (nI 1))) (nI 65536)) ((a ^^^ (Int32.ofInt (-1))) &&& (a - (nI 1))) (ushr ((a ^^^ (Int32.ofInt (-1))) &&& (a - (nI 1))) (nI 16))) (nI 8))) (ushr (cond (pm_cmp .le (cond (pm_cmp .le ((a ^^^ (Int32.ofInt (-1))) &&& (a - (nI 1))) (nI 65536)) ((a ^^^ (Int32.ofInt (-1))) &&& (a - (nI 1))) (ushr ((a ^^^ (Int32.ofInt (-1))) &&& (a - (nI 1))) (nI 16))) (nI 256)) (cond (pm_cmp .le ((a ^^^ (Int32.ofInt (-1))) &&& (a - (nI 1))) (nI 65536)) ((a ^^^ (Int32.ofInt (-1))) &&& (a - (nI 1))) (ushr ((a ^^^ (Int32.ofInt (-1))) &&& (a - (nI 1))) (nI 16))) (ushr (cond (pm_cmp .le ((a ^^^ (Int32.ofInt (-1))) &&& (a - (nI 1))) (nI 65536)) ((a ^^^ (Int32.ofInt (-1))) &&& (a - (nI 1))) (ushr ((a ^^^ (Int32.ofInt (-1))) &&& (a - (nI 1))) (nI 16))) (nI 8))) (nI 4))) (nI 4)) (cond (pm_cmp .le (cond (pm_cmp .le (cond (pm_cmp .le ((a ^^^ (Int32.ofInt (-1))) &&& (a - (nI 1))) (nI 65536)) ((a ^^^ (Int32.ofInt (-1))) &&& (a - (nI 1))) (ushr ((a ^^^ (Int32.ofInt (-1))) &&& (a - (nI 1))) (nI 16))) (nI 256)) (cond (pm_cmp .le ((a ^^^ (Int32.ofInt (-1))) &&& (a - (nI 1))) (nI 65536)) ((a ^^^ (Int32.ofInt (-1))) &&& (a - (nI 1))) (ushr ((a ^^^ (Int32.ofInt (-1))) &&& (a - (nI 1))) (nI 16))) (ushr (cond (pm_cmp .le ((a ^^^ (Int32.ofInt (-1))) &&& (a - (nI 1))) (nI 65536)) ((a ^^^ (Int32.ofInt (-1))) &&& (a - (nI 1))) (ushr ((a ^^^ (Int32.ofInt (-1))) &&& (a - (nI 1))) (nI 16))) (nI 8))) (nI 16)) (cond (pm_cmp .le (cond (pm_cmp .le ((a ^^^ (Int32.ofInt (-1))) &&& (a - (nI 1))) (nI 65536)) ((a ^^^ (Int32.ofInt (-1))) &&& (a - (nI 1))) (ushr ((a ^^^ (Int32.ofInt (-1))) &&& (a - (nI 1))) (nI 16))) (nI 256)) (cond (pm_cmp .le ((a ^^^ (Int32.ofInt (-1))) &&& (a - (nI 1))) (nI 65536)) ((a ^^^ (Int32.ofInt (-1))) &&& (a - (nI 1))) (ushr ((a ^^^ (Int32.ofInt (-1))) &&& (a - (nI 1))) (nI 16))) (ushr (cond (pm_cmp .le ((a ^^^ (Int32.ofInt (-1))) &&& (a - (nI 1))) (nI 65536)) ((a ^^^ (Int32.ofInt (-1))) &&& (a - (nI 1))) (ushr ((a ^^^ (Int32.ofInt (-1))) &&& (a - (nI 1))) (nI 16))) (nI 8))) (ushr (cond (pm_cmp .le (cond (pm_cmp .le ((a ^^^ (Int32.ofInt (-1))) &&& (a - (nI 1))) (nI 65536)) ((a ^^^ (Int32.ofInt (-1))) &&& (a - (nI 1))) (ushr ((a ^^^ (Int32.ofInt (-1))) &&& (a - (nI 1))) (nI 16))) (nI 256)) (cond (pm_cmp .le ((a ^^^ (Int32.ofInt (-1))) &&& (a - (nI 1))) (nI 65536)) ((a ^^^ (Int32.ofInt (-1))) &&& (a - (nI 1))) (ushr ((a ^^^ (Int32.ofInt (-1))) &&& (a - (nI 1))) (nI 16))) (ushr (cond (pm_cmp .le ((a ^^^ (Int32.ofInt (-1))) &&& (a - (nI 1))) (nI 65536)) ((a ^^^ (Int32.ofInt (-1))) &&& (a - (nI 1))) (ushr ((a ^^^ (Int32.ofInt (-1))) &&& (a - (nI 1))) (nI 16))) (nI 8))) (nI 4))) (ushr (cond (pm_cmp .le (cond (pm_cmp .le (cond (pm_cmp .le ((a ^^^ (Int32.ofInt (-1))) &&& (a - (nI 1))) (nI 65536)) ((a ^^^ (Int32.ofInt (-1))) &&& (a - (nI 1))) (ushr ((a ^^^ (Int32.ofInt (-1))) &&& (a - (nI 1))) (nI 16))) (nI 256)) (cond (pm_cmp .le ((a ^^^ (Int32.ofInt (-1))) &&& (a - (nI 1))) (nI 65536)) ((a ^^^ (Int32.ofInt (-1))) &&& (a - (nI 1))) (ushr ((a ^^^ (Int32.ofInt (-1))) &&& (a - (nI 1))) (nI 16))) (ushr (cond (pm_cmp .le ((a ^^^ (Int32.ofInt (-1))) &&& (a - (nI 1))) (nI 65536)) ((a ^^^ (Int32.ofInt (-1))) &&& (a - (nI 1))) (ushr ((a ^^^ (Int32.ofInt (-1))) &&& (a - (nI 1))) (nI 16))) (nI 8))) (nI 16)) (cond (pm_cmp .le (cond (pm_cmp .le ((a ^^^ (Int32.ofInt (-1))) &&& (a - (nI 1))) (nI 65536)) ((a ^^^ (Int32.ofInt (-1))) &&& (a - (nI 1))) (ushr ((a ^^^ (Int32.ofInt (-1))) &&& (a - (nI 1))) (nI 16))) (nI 256)) (cond (pm_cmp .le ((a ^^^ (Int32.ofInt (-1))) &&& (a - (nI 1))) (nI 65536)) ((a ^^^ (Int32.ofInt (-1))) &&& (a - (nI 1))) (ushr ((a ^^^ (Int32.ofInt (-1))) &&& (a - (nI 1))) (nI 16))) (ushr (cond (pm_cmp .le ((a ^^^ (Int32.ofInt (-1))) &&& (a - (nI 1))) (nI 65536)) ((a ^^^ (Int32.ofInt (-1))) &&& (a - (nI 1))) (ushr ((a ^^^ (Int32.ofInt (-1))) &&& (a - (nI 1))) (nI 16))) (nI 8))) (ushr (cond (pm_cmp .le (cond (pm_cmp .le ((a ^^^ (Int32.ofInt (-1))) &&& (a - (nI 1))) (nI 65536)) ((a ^^^ (Int32.ofInt (-1))) &&& (a - (nI 1))) (ushr ((a ^^^ (Int32.ofInt (-1))) &&& (a - (nI 1))) (nI 16))) (nI 256)) (cond (pm_cmp .le ((a ^^^ (Int32.ofInt (-1))) &&& (a - (nI 1))) (nI 65536)) ((a ^^^ (Int32.ofInt (-1))) &&& (a - (nI 1))) (ushr ((a ^^^ (Int32.ofInt (-1))) &&& (a - (nI 1))) (nI 16))) (ushr (cond (pm_cmp .le ((a ^^^ (Int32.ofInt (-1))) &&& (a - (nI 1))) (nI 65536)) ((a ^^^ (Int32.ofInt (-1))) &&& (a - (nI 1))) (ushr ((a ^^^ (Int32.ofInt (-1))) &&& (a - (nI 1))) (nI 16))) (nI 8))) (nI 4))) (nI 2))) (nI 1)))), h, 198, sl) := (rn_ret rfl (Or.inl rfl) hh).2
    have ed : v269 q cc gc a = (cond (pm_cmp .le (cond (pm_cmp .le (cond (pm_cmp .le (cond (pm_cmp .le ((a ^^^ (Int32.ofInt (-1))) &&& (a - (nI 1))) (nI 65536)) ((a ^^^ (Int32.ofInt (-1))) &&& (a - (nI 1))) (ushr ((a ^^^ (Int32.ofInt (-1))) &&& (a - (nI 1))) (nI 16))) (nI 256)) (cond (pm_cmp .le ((a ^^^ (Int32.ofInt (-1))) &&& (a - (nI 1))) (nI 65536)) ((a ^^^ (Int32.ofInt (-1))) &&& (a - (nI 1))) (ushr ((a ^^^ (Int32.ofInt (-1))) &&& (a - (nI 1))) (nI 16))) (ushr (cond (pm_cmp .le ((a ^^^ (Int32.ofInt (-1))) &&& (a - (nI 1))) (nI 65536)) ((a ^^^ (Int32.ofInt (-1))) &&& (a - (nI 1))) (ushr ((a ^^^ (Int32.ofInt (-1))) &&& (a - (nI 1))) (nI 16))) (nI 8))) (nI 16)) (cond (pm_cmp .le (cond (pm_cmp .le ((a ^^^ (Int32.ofInt (-1))) &&& (a - (nI 1))) (nI 65536)) ((a ^^^ (Int32.ofInt (-1))) &&& (a - (nI 1))) (ushr ((a ^^^ (Int32.ofInt (-1))) &&& (a - (nI 1))) (nI 16))) (nI 256)) (cond (pm_cmp .le ((a ^^^ (Int32.ofInt (-1))) &&& (a - (nI 1))) (nI 65536)) ((a ^^^ (Int32.ofInt (-1))) &&& (a - (nI 1))) (ushr ((a ^^^ (Int32.ofInt (-1))) &&& (a - (nI 1))) (nI 16))) (ushr (cond (pm_cmp .le ((a ^^^ (Int32.ofInt (-1))) &&& (a - (nI 1))) (nI 65536)) ((a ^^^ (Int32.ofInt (-1))) &&& (a - (nI 1))) (ushr ((a ^^^ (Int32.ofInt (-1))) &&& (a - (nI 1))) (nI 16))) (nI 8))) (ushr (cond (pm_cmp .le (cond (pm_cmp .le ((a ^^^ (Int32.ofInt (-1))) &&& (a - (nI 1))) (nI 65536)) ((a ^^^ (Int32.ofInt (-1))) &&& (a - (nI 1))) (ushr ((a ^^^ (Int32.ofInt (-1))) &&& (a - (nI 1))) (nI 16))) (nI 256)) (cond (pm_cmp .le ((a ^^^ (Int32.ofInt (-1))) &&& (a - (nI 1))) (nI 65536)) ((a ^^^ (Int32.ofInt (-1))) &&& (a - (nI 1))) (ushr ((a ^^^ (Int32.ofInt (-1))) &&& (a - (nI 1))) (nI 16))) (ushr (cond (pm_cmp .le ((a ^^^ (Int32.ofInt (-1))) &&& (a - (nI 1))) (nI 65536)) ((a ^^^ (Int32.ofInt (-1))) &&& (a - (nI 1))) (ushr ((a ^^^ (Int32.ofInt (-1))) &&& (a - (nI 1))) (nI 16))) (nI 8))) (nI 4))) (nI 4)) (cond (pm_cmp .le (cond (pm_cmp .le (cond (pm_cmp .le ((a ^^^ (Int32.ofInt (-1))) &&& (a - (nI 1))) (nI 65536)) ((a ^^^ (Int32.ofInt (-1))) &&& (a - (nI 1))) (ushr ((a ^^^ (Int32.ofInt (-1))) &&& (a - (nI 1))) (nI 16))) (nI 256)) (cond (pm_cmp .le ((a ^^^ (Int32.ofInt (-1))) &&& (a - (nI 1))) (nI 65536)) ((a ^^^ (Int32.ofInt (-1))) &&& (a - (nI 1))) (ushr ((a ^^^ (Int32.ofInt (-1))) &&& (a - (nI 1))) (nI 16))) (ushr (cond (pm_cmp .le ((a ^^^ (Int32.ofInt (-1))) &&& (a - (nI 1))) (nI 65536)) ((a ^^^ (Int32.ofInt (-1))) &&& (a - (nI 1))) (ushr ((a ^^^ (Int32.ofInt (-1))) &&& (a - (nI 1))) (nI 16))) (nI 8))) (nI 16)) (cond (pm_cmp .le (cond (pm_cmp .le ((a ^^^ (Int32.ofInt (-1))) &&& (a - (nI 1))) (nI 65536)) ((a ^^^ (Int32.ofInt (-1))) &&& (a - (nI 1))) (ushr ((a ^^^ (Int32.ofInt (-1))) &&& (a - (nI 1))) (nI 16))) (nI 256)) (cond (pm_cmp .le ((a ^^^ (Int32.ofInt (-1))) &&& (a - (nI 1))) (nI 65536)) (nI 1) (nI 17)) ((cond (pm_cmp .le ((a ^^^ (Int32.ofInt (-1))) &&& (a - (nI 1))) (nI 65536)) (nI 1) (nI 17)) + Int32.ofInt 8)) ((cond (pm_cmp .le (cond (pm_cmp .le ((a ^^^ (Int32.ofInt (-1))) &&& (a - (nI 1))) (nI 65536)) ((a ^^^ (Int32.ofInt (-1))) &&& (a - (nI 1))) (ushr ((a ^^^ (Int32.ofInt (-1))) &&& (a - (nI 1))) (nI 16))) (nI 256)) (cond (pm_cmp .le ((a ^^^ (Int32.ofInt (-1))) &&& (a - (nI 1))) (nI 65536)) (nI 1) (nI 17)) ((cond (pm_cmp .le ((a ^^^ (Int32.ofInt (-1))) &&& (a - (nI 1))) (nI 65536)) (nI 1) (nI 17)) + Int32.ofInt 8)) + Int32.ofInt 4)) ((cond (pm_cmp .le (cond (pm_cmp .le (cond (pm_cmp .le ((a ^^^ (Int32.ofInt (-1))) &&& (a - (nI 1))) (nI 65536)) ((a ^^^ (Int32.ofInt (-1))) &&& (a - (nI 1))) (ushr ((a ^^^ (Int32.ofInt (-1))) &&& (a - (nI 1))) (nI 16))) (nI 256)) (cond (pm_cmp .le ((a ^^^ (Int32.ofInt (-1))) &&& (a - (nI 1))) (nI 65536)) ((a ^^^ (Int32.ofInt (-1))) &&& (a - (nI 1))) (ushr ((a ^^^ (Int32.ofInt (-1))) &&& (a - (nI 1))) (nI 16))) (ushr (cond (pm_cmp .le ((a ^^^ (Int32.ofInt (-1))) &&& (a - (nI 1))) (nI 65536)) ((a ^^^ (Int32.ofInt (-1))) &&& (a - (nI 1))) (ushr ((a ^^^ (Int32.ofInt (-1))) &&& (a - (nI 1))) (nI 16))) (nI 8))) (nI 16)) (cond (pm_cmp .le (cond (pm_cmp .le ((a ^^^ (Int32.ofInt (-1))) &&& (a - (nI 1))) (nI 65536)) ((a ^^^ (Int32.ofInt (-1))) &&& (a - (nI 1))) (ushr ((a ^^^ (Int32.ofInt (-1))) &&& (a - (nI 1))) (nI 16))) (nI 256)) (cond (pm_cmp .le ((a ^^^ (Int32.ofInt (-1))) &&& (a - (nI 1))) (nI 65536)) (nI 1) (nI 17)) ((cond (pm_cmp .le ((a ^^^ (Int32.ofInt (-1))) &&& (a - (nI 1))) (nI 65536)) (nI 1) (nI 17)) + Int32.ofInt 8)) ((cond (pm_cmp .le (cond (pm_cmp .le ((a ^^^ (Int32.ofInt (-1))) &&& (a - (nI 1))) (nI 65536)) ((a ^^^ (Int32.ofInt (-1))) &&& (a - (nI 1))) (ushr ((a ^^^ (Int32.ofInt (-1))) &&& (a - (nI 1))) (nI 16))) (nI 256)) (cond (pm_cmp .le ((a ^^^ (Int32.ofInt (-1))) &&& (a - (nI 1))) (nI 65536)) (nI 1) (nI 17)) ((cond (pm_cmp .le ((a ^^^ (Int32.ofInt (-1))) &&& (a - (nI 1))) (nI 65536)) (nI 1) (nI 17)) + Int32.ofInt 8)) + Int32.ofInt 4)) + Int32.ofInt 2)) + (ushr (cond (pm_cmp .le (cond (pm_cmp .le (cond (pm_cmp .le (cond (pm_cmp .le ((a ^^^ (Int32.ofInt (-1))) &&& (a - (nI 1))) (nI 65536)) ((a ^^^ (Int32.ofInt (-1))) &&& (a - (nI 1))) (ushr ((a ^^^ (Int32.ofInt (-1))) &&& (a - (nI 1))) (nI 16))) (nI 256)) (cond (pm_cmp .le ((a ^^^ (Int32.ofInt (-1))) &&& (a - (nI 1))) (nI 65536)) ((a ^^^ (Int32.ofInt (-1))) &&& (a - (nI 1))) (ushr ((a ^^^ (Int32.ofInt (-1))) &&& (a - (nI 1))) (nI 16))) (ushr (cond (pm_cmp .le ((a ^^^ (Int32.ofInt (-1))) &&& (a - (nI 1))) (nI 65536)) ((a ^^^ (Int32.ofInt (-1))) &&& (a - (nI 1))) (ushr ((a ^^^ (Int32.ofInt (-1))) &&& (a - (nI 1))) (nI 16))) (nI 8))) (nI 16)) (cond (pm_cmp .le (cond (pm_cmp .le ((a ^^^ (Int32.ofInt (-1))) &&& (a - (nI 1))) (nI 65536)) ((a ^^^ (Int32.ofInt (-1))) &&& (a - (nI 1))) (ushr ((a ^^^ (Int32.ofInt (-1))) &&& (a - (nI 1))) (nI 16))) (nI 256)) (cond (pm_cmp .le ((a ^^^ (Int32.ofInt (-1))) &&& (a - (nI 1))) (nI 65536)) ((a ^^^ (Int32.ofInt (-1))) &&& (a - (nI 1))) (ushr ((a ^^^ (Int32.ofInt (-1))) &&& (a - (nI 1))) (nI 16))) (ushr (cond (pm_cmp .le ((a ^^^ (Int32.ofInt (-1))) &&& (a - (nI 1))) (nI 65536)) ((a ^^^ (Int32.ofInt (-1))) &&& (a - (nI 1))) (ushr ((a ^^^ (Int32.ofInt (-1))) &&& (a - (nI 1))) (nI 16))) (nI 8))) (ushr (cond (pm_cmp .le (cond (pm_cmp .le ((a ^^^ (Int32.ofInt (-1))) &&& (a - (nI 1))) (nI 65536)) ((a ^^^ (Int32.ofInt (-1))) &&& (a - (nI 1))) (ushr ((a ^^^ (Int32.ofInt (-1))) &&& (a - (nI 1))) (nI 16))) (nI 256)) (cond (pm_cmp .le ((a ^^^ (Int32.ofInt (-1))) &&& (a - (nI 1))) (nI 65536)) ((a ^^^ (Int32.ofInt (-1))) &&& (a - (nI 1))) (ushr ((a ^^^ (Int32.ofInt (-1))) &&& (a - (nI 1))) (nI 16))) (ushr (cond (pm_cmp .le ((a ^^^ (Int32.ofInt (-1))) &&& (a - (nI 1))) (nI 65536)) ((a ^^^ (Int32.ofInt (-1))) &&& (a - (nI 1))) (ushr ((a ^^^ (Int32.ofInt (-1))) &&& (a - (nI 1))) (nI 16))) (nI 8))) (nI 4))) (nI 4)) (cond (pm_cmp .le (cond (pm_cmp .le (cond (pm_cmp .le ((a ^^^ (Int32.ofInt (-1))) &&& (a - (nI 1))) (nI 65536)) ((a ^^^ (Int32.ofInt (-1))) &&& (a - (nI 1))) (ushr ((a ^^^ (Int32.ofInt (-1))) &&& (a - (nI 1))) (nI 16))) (nI 256)) (cond (pm_cmp .le ((a ^^^ (Int32.ofInt (-1))) &&& (a - (nI 1))) (nI 65536)) ((a ^^^ (Int32.ofInt (-1))) &&& (a - (nI 1))) (ushr ((a ^^^ (Int32.ofInt (-1))) &&& (a - (nI 1))) (nI 16))) (ushr (cond (pm_cmp .le ((a ^^^ (Int32.ofInt (-1))) &&& (a - (nI 1))) (nI 65536)) ((a ^^^ (Int32.ofInt (-1))) &&& (a - (nI 1))) (ushr ((a ^^^ (Int32.ofInt (-1))) &&& (a - (nI 1))) (nI 16))) (nI 8))) (nI 16)) (cond (pm_cmp .le (cond (pm_cmp .le ((a ^^^ (Int32.ofInt (-1))) &&& (a - (nI 1))) (nI 65536)) ((a ^^^ (Int32.ofInt (-1))) &&& (a - (nI 1))) (ushr ((a ^^^ (Int32.ofInt (-1))) &&& (a - (nI 1))) (nI 16))) (nI 256)) (cond (pm_cmp .le ((a ^^^ (Int32.ofInt (-1))) &&& (a - (nI 1))) (nI 65536)) ((a ^^^ (Int32.ofInt (-1))) &&& (a - (nI 1))) (ushr ((a ^^^ (Int32.ofInt (-1))) &&& (a - (nI 1))) (nI 16))) (ushr (cond (pm_cmp .le ((a ^^^ (Int32.ofInt (-1))) &&& (a - (nI 1))) (nI 65536)) ((a ^^^ (Int32.ofInt (-1))) &&& (a - (nI 1))) (ushr ((a ^^^ (Int32.ofInt (-1))) &&& (a - (nI 1))) (nI 16))) (nI 8))) (ushr (cond (pm_cmp .le (cond (pm_cmp .le ((a ^^^ (Int32.ofInt (-1))) &&& (a - (nI 1))) (nI 65536)) ((a ^^^ (Int32.ofInt (-1))) &&& (a - (nI 1))) (ushr ((a ^^^ (Int32.ofInt (-1))) &&& (a - (nI 1))) (nI 16))) (nI 256)) (cond (pm_cmp .le ((a ^^^ (Int32.ofInt (-1))) &&& (a - (nI 1))) (nI 65536)) ((a ^^^ (Int32.ofInt (-1))) &&& (a - (nI 1))) (ushr ((a ^^^ (Int32.ofInt (-1))) &&& (a - (nI 1))) (nI 16))) (ushr (cond (pm_cmp .le ((a ^^^ (Int32.ofInt (-1))) &&& (a - (nI 1))) (nI 65536)) ((a ^^^ (Int32.ofInt (-1))) &&& (a - (nI 1))) (ushr ((a ^^^ (Int32.ofInt (-1))) &&& (a - (nI 1))) (nI 16))) (nI 8))) (nI 4))) (ushr (cond (pm_cmp .le (cond (pm_cmp .le (cond (pm_cmp .le ((a ^^^ (Int32.ofInt (-1))) &&& (a - (nI 1))) (nI 65536)) ((a ^^^ (Int32.ofInt (-1))) &&& (a - (nI 1))) (ushr ((a ^^^ (Int32.ofInt (-1))) &&& (a - (nI 1))) (nI 16))) (nI 256)) (cond (pm_cmp .le ((a ^^^ (Int32.ofInt (-1))) &&& (a - (nI 1))) (nI 65536)) ((a ^^^ (Int32.ofInt (-1))) &&& (a - (nI 1))) (ushr ((a ^^^ (Int32.ofInt (-1))) &&& (a - (nI 1))) (nI 16))) (ushr (cond (pm_cmp .le ((a ^^^ (Int32.ofInt (-1))) &&& (a - (nI 1))) (nI 65536)) ((a ^^^ (Int32.ofInt (-1))) &&& (a - (nI 1))) (ushr ((a ^^^ (Int32.ofInt (-1))) &&& (a - (nI 1))) (nI 16))) (nI 8))) (nI 16)) (cond (pm_cmp .le (cond (pm_cmp .le ((a ^^^ (Int32.ofInt (-1))) &&& (a - (nI 1))) (nI 65536)) ((a ^^^ (Int32.ofInt (-1))) &&& (a - (nI 1))) (ushr ((a ^^^ (Int32.ofInt (-1))) &&& (a - (nI 1))) (nI 16))) (nI 256)) (cond (pm_cmp .le ((a ^^^ (Int32.ofInt (-1))) &&& (a - (nI 1))) (nI 65536)) ((a ^^^ (Int32.ofInt (-1))) &&& (a - (nI 1))) (ushr ((a ^^^ (Int32.ofInt (-1))) &&& (a - (nI 1))) (nI 16))) (ushr (cond (pm_cmp .le ((a ^^^ (Int32.ofInt (-1))) &&& (a - (nI 1))) (nI 65536)) ((a ^^^ (Int32.ofInt (-1))) &&& (a - (nI 1))) (ushr ((a ^^^ (Int32.ofInt (-1))) &&& (a - (nI 1))) (nI 16))) (nI 8))) (ushr (cond (pm_cmp .le (cond (pm_cmp .le ((a ^^^ (Int32.ofInt (-1))) &&& (a - (nI 1))) (nI 65536)) ((a ^^^ (Int32.ofInt (-1))) &&& (a - (nI 1))) (ushr ((a ^^^ (Int32.ofInt (-1))) &&& (a - (nI 1))) (nI 16))) (nI 256)) (cond (pm_cmp .le ((a ^^^ (Int32.ofInt (-1))) &&& (a - (nI 1))) (nI 65536)) ((a ^^^ (Int32.ofInt (-1))) &&& (a - (nI 1))) (ushr ((a ^^^ (Int32.ofInt (-1))) &&& (a - (nI 1))) (nI 16))) (ushr (cond (pm_cmp .le ((a ^^^ (Int32.ofInt (-1))) &&& (a - (nI 1))) (nI 65536)) ((a ^^^ (Int32.ofInt (-1))) &&& (a - (nI 1))) (ushr ((a ^^^ (Int32.ofInt (-1))) &&& (a - (nI 1))) (nI 16))) (nI 8))) (nI 4))) (nI 2))) (nI 1)) := (ct z1).trans rfl
    rw [ed]
    exact er10
  | false =>
    have hh := en_f z1 hh
    have hh : pm_run PT n fr lo 269 (12, [some (.int ((a ^^^ (Int32.ofInt (-1))) &&& (a - (nI 1)))), none], [], h, 198, sl) = some R := hh
    obtain ⟨n, hh⟩ := rn_i rfl rfl rfl rfl hh
    obtain ⟨n, hh⟩ := rn_i rfl rfl rfl rfl hh
    obtain ⟨n, hh⟩ := rn_i rfl rfl rfl rfl hh
    have hh : pm_run PT n fr lo 269 (16, [some (.int ((a ^^^ (Int32.ofInt (-1))) &&& (a - (nI 1)))), none], [.int (((a ^^^ (Int32.ofInt (-1))) &&& (a - (nI 1))) &&& (nI 32))], h, 198, sl) = some R := hh
    have er11 : R = (some (.int (((a ^^^ (Int32.ofInt (-1))) &&& (a - (nI 1))) &&& (nI 32))), h, 198, sl) := (rn_ret rfl (Or.inl rfl) hh).2
    have ed : v269 q cc gc a = ((a ^^^ (Int32.ofInt (-1))) &&& (a - (nI 1))) &&& (nI 32) := (cf z1).trans rfl
    rw [ed]
    exact er11
def v220 (q : QT) (cc gc : Nat) (h : pm_H) (a : Nat) (b : Nat) (m : Int32) : Int32 × pm_H := cond (pP cc (nI a) (nI b)) (cond (in_b ((m).toInt64) (-9 : Int64) (9 : Int64)) (cond (pm_cmp .ne m 0) ((upd (Ar h 170) (6 + 6 * a + b) (imax (nI 0) (imin (nI 20) (((Ar h 170) (6 + 6 * a + b)) + m)))) (6 + 6 * a + b), aset h 170 96 (upd (Ar h 170) (6 + 6 * a + b) (imax (nI 0) (imin (nI 20) (((Ar h 170) (6 + 6 * a + b)) + m))))) ((Int32.ofInt (-1)), h)) ((Int32.ofInt (-1)), h)) ((Int32.ofInt (-1)), h)
theorem v220_ok {n fr lo sl cc gc : Nat} {q : QT} {h : pm_H} {R : pm_Rs} {a : Nat} {b : Nat} {m : Int32} (hw : HC q cc gc h) (h_a : a < 10000) (h_b : b < 10000) (hh : pm_run PT n fr lo 220 (0, pm_l0 [.ref 162, .int (nI a), .int (nI b), .int m] 4, [], h, 198, sl) = some R) : R = (some (.int ((v220 q cc gc h a b m).1)), (v220 q cc gc h a b m).2, 198, sl) ∧ HC q cc gc ((v220 q cc gc h a b m).2) ∧ frm [170] [] h ((v220 q cc gc h a b m).2) := by
  have hcc := hw.cb
  have hgc := hw.gb
  have hzr := hw.zr
  obtain ⟨n, hh⟩ := rn_i rfl rfl rfl rfl hh
  obtain ⟨n, hh⟩ := rn_i rfl rfl rfl rfl hh
  obtain ⟨n, hh⟩ := rn_i rfl rfl rfl rfl hh
  have hh : pm_run PT n fr lo 220 (3, [some (.ref 162), some (.int (nI a)), some (.int (nI b)), some (.int m)], [.int (nI b), .int (nI a), .ref 162], h, 198, sl) = some R := hh
  obtain ⟨n, fr1, lo1, r1, hh1, hh⟩ := rn_call (w := 0) (t := 170) rfl rfl hh
  have er1 := ma_run hcc (hc_m3 hw) hh1
  subst er1
  have hh : pm_run PT n fr lo 220 (6, [some (.ref 162), some (.int (nI a)), some (.int (nI b)), some (.int m)], [.int (cond (pP cc (nI a) (nI b)) 1 0)], h, 198, sl) = some R := hh
  obtain ⟨n, hh⟩ := en_zn (cc := .eq) (off := 21) (t := 27) (b := !(pP cc (nI a) (nI b))) eb_eq rfl rfl hh
  cases z2 : pP cc (nI a) (nI b) with
  | true =>
    have hh := en_nt z2 hh
    have hh : pm_run PT n fr lo 220 (9, [some (.ref 162), some (.int (nI a)), some (.int (nI b)), some (.int m)], [], h, 198, sl) = some R := hh
    obtain ⟨n, hh⟩ := rn_i rfl rfl rfl rfl hh
    obtain ⟨n, hh⟩ := rn_i rfl rfl rfl rfl hh
    obtain ⟨n, hh⟩ := rn_i rfl rfl rfl rfl hh
    obtain ⟨n, hh⟩ := rn_i rfl rfl rfl rfl hh
    have hh : pm_run PT n fr lo 220 (17, [some (.ref 162), some (.int (nI a)), some (.int (nI b)), some (.int m)], [.long (9 : Int64), .long (-9 : Int64), .long ((m).toInt64)], h, 198, sl) = some R := hh
    obtain ⟨n, fr1, lo1, r1, hh1, hh⟩ := rn_call (w := 2) (t := 163) rfl rfl hh
    have er3 := rn_dt (F := 10) (Lo := 1000) (hd_in (fr := 10) (lo := 1000) (h := h) (sl := sl) ((m).toInt64) (-9 : Int64) (9 : Int64)) hh1
    subst er3
    have hh : pm_run PT n fr lo 220 (20, [some (.ref 162), some (.int (nI a)), some (.int (nI b)), some (.int m)], [.int (cond (in_b ((m).toInt64) (-9 : Int64) (9 : Int64)) 1 0)], h, 198, sl) = some R := hh
    obtain ⟨n, hh⟩ := en_zn (cc := .eq) (off := 7) (t := 27) (b := !(in_b ((m).toInt64) (-9 : Int64) (9 : Int64))) eb_eq rfl rfl hh
    cases z4 : in_b ((m).toInt64) (-9 : Int64) (9 : Int64) with
    | true =>
      have hh := en_nt z4 hh
      have hh : pm_run PT n fr lo 220 (23, [some (.ref 162), some (.int (nI a)), some (.int (nI b)), some (.int m)], [], h, 198, sl) = some R := hh
      obtain ⟨n, hh⟩ := rn_i rfl rfl rfl rfl hh
      have hh : pm_run PT n fr lo 220 (24, [some (.ref 162), some (.int (nI a)), some (.int (nI b)), some (.int m)], [.int m], h, 198, sl) = some R := hh
      obtain ⟨n, hh⟩ := en_zn (cc := .ne) (off := 5) (t := 29) (b := pm_cmp .ne m 0) rfl rfl rfl hh
      cases z5 : pm_cmp .ne m 0 with
      | true =>
        have hh := en_t z5 hh
        have hh : pm_run PT n fr lo 220 (29, [some (.ref 162), some (.int (nI a)), some (.int (nI b)), some (.int m)], [], h, 198, sl) = some R := hh
        obtain ⟨n, hh⟩ := rn_i rfl rfl rfl rfl hh
        have hh : pm_run PT n fr lo 220 (30, [some (.ref 162), some (.int (nI a)), some (.int (nI b)), some (.int m)], [.ref 162], h, 198, sl) = some R := hh
        obtain ⟨n, hh⟩ := rn_gr hw.wt rfl rfl (by decide) rfl (by decide) (show _ = some (2, ((170 : Nat) : Int), 1) from rfl) rfl hh
        obtain ⟨n, hh⟩ := rn_i rfl rfl rfl rfl hh
        obtain ⟨n, hh⟩ := rn_i rfl rfl rfl rfl hh
        obtain ⟨n, hh⟩ := rn_i rfl rfl rfl rfl hh
        have hh : pm_run PT n fr lo 220 (36, [some (.ref 162), some (.int (nI a)), some (.int (nI b)), some (.int m)], [.int m, .int (nI b), .int (nI a), .ref 170], h, 198, sl) = some R := hh
        obtain ⟨n, fr1, lo1, r1, hh1, hh⟩ := rn_call (w := 2) (t := 215) rfl rfl hh
        have hh1 : pm_run PT n fr1 lo1 215 (0, [some (.ref 170), some (.int (nI a)), some (.int (nI b)), some (.int m), none], [], h, 198, sl) = some r1 := hh1
        obtain ⟨n1, hh1⟩ := rn_i rfl rfl rfl rfl hh1
        obtain ⟨n1, hh1⟩ := rn_i rfl rfl rfl rfl hh1
        obtain ⟨n1, hh1⟩ := rn_i rfl rfl rfl rfl hh1
        have hh1 : pm_run PT n1 fr1 lo1 215 (5, [some (.ref 170), some (.int (nI a)), some (.int (nI b)), some (.int m), none], [.int (nI a), .int (nI 6), .int (nI 6)], h, 198, sl) = some r1 := hh1
        obtain ⟨n1, hh1⟩ := en_mul rfl hh1
        have hh1 : pm_run PT n1 fr1 lo1 215 (6, [some (.ref 170), some (.int (nI a)), some (.int (nI b)), some (.int m), none], [.int (nI (6 * a)), .int (nI 6)], h, 198, sl) = some r1 := hh1
        have hh1 : pm_run PT n1 fr1 lo1 215 (6, [some (.ref 170), some (.int (nI a)), some (.int (nI b)), some (.int m), none], [.int (nI (6 * a)), .int (nI 6)], h, 198, sl) = some r1 := hh1
        obtain ⟨n1, hh1⟩ := en_add rfl hh1
        have hh1 : pm_run PT n1 fr1 lo1 215 (7, [some (.ref 170), some (.int (nI a)), some (.int (nI b)), some (.int m), none], [.int (nI (6 + 6 * a))], h, 198, sl) = some r1 := hh1
        obtain ⟨n1, hh1⟩ := rn_i rfl rfl rfl rfl hh1
        have hh1 : pm_run PT n1 fr1 lo1 215 (8, [some (.ref 170), some (.int (nI a)), some (.int (nI b)), some (.int m), none], [.int (nI b), .int (nI (6 + 6 * a))], h, 198, sl) = some r1 := hh1
        obtain ⟨n1, hh1⟩ := en_add rfl hh1
        have hh1 : pm_run PT n1 fr1 lo1 215 (9, [some (.ref 170), some (.int (nI a)), some (.int (nI b)), some (.int m), none], [.int (nI (6 + 6 * a + b))], h, 198, sl) = some r1 := hh1
        obtain ⟨n1, hh1⟩ := rn_i rfl rfl rfl rfl hh1
        obtain ⟨n1, hh1⟩ := rn_i rfl rfl rfl rfl hh1
        obtain ⟨n1, hh1⟩ := rn_i rfl rfl rfl rfl hh1
        obtain ⟨n1, hh1⟩ := rn_i rfl rfl rfl rfl hh1
        obtain ⟨n1, hh1⟩ := rn_i rfl rfl rfl rfl hh1
        obtain ⟨n1, hh1⟩ := rn_i rfl rfl rfl rfl hh1
        obtain ⟨n1, hh1⟩ := rn_i rfl rfl rfl rfl hh1
        have hh1 : pm_run PT n1 fr1 lo1 215 (20, [some (.ref 170), some (.int (nI a)), some (.int (nI b)), some (.int m), some (.int (nI (6 + 6 * a + b)))], [.int (nI (6 + 6 * a + b)), .ref 170, .int (nI 20), .int (nI 0), .int (nI (6 + 6 * a + b)), .ref 170], h, 198, sl) = some r1 := hh1
        obtain ⟨n1, hx6, hh1⟩ := en_lu (t := 6 + 6 * a + b) (f := Ar h 170) (w := (Ar h 170) (6 + 6 * a + b)) (nI_clamp (by omega)) hw.wt rfl (by decide) rfl (by decide) rfl (fun _ => rfl) hh1
        obtain ⟨n1, hh1⟩ := rn_i rfl rfl rfl rfl hh1
        obtain ⟨n1, hh1⟩ := rn_i rfl rfl rfl rfl hh1
        have hh1 : pm_run PT n1 fr1 lo1 215 (23, [some (.ref 170), some (.int (nI a)), some (.int (nI b)), some (.int m), some (.int (nI (6 + 6 * a + b)))], [.int (((Ar h 170) (6 + 6 * a + b)) + m), .int (nI 20), .int (nI 0), .int (nI (6 + 6 * a + b)), .ref 170], h, 198, sl) = some r1 := hh1
        obtain ⟨n1, hh1⟩ := en_min rfl rfl rfl hh1
        have hh1 : pm_run PT n1 fr1 lo1 215 (26, [some (.ref 170), some (.int (nI a)), some (.int (nI b)), some (.int m), some (.int (nI (6 + 6 * a + b)))], [.int (imin (nI 20) (((Ar h 170) (6 + 6 * a + b)) + m)), .int (nI 0), .int (nI (6 + 6 * a + b)), .ref 170], h, 198, sl) = some r1 := hh1
        obtain ⟨n1, hh1⟩ := en_max rfl rfl rfl hh1
        have hh1 : pm_run PT n1 fr1 lo1 215 (29, [some (.ref 170), some (.int (nI a)), some (.int (nI b)), some (.int m), some (.int (nI (6 + 6 * a + b)))], [.int (imax (nI 0) (imin (nI 20) (((Ar h 170) (6 + 6 * a + b)) + m))), .int (nI (6 + 6 * a + b)), .ref 170], h, 198, sl) = some r1 := hh1
        obtain ⟨n1, hx7, hh1⟩ := en_st (t := 6 + 6 * a + b) (f := Ar h 170) (nI_clamp (by omega)) hw.wt rfl (by decide) rfl (by decide) rfl hh1
        obtain ⟨n1, hh1⟩ := rn_i rfl rfl rfl rfl hh1
        obtain ⟨n1, hh1⟩ := rn_i rfl rfl rfl rfl hh1
        have hh1 : pm_run PT n1 fr1 lo1 215 (33, [some (.ref 170), some (.int (nI a)), some (.int (nI b)), some (.int m), some (.int (nI (6 + 6 * a + b)))], [.int (nI (6 + 6 * a + b)), .ref 170], aset h 170 96 (upd (Ar h 170) (6 + 6 * a + b) (imax (nI 0) (imin (nI 20) (((Ar h 170) (6 + 6 * a + b)) + m)))), 198, sl) = some r1 := hh1
        obtain ⟨n1, hx8, hh1⟩ := en_lu (t := 6 + 6 * a + b) (f := upd (Ar h 170) (6 + 6 * a + b) (imax (nI 0) (imin (nI 20) (((Ar h 170) (6 + 6 * a + b)) + m)))) (w := (upd (Ar h 170) (6 + 6 * a + b) (imax (nI 0) (imin (nI 20) (((Ar h 170) (6 + 6 * a + b)) + m)))) (6 + 6 * a + b)) (nI_clamp (by omega)) (hc_a rfl rfl hw).wt rfl (by decide) rfl (by decide) Ar_s (fun _ => rfl) hh1
        have hh1 : pm_run PT n1 fr1 lo1 215 (34, [some (.ref 170), some (.int (nI a)), some (.int (nI b)), some (.int m), some (.int (nI (6 + 6 * a + b)))], [.int ((upd (Ar h 170) (6 + 6 * a + b) (imax (nI 0) (imin (nI 20) (((Ar h 170) (6 + 6 * a + b)) + m)))) (6 + 6 * a + b))], aset h 170 96 (upd (Ar h 170) (6 + 6 * a + b) (imax (nI 0) (imin (nI 20) (((Ar h 170) (6 + 6 * a + b)) + m)))), 198, sl) = some r1 := hh1
        have er9 : r1 = (some (.int ((upd (Ar h 170) (6 + 6 * a + b) (imax (nI 0) (imin (nI 20) (((Ar h 170) (6 + 6 * a + b)) + m)))) (6 + 6 * a + b))), aset h 170 96 (upd (Ar h 170) (6 + 6 * a + b) (imax (nI 0) (imin (nI 20) (((Ar h 170) (6 + 6 * a + b)) + m)))), 198, sl) := (rn_ret rfl (Or.inl rfl) hh1).2
        subst er9
        have hh : pm_run PT n fr lo 220 (39, [some (.ref 162), some (.int (nI a)), some (.int (nI b)), some (.int m)], [.int ((upd (Ar h 170) (6 + 6 * a + b) (imax (nI 0) (imin (nI 20) (((Ar h 170) (6 + 6 * a + b)) + m)))) (6 + 6 * a + b))], aset h 170 96 (upd (Ar h 170) (6 + 6 * a + b) (imax (nI 0) (imin (nI 20) (((Ar h 170) (6 + 6 * a + b)) + m)))), 198, sl) = some R := hh
        have er10 : R = (some (.int ((upd (Ar h 170) (6 + 6 * a + b) (imax (nI 0) (imin (nI 20) (((Ar h 170) (6 + 6 * a + b)) + m)))) (6 + 6 * a + b))), aset h 170 96 (upd (Ar h 170) (6 + 6 * a + b) (imax (nI 0) (imin (nI 20) (((Ar h 170) (6 + 6 * a + b)) + m)))), 198, sl) := (rn_ret rfl (Or.inl rfl) hh).2
        have ed : v220 q cc gc h a b m = ((upd (Ar h 170) (6 + 6 * a + b) (imax (nI 0) (imin (nI 20) (((Ar h 170) (6 + 6 * a + b)) + m)))) (6 + 6 * a + b), aset h 170 96 (upd (Ar h 170) (6 + 6 * a + b) (imax (nI 0) (imin (nI 20) (((Ar h 170) (6 + 6 * a + b)) + m))))) := (ct z2).trans ((ct z4).trans ((ct z5).trans rfl))
        refine ⟨?_, ?_, ?_⟩ <;> rw [ed]
        · exact er10
        · exact (hc_a rfl rfl hw)
        · exact (fr_a rfl rfl fr_0)
      | false =>
        have hh := en_f z5 hh
        have hh : pm_run PT n fr lo 220 (27, [some (.ref 162), some (.int (nI a)), some (.int (nI b)), some (.int m)], [], h, 198, sl) = some R := hh
        obtain ⟨n, hh⟩ := rn_i rfl rfl rfl rfl hh
        have hh : pm_run PT n fr lo 220 (28, [some (.ref 162), some (.int (nI a)), some (.int (nI b)), some (.int m)], [.int (Int32.ofInt (-1))], h, 198, sl) = some R := hh
        have er11 : R = (some (.int (Int32.ofInt (-1))), h, 198, sl) := (rn_ret rfl (Or.inl rfl) hh).2
        have ed : v220 q cc gc h a b m = ((Int32.ofInt (-1)), h) := (ct z2).trans ((ct z4).trans ((cf z5).trans rfl))
        refine ⟨?_, ?_, ?_⟩ <;> rw [ed]
        · exact er11
        · exact hw
        · exact fr_0
    | false =>
      have hh := en_nf z4 hh
      have hh : pm_run PT n fr lo 220 (27, [some (.ref 162), some (.int (nI a)), some (.int (nI b)), some (.int m)], [], h, 198, sl) = some R := hh
      obtain ⟨n, hh⟩ := rn_i rfl rfl rfl rfl hh
      have hh : pm_run PT n fr lo 220 (28, [some (.ref 162), some (.int (nI a)), some (.int (nI b)), some (.int m)], [.int (Int32.ofInt (-1))], h, 198, sl) = some R := hh
      have er12 : R = (some (.int (Int32.ofInt (-1))), h, 198, sl) := (rn_ret rfl (Or.inl rfl) hh).2
      have ed : v220 q cc gc h a b m = ((Int32.ofInt (-1)), h) := (ct z2).trans ((cf z4).trans rfl)
      refine ⟨?_, ?_, ?_⟩ <;> rw [ed]
      · exact er12
      · exact hw
      · exact fr_0
  | false =>
    have hh := en_nf z2 hh
    have hh : pm_run PT n fr lo 220 (27, [some (.ref 162), some (.int (nI a)), some (.int (nI b)), some (.int m)], [], h, 198, sl) = some R := hh
    obtain ⟨n, hh⟩ := rn_i rfl rfl rfl rfl hh
    have hh : pm_run PT n fr lo 220 (28, [some (.ref 162), some (.int (nI a)), some (.int (nI b)), some (.int m)], [.int (Int32.ofInt (-1))], h, 198, sl) = some R := hh
    have er13 : R = (some (.int (Int32.ofInt (-1))), h, 198, sl) := (rn_ret rfl (Or.inl rfl) hh).2
    have ed : v220 q cc gc h a b m = ((Int32.ofInt (-1)), h) := (cf z2).trans rfl
    refine ⟨?_, ?_, ?_⟩ <;> rw [ed]
    · exact er13
    · exact hw
    · exact fr_0
theorem v220_fr {cc gc : Nat} {q : QT} {h : pm_H} {a : Nat} {b : Nat} {m : Int32} (hw : HC q cc gc h) : HC q cc gc ((v220 q cc gc h a b m).2) ∧ frm [170] [] h ((v220 q cc gc h a b m).2) := by
  unfold v220
  refine cd_s (P := fun (p : Int32 × pm_H) => HC q cc gc ((p).2) ∧ frm [170] [] h ((p).2)) (b := pP cc (nI a) (nI b)) (fun _ => ?_) (fun _ => ?_)
  · refine cd_s (P := fun (p : Int32 × pm_H) => HC q cc gc ((p).2) ∧ frm [170] [] h ((p).2)) (b := in_b ((m).toInt64) (-9 : Int64) (9 : Int64)) (fun _ => ?_) (fun _ => ?_)
    · refine cd_s (P := fun (p : Int32 × pm_H) => HC q cc gc ((p).2) ∧ frm [170] [] h ((p).2)) (b := pm_cmp .ne m 0) (fun _ => ?_) (fun _ => ?_)
      · show HC q cc gc (aset h 170 96 (upd (Ar h 170) (6 + 6 * a + b) (imax (nI 0) (imin (nI 20) (((Ar h 170) (6 + 6 * a + b)) + m))))) ∧ frm [170] [] h (aset h 170 96 (upd (Ar h 170) (6 + 6 * a + b) (imax (nI 0) (imin (nI 20) (((Ar h 170) (6 + 6 * a + b)) + m)))))
        exact ⟨(hc_a rfl rfl hw), (fr_a rfl rfl fr_0)⟩
      · show HC q cc gc (h) ∧ frm [170] [] h (h)
        exact ⟨hw, fr_0⟩
    · show HC q cc gc (h) ∧ frm [170] [] h (h)
      exact ⟨hw, fr_0⟩
  · show HC q cc gc (h) ∧ frm [170] [] h (h)
    exact ⟨hw, fr_0⟩
def v221 (q : QT) (cc gc : Nat) (h : pm_H) (a : Nat) (b : Nat) : Int32 × pm_H := cond (pP cc (nI a) (nI b)) (cond (pm_cmp .ne ((Ar h 170) (42 + 6 * a + b)) 0) ((Ar h 170) (42 + 6 * a + b)) (Int32.ofInt (-2)), aset h 170 96 (upd (Ar h 170) (42 + 6 * a + b) (nI 0))) ((Int32.ofInt (-1)), h)
theorem v221_ok {n fr lo sl cc gc : Nat} {q : QT} {h : pm_H} {R : pm_Rs} {a : Nat} {b : Nat} (hw : HC q cc gc h) (h_a : a < 10000) (h_b : b < 10000) (hh : pm_run PT n fr lo 221 (0, pm_l0 [.ref 162, .int (nI a), .int (nI b)] 5, [], h, 198, sl) = some R) : R = (some (.int ((v221 q cc gc h a b).1)), (v221 q cc gc h a b).2, 198, sl) ∧ HC q cc gc ((v221 q cc gc h a b).2) ∧ frm [170] [] h ((v221 q cc gc h a b).2) := by
  have hcc := hw.cb
  have hgc := hw.gb
  have hzr := hw.zr
  obtain ⟨n, hh⟩ := rn_i rfl rfl rfl rfl hh
  obtain ⟨n, hh⟩ := rn_i rfl rfl rfl rfl hh
  obtain ⟨n, hh⟩ := rn_i rfl rfl rfl rfl hh
  have hh : pm_run PT n fr lo 221 (3, [some (.ref 162), some (.int (nI a)), some (.int (nI b)), none, none], [.int (nI b), .int (nI a), .ref 162], h, 198, sl) = some R := hh
  obtain ⟨n, fr1, lo1, r1, hh1, hh⟩ := rn_call (w := 0) (t := 170) rfl rfl hh
  have er1 := ma_run hcc (hc_m3 hw) hh1
  subst er1
  have hh : pm_run PT n fr lo 221 (6, [some (.ref 162), some (.int (nI a)), some (.int (nI b)), none, none], [.int (cond (pP cc (nI a) (nI b)) 1 0)], h, 198, sl) = some R := hh
  obtain ⟨n, hh⟩ := en_zn (cc := .ne) (off := 5) (t := 11) (b := pP cc (nI a) (nI b)) eb_ne rfl rfl hh
  cases z2 : pP cc (nI a) (nI b) with
  | true =>
    have hh := en_t z2 hh
    have hh : pm_run PT n fr lo 221 (11, [some (.ref 162), some (.int (nI a)), some (.int (nI b)), none, none], [], h, 198, sl) = some R := hh
    obtain ⟨n, hh⟩ := rn_i rfl rfl rfl rfl hh
    obtain ⟨n, hh⟩ := rn_i rfl rfl rfl rfl hh
    obtain ⟨n, hh⟩ := rn_i rfl rfl rfl rfl hh
    have hh : pm_run PT n fr lo 221 (16, [some (.ref 162), some (.int (nI a)), some (.int (nI b)), none, none], [.int (nI a), .int (nI 6), .int (nI 42)], h, 198, sl) = some R := hh
    obtain ⟨n, hh⟩ := en_mul rfl hh
    have hh : pm_run PT n fr lo 221 (17, [some (.ref 162), some (.int (nI a)), some (.int (nI b)), none, none], [.int (nI (6 * a)), .int (nI 42)], h, 198, sl) = some R := hh
    have hh : pm_run PT n fr lo 221 (17, [some (.ref 162), some (.int (nI a)), some (.int (nI b)), none, none], [.int (nI (6 * a)), .int (nI 42)], h, 198, sl) = some R := hh
    obtain ⟨n, hh⟩ := en_add rfl hh
    have hh : pm_run PT n fr lo 221 (18, [some (.ref 162), some (.int (nI a)), some (.int (nI b)), none, none], [.int (nI (42 + 6 * a))], h, 198, sl) = some R := hh
    obtain ⟨n, hh⟩ := rn_i rfl rfl rfl rfl hh
    have hh : pm_run PT n fr lo 221 (19, [some (.ref 162), some (.int (nI a)), some (.int (nI b)), none, none], [.int (nI b), .int (nI (42 + 6 * a))], h, 198, sl) = some R := hh
    obtain ⟨n, hh⟩ := en_add rfl hh
    have hh : pm_run PT n fr lo 221 (20, [some (.ref 162), some (.int (nI a)), some (.int (nI b)), none, none], [.int (nI (42 + 6 * a + b))], h, 198, sl) = some R := hh
    obtain ⟨n, hh⟩ := rn_i rfl rfl rfl rfl hh
    obtain ⟨n, hh⟩ := rn_i rfl rfl rfl rfl hh
    have hh : pm_run PT n fr lo 221 (22, [some (.ref 162), some (.int (nI a)), some (.int (nI b)), some (.int (nI (42 + 6 * a + b))), none], [.ref 162], h, 198, sl) = some R := hh
    obtain ⟨n, hh⟩ := rn_gr hw.wt rfl rfl (by decide) rfl (by decide) (show _ = some (2, ((170 : Nat) : Int), 1) from rfl) rfl hh
    obtain ⟨n, hh⟩ := rn_i rfl rfl rfl rfl hh
    have hh : pm_run PT n fr lo 221 (26, [some (.ref 162), some (.int (nI a)), some (.int (nI b)), some (.int (nI (42 + 6 * a + b))), none], [.int (nI (42 + 6 * a + b)), .ref 170], h, 198, sl) = some R := hh
    obtain ⟨n, hx3, hh⟩ := en_lu (t := 42 + 6 * a + b) (f := Ar h 170) (w := (Ar h 170) (42 + 6 * a + b)) (nI_clamp (by omega)) hw.wt rfl (by decide) rfl (by decide) rfl (fun _ => rfl) hh
    obtain ⟨n, hh⟩ := rn_i rfl rfl rfl rfl hh
    obtain ⟨n, hh⟩ := rn_i rfl rfl rfl rfl hh
    have hh : pm_run PT n fr lo 221 (30, [some (.ref 162), some (.int (nI a)), some (.int (nI b)), some (.int (nI (42 + 6 * a + b))), some (.int ((Ar h 170) (42 + 6 * a + b)))], [.ref 162], h, 198, sl) = some R := hh
    obtain ⟨n, hh⟩ := rn_gr hw.wt rfl rfl (by decide) rfl (by decide) (show _ = some (2, ((170 : Nat) : Int), 1) from rfl) rfl hh
    obtain ⟨n, hh⟩ := rn_i rfl rfl rfl rfl hh
    obtain ⟨n, hh⟩ := rn_i rfl rfl rfl rfl hh
    have hh : pm_run PT n fr lo 221 (35, [some (.ref 162), some (.int (nI a)), some (.int (nI b)), some (.int (nI (42 + 6 * a + b))), some (.int ((Ar h 170) (42 + 6 * a + b)))], [.int (nI 0), .int (nI (42 + 6 * a + b)), .ref 170], h, 198, sl) = some R := hh
    obtain ⟨n, hx4, hh⟩ := en_st (t := 42 + 6 * a + b) (f := Ar h 170) (nI_clamp (by omega)) hw.wt rfl (by decide) rfl (by decide) rfl hh
    obtain ⟨n, hh⟩ := rn_i rfl rfl rfl rfl hh
    have hh : pm_run PT n fr lo 221 (38, [some (.ref 162), some (.int (nI a)), some (.int (nI b)), some (.int (nI (42 + 6 * a + b))), some (.int ((Ar h 170) (42 + 6 * a + b)))], [.int ((Ar h 170) (42 + 6 * a + b))], aset h 170 96 (upd (Ar h 170) (42 + 6 * a + b) (nI 0)), 198, sl) = some R := hh
    obtain ⟨n, hh⟩ := en_zn (cc := .ne) (off := 8) (t := 46) (b := pm_cmp .ne ((Ar h 170) (42 + 6 * a + b)) 0) rfl rfl rfl hh
    have hj6 : ∃ mJ, pm_run PT mJ fr lo 221 (cond (pm_cmp .ne ((Ar h 170) (42 + 6 * a + b)) 0) (48, [some (.ref 162), some (.int (nI a)), some (.int (nI b)), some (.int (nI (42 + 6 * a + b))), some (.int ((Ar h 170) (42 + 6 * a + b)))], [.int ((Ar h 170) (42 + 6 * a + b))], aset h 170 96 (upd (Ar h 170) (42 + 6 * a + b) (nI 0)), 198, sl) (48, [some (.ref 162), some (.int (nI a)), some (.int (nI b)), some (.int (nI (42 + 6 * a + b))), some (.int ((Ar h 170) (42 + 6 * a + b)))], [.int (Int32.ofInt (-2))], aset h 170 96 (upd (Ar h 170) (42 + 6 * a + b) (nI 0)), 198, sl)) = some R := en_J (fun z5 => by
        have hh := en_t z5 hh
        have hh : pm_run PT n fr lo 221 (46, [some (.ref 162), some (.int (nI a)), some (.int (nI b)), some (.int (nI (42 + 6 * a + b))), some (.int ((Ar h 170) (42 + 6 * a + b)))], [], aset h 170 96 (upd (Ar h 170) (42 + 6 * a + b) (nI 0)), 198, sl) = some R := hh
        obtain ⟨n, hh⟩ := rn_i rfl rfl rfl rfl hh
        exact ⟨n, hh⟩) (fun z5 => by
        have hh := en_f z5 hh
        have hh : pm_run PT n fr lo 221 (41, [some (.ref 162), some (.int (nI a)), some (.int (nI b)), some (.int (nI (42 + 6 * a + b))), some (.int ((Ar h 170) (42 + 6 * a + b)))], [], aset h 170 96 (upd (Ar h 170) (42 + 6 * a + b) (nI 0)), 198, sl) = some R := hh
        obtain ⟨n, hh⟩ := rn_i rfl rfl rfl rfl hh
        obtain ⟨n, hh⟩ := rn_i rfl rfl rfl rfl hh
        exact ⟨n, hh⟩)
    obtain ⟨n, hh⟩ := hj6
    rw [show (cond (pm_cmp .ne ((Ar h 170) (42 + 6 * a + b)) 0) (48, [some (.ref 162), some (.int (nI a)), some (.int (nI b)), some (.int (nI (42 + 6 * a + b))), some (.int ((Ar h 170) (42 + 6 * a + b)))], [.int ((Ar h 170) (42 + 6 * a + b))], aset h 170 96 (upd (Ar h 170) (42 + 6 * a + b) (nI 0)), 198, sl) (48, [some (.ref 162), some (.int (nI a)), some (.int (nI b)), some (.int (nI (42 + 6 * a + b))), some (.int ((Ar h 170) (42 + 6 * a + b)))], [.int (Int32.ofInt (-2))], aset h 170 96 (upd (Ar h 170) (42 + 6 * a + b) (nI 0)), 198, sl) : pm_St) = (48, [some (.ref 162), some (.int (nI a)), some (.int (nI b)), some (.int (nI (42 + 6 * a + b))), some (.int ((Ar h 170) (42 + 6 * a + b)))], [.int (cond (pm_cmp .ne ((Ar h 170) (42 + 6 * a + b)) 0) ((Ar h 170) (42 + 6 * a + b)) (Int32.ofInt (-2)))], aset h 170 96 (upd (Ar h 170) (42 + 6 * a + b) (nI 0)), 198, sl) from by cases (pm_cmp .ne ((Ar h 170) (42 + 6 * a + b)) 0) <;> rfl] at hh
    have hh : pm_run PT n fr lo 221 (48, [some (.ref 162), some (.int (nI a)), some (.int (nI b)), some (.int (nI (42 + 6 * a + b))), some (.int ((Ar h 170) (42 + 6 * a + b)))], [.int (cond (pm_cmp .ne ((Ar h 170) (42 + 6 * a + b)) 0) ((Ar h 170) (42 + 6 * a + b)) (Int32.ofInt (-2)))], aset h 170 96 (upd (Ar h 170) (42 + 6 * a + b) (nI 0)), 198, sl) = some R := hh
    have er7 : R = (some (.int (cond (pm_cmp .ne ((Ar h 170) (42 + 6 * a + b)) 0) ((Ar h 170) (42 + 6 * a + b)) (Int32.ofInt (-2)))), aset h 170 96 (upd (Ar h 170) (42 + 6 * a + b) (nI 0)), 198, sl) := (rn_ret rfl (Or.inl rfl) hh).2
    have ed : v221 q cc gc h a b = (cond (pm_cmp .ne ((Ar h 170) (42 + 6 * a + b)) 0) ((Ar h 170) (42 + 6 * a + b)) (Int32.ofInt (-2)), aset h 170 96 (upd (Ar h 170) (42 + 6 * a + b) (nI 0))) := (ct z2).trans rfl
    refine ⟨?_, ?_, ?_⟩ <;> rw [ed]
    · exact er7
    · exact (hc_a rfl rfl hw)
    · exact (fr_a rfl rfl fr_0)
  | false =>
    have hh := en_f z2 hh
    have hh : pm_run PT n fr lo 221 (9, [some (.ref 162), some (.int (nI a)), some (.int (nI b)), none, none], [], h, 198, sl) = some R := hh
    obtain ⟨n, hh⟩ := rn_i rfl rfl rfl rfl hh
    have hh : pm_run PT n fr lo 221 (10, [some (.ref 162), some (.int (nI a)), some (.int (nI b)), none, none], [.int (Int32.ofInt (-1))], h, 198, sl) = some R := hh
    have er8 : R = (some (.int (Int32.ofInt (-1))), h, 198, sl) := (rn_ret rfl (Or.inl rfl) hh).2
    have ed : v221 q cc gc h a b = ((Int32.ofInt (-1)), h) := (cf z2).trans rfl
    refine ⟨?_, ?_, ?_⟩ <;> rw [ed]
    · exact er8
    · exact hw
    · exact fr_0
theorem v221_fr {cc gc : Nat} {q : QT} {h : pm_H} {a : Nat} {b : Nat} (hw : HC q cc gc h) : HC q cc gc ((v221 q cc gc h a b).2) ∧ frm [170] [] h ((v221 q cc gc h a b).2) := by
  unfold v221
  refine cd_s (P := fun (p : Int32 × pm_H) => HC q cc gc ((p).2) ∧ frm [170] [] h ((p).2)) (b := pP cc (nI a) (nI b)) (fun _ => ?_) (fun _ => ?_)
  · show HC q cc gc (aset h 170 96 (upd (Ar h 170) (42 + 6 * a + b) (nI 0))) ∧ frm [170] [] h (aset h 170 96 (upd (Ar h 170) (42 + 6 * a + b) (nI 0)))
    exact ⟨(hc_a rfl rfl hw), (fr_a rfl rfl fr_0)⟩
  · show HC q cc gc (h) ∧ frm [170] [] h (h)
    exact ⟨hw, fr_0⟩
def v213 (q : QT) (cc gc : Nat) (h : pm_H) (u : Nat) (v : Int32) : Int32 × pm_H := cond (pm_cmp .ge v 0) ((v212 q cc gc h u v).1, (v212 q cc gc h u v).2) (v, h)
theorem v213_ok {n fr lo sl cc gc : Nat} {q : QT} {h : pm_H} {R : pm_Rs} {u : Nat} {v : Int32} (hw : HC q cc gc h) (hu : u ≤ 15) (e1 : Fi h 162 27 = nI u) (hh : pm_run PT n fr lo 213 (0, pm_l0 [.ref 162, .int v] 2, [], h, 198, sl) = some R) : R = (some (.int ((v213 q cc gc h u v).1)), (v213 q cc gc h u v).2, 198, sl) ∧ HC q cc gc ((v213 q cc gc h u v).2) ∧ frm [162, 178] [(162, 27)] h ((v213 q cc gc h u v).2) := by
  have hcc := hw.cb
  have hgc := hw.gb
  have hzr := hw.zr
  obtain ⟨n, hh⟩ := rn_i rfl rfl rfl rfl hh
  have hh : pm_run PT n fr lo 213 (1, [some (.ref 162), some (.int v)], [.int v], h, 198, sl) = some R := hh
  obtain ⟨n, hh⟩ := en_zn (cc := .ge) (off := 7) (t := 8) (b := pm_cmp .ge v 0) rfl rfl rfl hh
  cases z1 : pm_cmp .ge v 0 with
  | true =>
    have hh := en_t z1 hh
    have hh : pm_run PT n fr lo 213 (8, [some (.ref 162), some (.int v)], [], h, 198, sl) = some R := hh
    obtain ⟨n, hh⟩ := rn_i rfl rfl rfl rfl hh
    obtain ⟨n, hh⟩ := rn_i rfl rfl rfl rfl hh
    have hh : pm_run PT n fr lo 213 (10, [some (.ref 162), some (.int v)], [.int v, .ref 162], h, 198, sl) = some R := hh
    obtain ⟨n, fr1, lo1, r1, hh1, hh⟩ := rn_call (w := 0) (t := 212) rfl rfl hh
    obtain ⟨er2, hc3, hf4⟩ := v212_ok (u := u) (v := v) hw hu e1 hh1
    subst er2
    have hh : pm_run PT n fr lo 213 (13, [some (.ref 162), some (.int v)], [.int ((v212 q cc gc h u v).1)], (v212 q cc gc h u v).2, 198, sl) = some R := hh
    have er5 : R = (some (.int ((v212 q cc gc h u v).1)), (v212 q cc gc h u v).2, 198, sl) := (rn_ret rfl (Or.inl rfl) hh).2
    have ed : v213 q cc gc h u v = ((v212 q cc gc h u v).1, (v212 q cc gc h u v).2) := (ct z1).trans rfl
    refine ⟨?_, ?_, ?_⟩ <;> rw [ed]
    · exact er5
    · exact hc3
    · exact (fr_g rfl rfl hf4 fr_0)
  | false =>
    have hh := en_f z1 hh
    have hh : pm_run PT n fr lo 213 (4, [some (.ref 162), some (.int v)], [], h, 198, sl) = some R := hh
    obtain ⟨n, hh⟩ := rn_i rfl rfl rfl rfl hh
    obtain ⟨n, hh⟩ := rn_i rfl rfl rfl rfl hh
    have hh : pm_run PT n fr lo 213 (13, [some (.ref 162), some (.int v)], [.int v], h, 198, sl) = some R := hh
    have er6 : R = (some (.int v), h, 198, sl) := (rn_ret rfl (Or.inl rfl) hh).2
    have ed : v213 q cc gc h u v = (v, h) := (cf z1).trans rfl
    refine ⟨?_, ?_, ?_⟩ <;> rw [ed]
    · exact er6
    · exact hw
    · exact fr_0
theorem v213_fr {cc gc : Nat} {q : QT} {h : pm_H} {u : Nat} {v : Int32} (hw : HC q cc gc h) (hu : u ≤ 15) : HC q cc gc ((v213 q cc gc h u v).2) ∧ frm [162, 178] [(162, 27)] h ((v213 q cc gc h u v).2) := by
  unfold v213
  refine cd_s (P := fun (p : Int32 × pm_H) => HC q cc gc ((p).2) ∧ frm [162, 178] [(162, 27)] h ((p).2)) (b := pm_cmp .ge v 0) (fun _ => ?_) (fun _ => ?_)
  · show HC q cc gc ((v212 q cc gc h u v).2) ∧ frm [162, 178] [(162, 27)] h ((v212 q cc gc h u v).2)
    exact ⟨(v212_fr (u := u) (v := v) hw hu).1, (fr_g rfl rfl (v212_fr (u := u) (v := v) hw hu).2 fr_0)⟩
  · show HC q cc gc (h) ∧ frm [162, 178] [(162, 27)] h (h)
    exact ⟨hw, fr_0⟩
def v222 (q : QT) (cc gc : Nat) (h : pm_H) (u : Nat) (g : Nat) (c : Nat) : Int32 × pm_H := cond (pm_cmp .lt ((v213 q cc gc ((v217 q cc gc (v211 q cc gc (fset h 162 0 (.int (nI 0))) u) g c).2) u ((v217 q cc gc (v211 q cc gc (fset h 162 0 (.int (nI 0))) u) g c).1)).1) 0) ((v213 q cc gc ((v217 q cc gc (v211 q cc gc (fset h 162 0 (.int (nI 0))) u) g c).2) u ((v217 q cc gc (v211 q cc gc (fset h 162 0 (.int (nI 0))) u) g c).1)).1, (v213 q cc gc ((v217 q cc gc (v211 q cc gc (fset h 162 0 (.int (nI 0))) u) g c).2) u ((v217 q cc gc (v211 q cc gc (fset h 162 0 (.int (nI 0))) u) g c).1)).2) ((v213 q cc gc ((v217 q cc gc (v211 q cc gc (fset h 162 0 (.int (nI 0))) u) g c).2) u ((v217 q cc gc (v211 q cc gc (fset h 162 0 (.int (nI 0))) u) g c).1)).1, v167 q cc gc (v167 q cc gc (fset ((v213 q cc gc ((v217 q cc gc (v211 q cc gc (fset h 162 0 (.int (nI 0))) u) g c).2) u ((v217 q cc gc (v211 q cc gc (fset h 162 0 (.int (nI 0))) u) g c).1)).2) 162 1 (.int (nI 0))) ((Fi ((v217 q cc gc (v211 q cc gc (fset h 162 0 (.int (nI 0))) u) g c).2) 162 29).toInt64)) ((Fi ((v217 q cc gc (v211 q cc gc (fset h 162 0 (.int (nI 0))) u) g c).2) 162 30).toInt64))
theorem v222_ok {n fr lo sl cc gc : Nat} {q : QT} {h : pm_H} {R : pm_Rs} {u : Nat} {g : Nat} {c : Nat} (hw : HC q cc gc h) (h_g : g < 10000) (h_c : c < 10000) (hu : u ≤ 15) (e1 : Fi h 162 27 = nI u) (hol : NA h 170 78 86 6) (hh : pm_run PT n fr lo 222 (0, pm_l0 [.ref 162, .int (nI g), .int (nI c)] 4, [], h, 198, sl) = some R) : R = (some (.int ((v222 q cc gc h u g c).1)), (v222 q cc gc h u g c).2, 198, sl) ∧ HC q cc gc ((v222 q cc gc h u g c).2) ∧ frm [162, 163, 170, 176, 177, 178] [(162, 0), (162, 1), (162, 27), (162, 29), (162, 30)] h ((v222 q cc gc h u g c).2) := by
  have hcc := hw.cb
  have hgc := hw.gb
  have hzr := hw.zr
  obtain ⟨n, hh⟩ := rn_i rfl rfl rfl rfl hh
  obtain ⟨n, hh⟩ := rn_i rfl rfl rfl rfl hh
  have hh : pm_run PT n fr lo 222 (2, [some (.ref 162), some (.int (nI g)), some (.int (nI c)), none], [.int (nI 0), .ref 162], h, 198, sl) = some R := hh
  obtain ⟨n, hh⟩ := rn_pi hw.wt rfl rfl (by decide) rfl (by decide) rfl hh
  obtain ⟨n, hh⟩ := rn_i rfl rfl rfl rfl hh
  have hh : pm_run PT n fr lo 222 (6, [some (.ref 162), some (.int (nI g)), some (.int (nI c)), none], [.ref 162], fset h 162 0 (.int (nI 0)), 198, sl) = some R := hh
  obtain ⟨n, fr1, lo1, r1, hh1, hh⟩ := rn_call (w := 0) (t := 211) rfl rfl hh
  obtain ⟨er1, hc2, hf3⟩ := v211_ok (u := u) (hc_f rfl rfl (by decide) rfl hw) hu ((Fi_n (Or.inr (by decide))).trans e1) hh1
  subst er1
  obtain ⟨n, hh⟩ := rn_i rfl rfl rfl rfl hh
  obtain ⟨n, hh⟩ := rn_i rfl rfl rfl rfl hh
  obtain ⟨n, hh⟩ := rn_i rfl rfl rfl rfl hh
  have hh : pm_run PT n fr lo 222 (12, [some (.ref 162), some (.int (nI g)), some (.int (nI c)), none], [.ref 162, .ref 162, .ref 162], v211 q cc gc (fset h 162 0 (.int (nI 0))) u, 198, sl) = some R := hh
  obtain ⟨n, hh⟩ := rn_gr hc2.wt rfl rfl (by decide) rfl (by decide) (show _ = some (2, ((170 : Nat) : Int), 1) from rfl) rfl hh
  obtain ⟨n, hh⟩ := rn_i rfl rfl rfl rfl hh
  obtain ⟨n, hh⟩ := rn_i rfl rfl rfl rfl hh
  have hh : pm_run PT n fr lo 222 (17, [some (.ref 162), some (.int (nI g)), some (.int (nI c)), none], [.int (nI c), .int (nI g), .ref 170, .ref 162, .ref 162], v211 q cc gc (fset h 162 0 (.int (nI 0))) u, 198, sl) = some R := hh
  obtain ⟨n, fr1, lo1, r1, hh1, hh⟩ := rn_call (w := 0) (t := 217) rfl rfl hh
  obtain ⟨er4, hc5, hf6⟩ := v217_ok (g := g) (c := c) hc2 (by omega) (by omega) (NA_e ((Ar_e (hf3.1 170 rfl)).trans (Ar_f.trans rfl)) hol) hh1
  subst er4
  have hh : pm_run PT n fr lo 222 (20, [some (.ref 162), some (.int (nI g)), some (.int (nI c)), none], [.int ((v217 q cc gc (v211 q cc gc (fset h 162 0 (.int (nI 0))) u) g c).1), .ref 162], (v217 q cc gc (v211 q cc gc (fset h 162 0 (.int (nI 0))) u) g c).2, 198, sl) = some R := hh
  obtain ⟨n, fr1, lo1, r1, hh1, hh⟩ := rn_call (w := 0) (t := 213) rfl rfl hh
  obtain ⟨er7, hc8, hf9⟩ := v213_ok (u := u) (v := ((v217 q cc gc (v211 q cc gc (fset h 162 0 (.int (nI 0))) u) g c).1)) hc5 hu ((hf6.2 162 27 (by decide +kernel) rfl).trans ((hf3.2 162 27 (by decide +kernel) rfl).trans ((Fi_n (Or.inr (by decide))).trans e1))) hh1
  subst er7
  obtain ⟨n, hh⟩ := rn_i rfl rfl rfl rfl hh
  obtain ⟨n, hh⟩ := rn_i rfl rfl rfl rfl hh
  have hh : pm_run PT n fr lo 222 (25, [some (.ref 162), some (.int (nI g)), some (.int (nI c)), some (.int ((v213 q cc gc ((v217 q cc gc (v211 q cc gc (fset h 162 0 (.int (nI 0))) u) g c).2) u ((v217 q cc gc (v211 q cc gc (fset h 162 0 (.int (nI 0))) u) g c).1)).1))], [.int ((v213 q cc gc ((v217 q cc gc (v211 q cc gc (fset h 162 0 (.int (nI 0))) u) g c).2) u ((v217 q cc gc (v211 q cc gc (fset h 162 0 (.int (nI 0))) u) g c).1)).1)], (v213 q cc gc ((v217 q cc gc (v211 q cc gc (fset h 162 0 (.int (nI 0))) u) g c).2) u ((v217 q cc gc (v211 q cc gc (fset h 162 0 (.int (nI 0))) u) g c).1)).2, 198, sl) = some R := hh
  obtain ⟨n, hh⟩ := en_zn (cc := .lt) (off := 26) (t := 51) (b := pm_cmp .lt ((v213 q cc gc ((v217 q cc gc (v211 q cc gc (fset h 162 0 (.int (nI 0))) u) g c).2) u ((v217 q cc gc (v211 q cc gc (fset h 162 0 (.int (nI 0))) u) g c).1)).1) 0) rfl rfl rfl hh
  cases z10 : pm_cmp .lt ((v213 q cc gc ((v217 q cc gc (v211 q cc gc (fset h 162 0 (.int (nI 0))) u) g c).2) u ((v217 q cc gc (v211 q cc gc (fset h 162 0 (.int (nI 0))) u) g c).1)).1) 0 with
  | true =>
    have hh := en_t z10 hh
    have hh : pm_run PT n fr lo 222 (51, [some (.ref 162), some (.int (nI g)), some (.int (nI c)), some (.int ((v213 q cc gc ((v217 q cc gc (v211 q cc gc (fset h 162 0 (.int (nI 0))) u) g c).2) u ((v217 q cc gc (v211 q cc gc (fset h 162 0 (.int (nI 0))) u) g c).1)).1))], [], (v213 q cc gc ((v217 q cc gc (v211 q cc gc (fset h 162 0 (.int (nI 0))) u) g c).2) u ((v217 q cc gc (v211 q cc gc (fset h 162 0 (.int (nI 0))) u) g c).1)).2, 198, sl) = some R := hh
    obtain ⟨n, hh⟩ := rn_i rfl rfl rfl rfl hh
    have hh : pm_run PT n fr lo 222 (52, [some (.ref 162), some (.int (nI g)), some (.int (nI c)), some (.int ((v213 q cc gc ((v217 q cc gc (v211 q cc gc (fset h 162 0 (.int (nI 0))) u) g c).2) u ((v217 q cc gc (v211 q cc gc (fset h 162 0 (.int (nI 0))) u) g c).1)).1))], [.int ((v213 q cc gc ((v217 q cc gc (v211 q cc gc (fset h 162 0 (.int (nI 0))) u) g c).2) u ((v217 q cc gc (v211 q cc gc (fset h 162 0 (.int (nI 0))) u) g c).1)).1)], (v213 q cc gc ((v217 q cc gc (v211 q cc gc (fset h 162 0 (.int (nI 0))) u) g c).2) u ((v217 q cc gc (v211 q cc gc (fset h 162 0 (.int (nI 0))) u) g c).1)).2, 198, sl) = some R := hh
    have er11 : R = (some (.int ((v213 q cc gc ((v217 q cc gc (v211 q cc gc (fset h 162 0 (.int (nI 0))) u) g c).2) u ((v217 q cc gc (v211 q cc gc (fset h 162 0 (.int (nI 0))) u) g c).1)).1)), (v213 q cc gc ((v217 q cc gc (v211 q cc gc (fset h 162 0 (.int (nI 0))) u) g c).2) u ((v217 q cc gc (v211 q cc gc (fset h 162 0 (.int (nI 0))) u) g c).1)).2, 198, sl) := (rn_ret rfl (Or.inl rfl) hh).2
    have ed : v222 q cc gc h u g c = ((v213 q cc gc ((v217 q cc gc (v211 q cc gc (fset h 162 0 (.int (nI 0))) u) g c).2) u ((v217 q cc gc (v211 q cc gc (fset h 162 0 (.int (nI 0))) u) g c).1)).1, (v213 q cc gc ((v217 q cc gc (v211 q cc gc (fset h 162 0 (.int (nI 0))) u) g c).2) u ((v217 q cc gc (v211 q cc gc (fset h 162 0 (.int (nI 0))) u) g c).1)).2) := (ct z10).trans rfl
    refine ⟨?_, ?_, ?_⟩ <;> rw [ed]
    · exact er11
    · exact hc8
    · exact (fr_g rfl rfl hf9 (fr_g rfl rfl hf6 (fr_g rfl rfl hf3 (fr_f rfl rfl fr_0))))
  | false =>
    have hh := en_f z10 hh
    have hh : pm_run PT n fr lo 222 (28, [some (.ref 162), some (.int (nI g)), some (.int (nI c)), some (.int ((v213 q cc gc ((v217 q cc gc (v211 q cc gc (fset h 162 0 (.int (nI 0))) u) g c).2) u ((v217 q cc gc (v211 q cc gc (fset h 162 0 (.int (nI 0))) u) g c).1)).1))], [], (v213 q cc gc ((v217 q cc gc (v211 q cc gc (fset h 162 0 (.int (nI 0))) u) g c).2) u ((v217 q cc gc (v211 q cc gc (fset h 162 0 (.int (nI 0))) u) g c).1)).2, 198, sl) = some R := hh
    obtain ⟨n, hh⟩ := rn_i rfl rfl rfl rfl hh
    obtain ⟨n, hh⟩ := rn_i rfl rfl rfl rfl hh
    have hh : pm_run PT n fr lo 222 (30, [some (.ref 162), some (.int (nI g)), some (.int (nI c)), some (.int ((v213 q cc gc ((v217 q cc gc (v211 q cc gc (fset h 162 0 (.int (nI 0))) u) g c).2) u ((v217 q cc gc (v211 q cc gc (fset h 162 0 (.int (nI 0))) u) g c).1)).1))], [.int (nI 0), .ref 162], (v213 q cc gc ((v217 q cc gc (v211 q cc gc (fset h 162 0 (.int (nI 0))) u) g c).2) u ((v217 q cc gc (v211 q cc gc (fset h 162 0 (.int (nI 0))) u) g c).1)).2, 198, sl) = some R := hh
    obtain ⟨n, hh⟩ := rn_pi hc8.wt rfl rfl (by decide) rfl (by decide) rfl hh
    obtain ⟨n, hh⟩ := rn_i rfl rfl rfl rfl hh
    obtain ⟨n, hh⟩ := rn_i rfl rfl rfl rfl hh
    have hh : pm_run PT n fr lo 222 (35, [some (.ref 162), some (.int (nI g)), some (.int (nI c)), some (.int ((v213 q cc gc ((v217 q cc gc (v211 q cc gc (fset h 162 0 (.int (nI 0))) u) g c).2) u ((v217 q cc gc (v211 q cc gc (fset h 162 0 (.int (nI 0))) u) g c).1)).1))], [.ref 162, .ref 162], fset ((v213 q cc gc ((v217 q cc gc (v211 q cc gc (fset h 162 0 (.int (nI 0))) u) g c).2) u ((v217 q cc gc (v211 q cc gc (fset h 162 0 (.int (nI 0))) u) g c).1)).2) 162 1 (.int (nI 0)), 198, sl) = some R := hh
    obtain ⟨n, hh⟩ := rn_gi (x := Fi ((v217 q cc gc (v211 q cc gc (fset h 162 0 (.int (nI 0))) u) g c).2) 162 29) (hc_f rfl rfl (by decide) rfl hc8).wt rfl rfl (by decide) rfl (by decide) rfl ((Fi_n (Or.inr (by decide))).trans ((hf9.2 162 29 (by decide +kernel) rfl).trans rfl)) hh
    obtain ⟨n, hh⟩ := rn_i rfl rfl rfl rfl hh
    have hh : pm_run PT n fr lo 222 (39, [some (.ref 162), some (.int (nI g)), some (.int (nI c)), some (.int ((v213 q cc gc ((v217 q cc gc (v211 q cc gc (fset h 162 0 (.int (nI 0))) u) g c).2) u ((v217 q cc gc (v211 q cc gc (fset h 162 0 (.int (nI 0))) u) g c).1)).1))], [.long ((Fi ((v217 q cc gc (v211 q cc gc (fset h 162 0 (.int (nI 0))) u) g c).2) 162 29).toInt64), .ref 162], fset ((v213 q cc gc ((v217 q cc gc (v211 q cc gc (fset h 162 0 (.int (nI 0))) u) g c).2) u ((v217 q cc gc (v211 q cc gc (fset h 162 0 (.int (nI 0))) u) g c).1)).2) 162 1 (.int (nI 0)), 198, sl) = some R := hh
    obtain ⟨n, fr1, lo1, r1, hh1, hh⟩ := rn_call (w := 0) (t := 167) rfl rfl hh
    obtain ⟨er12, hc13, hf14⟩ := v167_ok (v := ((Fi ((v217 q cc gc (v211 q cc gc (fset h 162 0 (.int (nI 0))) u) g c).2) 162 29).toInt64)) (hc_f rfl rfl (by decide) rfl hc8) hh1
    subst er12
    obtain ⟨n, hh⟩ := rn_i rfl rfl rfl rfl hh
    obtain ⟨n, hh⟩ := rn_i rfl rfl rfl rfl hh
    have hh : pm_run PT n fr lo 222 (44, [some (.ref 162), some (.int (nI g)), some (.int (nI c)), some (.int ((v213 q cc gc ((v217 q cc gc (v211 q cc gc (fset h 162 0 (.int (nI 0))) u) g c).2) u ((v217 q cc gc (v211 q cc gc (fset h 162 0 (.int (nI 0))) u) g c).1)).1))], [.ref 162, .ref 162], v167 q cc gc (fset ((v213 q cc gc ((v217 q cc gc (v211 q cc gc (fset h 162 0 (.int (nI 0))) u) g c).2) u ((v217 q cc gc (v211 q cc gc (fset h 162 0 (.int (nI 0))) u) g c).1)).2) 162 1 (.int (nI 0))) ((Fi ((v217 q cc gc (v211 q cc gc (fset h 162 0 (.int (nI 0))) u) g c).2) 162 29).toInt64), 198, sl) = some R := hh
    obtain ⟨n, hh⟩ := rn_gi (x := Fi ((v217 q cc gc (v211 q cc gc (fset h 162 0 (.int (nI 0))) u) g c).2) 162 30) hc13.wt rfl rfl (by decide) rfl (by decide) rfl ((hf14.2 162 30 (by decide +kernel) rfl).trans ((Fi_n (Or.inr (by decide))).trans ((hf9.2 162 30 (by decide +kernel) rfl).trans rfl))) hh
    obtain ⟨n, hh⟩ := rn_i rfl rfl rfl rfl hh
    have hh : pm_run PT n fr lo 222 (48, [some (.ref 162), some (.int (nI g)), some (.int (nI c)), some (.int ((v213 q cc gc ((v217 q cc gc (v211 q cc gc (fset h 162 0 (.int (nI 0))) u) g c).2) u ((v217 q cc gc (v211 q cc gc (fset h 162 0 (.int (nI 0))) u) g c).1)).1))], [.long ((Fi ((v217 q cc gc (v211 q cc gc (fset h 162 0 (.int (nI 0))) u) g c).2) 162 30).toInt64), .ref 162], v167 q cc gc (fset ((v213 q cc gc ((v217 q cc gc (v211 q cc gc (fset h 162 0 (.int (nI 0))) u) g c).2) u ((v217 q cc gc (v211 q cc gc (fset h 162 0 (.int (nI 0))) u) g c).1)).2) 162 1 (.int (nI 0))) ((Fi ((v217 q cc gc (v211 q cc gc (fset h 162 0 (.int (nI 0))) u) g c).2) 162 29).toInt64), 198, sl) = some R := hh
    obtain ⟨n, fr1, lo1, r1, hh1, hh⟩ := rn_call (w := 0) (t := 167) rfl rfl hh
    obtain ⟨er15, hc16, hf17⟩ := v167_ok (v := ((Fi ((v217 q cc gc (v211 q cc gc (fset h 162 0 (.int (nI 0))) u) g c).2) 162 30).toInt64)) hc13 hh1
    subst er15
    obtain ⟨n, hh⟩ := rn_i rfl rfl rfl rfl hh
    have hh : pm_run PT n fr lo 222 (52, [some (.ref 162), some (.int (nI g)), some (.int (nI c)), some (.int ((v213 q cc gc ((v217 q cc gc (v211 q cc gc (fset h 162 0 (.int (nI 0))) u) g c).2) u ((v217 q cc gc (v211 q cc gc (fset h 162 0 (.int (nI 0))) u) g c).1)).1))], [.int ((v213 q cc gc ((v217 q cc gc (v211 q cc gc (fset h 162 0 (.int (nI 0))) u) g c).2) u ((v217 q cc gc (v211 q cc gc (fset h 162 0 (.int (nI 0))) u) g c).1)).1)], v167 q cc gc (v167 q cc gc (fset ((v213 q cc gc ((v217 q cc gc (v211 q cc gc (fset h 162 0 (.int (nI 0))) u) g c).2) u ((v217 q cc gc (v211 q cc gc (fset h 162 0 (.int (nI 0))) u) g c).1)).2) 162 1 (.int (nI 0))) ((Fi ((v217 q cc gc (v211 q cc gc (fset h 162 0 (.int (nI 0))) u) g c).2) 162 29).toInt64)) ((Fi ((v217 q cc gc (v211 q cc gc (fset h 162 0 (.int (nI 0))) u) g c).2) 162 30).toInt64), 198, sl) = some R := hh
    have er18 : R = (some (.int ((v213 q cc gc ((v217 q cc gc (v211 q cc gc (fset h 162 0 (.int (nI 0))) u) g c).2) u ((v217 q cc gc (v211 q cc gc (fset h 162 0 (.int (nI 0))) u) g c).1)).1)), v167 q cc gc (v167 q cc gc (fset ((v213 q cc gc ((v217 q cc gc (v211 q cc gc (fset h 162 0 (.int (nI 0))) u) g c).2) u ((v217 q cc gc (v211 q cc gc (fset h 162 0 (.int (nI 0))) u) g c).1)).2) 162 1 (.int (nI 0))) ((Fi ((v217 q cc gc (v211 q cc gc (fset h 162 0 (.int (nI 0))) u) g c).2) 162 29).toInt64)) ((Fi ((v217 q cc gc (v211 q cc gc (fset h 162 0 (.int (nI 0))) u) g c).2) 162 30).toInt64), 198, sl) := (rn_ret rfl (Or.inl rfl) hh).2
    have ed : v222 q cc gc h u g c = ((v213 q cc gc ((v217 q cc gc (v211 q cc gc (fset h 162 0 (.int (nI 0))) u) g c).2) u ((v217 q cc gc (v211 q cc gc (fset h 162 0 (.int (nI 0))) u) g c).1)).1, v167 q cc gc (v167 q cc gc (fset ((v213 q cc gc ((v217 q cc gc (v211 q cc gc (fset h 162 0 (.int (nI 0))) u) g c).2) u ((v217 q cc gc (v211 q cc gc (fset h 162 0 (.int (nI 0))) u) g c).1)).2) 162 1 (.int (nI 0))) ((Fi ((v217 q cc gc (v211 q cc gc (fset h 162 0 (.int (nI 0))) u) g c).2) 162 29).toInt64)) ((Fi ((v217 q cc gc (v211 q cc gc (fset h 162 0 (.int (nI 0))) u) g c).2) 162 30).toInt64)) := (cf z10).trans rfl
    refine ⟨?_, ?_, ?_⟩ <;> rw [ed]
    · exact er18
    · exact hc16
    · exact (fr_g rfl rfl hf17 (fr_g rfl rfl hf14 (fr_f rfl rfl (fr_g rfl rfl hf9 (fr_g rfl rfl hf6 (fr_g rfl rfl hf3 (fr_f rfl rfl fr_0)))))))
theorem v222_fr {cc gc : Nat} {q : QT} {h : pm_H} {u : Nat} {g : Nat} {c : Nat} (hw : HC q cc gc h) (hu : u ≤ 15) : HC q cc gc ((v222 q cc gc h u g c).2) ∧ frm [162, 163, 170, 176, 177, 178] [(162, 0), (162, 1), (162, 27), (162, 29), (162, 30)] h ((v222 q cc gc h u g c).2) := by
  unfold v222
  refine cd_s (P := fun (p : Int32 × pm_H) => HC q cc gc ((p).2) ∧ frm [162, 163, 170, 176, 177, 178] [(162, 0), (162, 1), (162, 27), (162, 29), (162, 30)] h ((p).2)) (b := pm_cmp .lt ((v213 q cc gc ((v217 q cc gc (v211 q cc gc (fset h 162 0 (.int (nI 0))) u) g c).2) u ((v217 q cc gc (v211 q cc gc (fset h 162 0 (.int (nI 0))) u) g c).1)).1) 0) (fun _ => ?_) (fun _ => ?_)
  · show HC q cc gc ((v213 q cc gc ((v217 q cc gc (v211 q cc gc (fset h 162 0 (.int (nI 0))) u) g c).2) u ((v217 q cc gc (v211 q cc gc (fset h 162 0 (.int (nI 0))) u) g c).1)).2) ∧ frm [162, 163, 170, 176, 177, 178] [(162, 0), (162, 1), (162, 27), (162, 29), (162, 30)] h ((v213 q cc gc ((v217 q cc gc (v211 q cc gc (fset h 162 0 (.int (nI 0))) u) g c).2) u ((v217 q cc gc (v211 q cc gc (fset h 162 0 (.int (nI 0))) u) g c).1)).2)
    exact ⟨(v213_fr (u := u) (v := ((v217 q cc gc (v211 q cc gc (fset h 162 0 (.int (nI 0))) u) g c).1)) (v217_fr (g := g) (c := c) (v211_fr (u := u) (hc_f rfl rfl (by decide) rfl hw) hu).1).1 hu).1, (fr_g rfl rfl (v213_fr (u := u) (v := ((v217 q cc gc (v211 q cc gc (fset h 162 0 (.int (nI 0))) u) g c).1)) (v217_fr (g := g) (c := c) (v211_fr (u := u) (hc_f rfl rfl (by decide) rfl hw) hu).1).1 hu).2 (fr_g rfl rfl (v217_fr (g := g) (c := c) (v211_fr (u := u) (hc_f rfl rfl (by decide) rfl hw) hu).1).2 (fr_g rfl rfl (v211_fr (u := u) (hc_f rfl rfl (by decide) rfl hw) hu).2 (fr_f rfl rfl fr_0))))⟩
  · show HC q cc gc (v167 q cc gc (v167 q cc gc (fset ((v213 q cc gc ((v217 q cc gc (v211 q cc gc (fset h 162 0 (.int (nI 0))) u) g c).2) u ((v217 q cc gc (v211 q cc gc (fset h 162 0 (.int (nI 0))) u) g c).1)).2) 162 1 (.int (nI 0))) ((Fi ((v217 q cc gc (v211 q cc gc (fset h 162 0 (.int (nI 0))) u) g c).2) 162 29).toInt64)) ((Fi ((v217 q cc gc (v211 q cc gc (fset h 162 0 (.int (nI 0))) u) g c).2) 162 30).toInt64)) ∧ frm [162, 163, 170, 176, 177, 178] [(162, 0), (162, 1), (162, 27), (162, 29), (162, 30)] h (v167 q cc gc (v167 q cc gc (fset ((v213 q cc gc ((v217 q cc gc (v211 q cc gc (fset h 162 0 (.int (nI 0))) u) g c).2) u ((v217 q cc gc (v211 q cc gc (fset h 162 0 (.int (nI 0))) u) g c).1)).2) 162 1 (.int (nI 0))) ((Fi ((v217 q cc gc (v211 q cc gc (fset h 162 0 (.int (nI 0))) u) g c).2) 162 29).toInt64)) ((Fi ((v217 q cc gc (v211 q cc gc (fset h 162 0 (.int (nI 0))) u) g c).2) 162 30).toInt64))
    exact ⟨(v167_fr (v := ((Fi ((v217 q cc gc (v211 q cc gc (fset h 162 0 (.int (nI 0))) u) g c).2) 162 30).toInt64)) (v167_fr (v := ((Fi ((v217 q cc gc (v211 q cc gc (fset h 162 0 (.int (nI 0))) u) g c).2) 162 29).toInt64)) (hc_f rfl rfl (by decide) rfl (v213_fr (u := u) (v := ((v217 q cc gc (v211 q cc gc (fset h 162 0 (.int (nI 0))) u) g c).1)) (v217_fr (g := g) (c := c) (v211_fr (u := u) (hc_f rfl rfl (by decide) rfl hw) hu).1).1 hu).1)).1).1, (fr_g rfl rfl (v167_fr (v := ((Fi ((v217 q cc gc (v211 q cc gc (fset h 162 0 (.int (nI 0))) u) g c).2) 162 30).toInt64)) (v167_fr (v := ((Fi ((v217 q cc gc (v211 q cc gc (fset h 162 0 (.int (nI 0))) u) g c).2) 162 29).toInt64)) (hc_f rfl rfl (by decide) rfl (v213_fr (u := u) (v := ((v217 q cc gc (v211 q cc gc (fset h 162 0 (.int (nI 0))) u) g c).1)) (v217_fr (g := g) (c := c) (v211_fr (u := u) (hc_f rfl rfl (by decide) rfl hw) hu).1).1 hu).1)).1).2 (fr_g rfl rfl (v167_fr (v := ((Fi ((v217 q cc gc (v211 q cc gc (fset h 162 0 (.int (nI 0))) u) g c).2) 162 29).toInt64)) (hc_f rfl rfl (by decide) rfl (v213_fr (u := u) (v := ((v217 q cc gc (v211 q cc gc (fset h 162 0 (.int (nI 0))) u) g c).1)) (v217_fr (g := g) (c := c) (v211_fr (u := u) (hc_f rfl rfl (by decide) rfl hw) hu).1).1 hu).1)).2 (fr_f rfl rfl (fr_g rfl rfl (v213_fr (u := u) (v := ((v217 q cc gc (v211 q cc gc (fset h 162 0 (.int (nI 0))) u) g c).1)) (v217_fr (g := g) (c := c) (v211_fr (u := u) (hc_f rfl rfl (by decide) rfl hw) hu).1).1 hu).2 (fr_g rfl rfl (v217_fr (g := g) (c := c) (v211_fr (u := u) (hc_f rfl rfl (by decide) rfl hw) hu).1).2 (fr_g rfl rfl (v211_fr (u := u) (hc_f rfl rfl (by decide) rfl hw) hu).2 (fr_f rfl rfl fr_0)))))))⟩
def v223_33b (q : QT) (cc gc : Nat) (h : pm_H) (u : Nat) (m1 : Nat) (t2 : Int32) (i : Nat) : pm_H := v219 q cc gc h
def v223_33 (q : QT) (cc gc : Nat) (u : Nat) (m1 : Nat) (t2 : Int32) (j i : Nat) (a : pm_H) : pm_H := lp (fun i a => v223_33b q cc gc a u m1 t2 i) j i a
theorem v223_33_e {n fr lo sl cc gc : Nat} {q : QT} {h : pm_H} {R : pm_Rs} {u : Nat} {m1 : Nat} {t2 : Int32} {i : Nat} (hw : HC q cc gc h) (h_m1 : m1 < 10000) (hu : u ≤ 15) (e1 : Fi h 162 27 = nI u) (hi : m1 ≤ i) (hI : i < 1000000) (hh : pm_run PT n fr lo 223 (33, [some (.ref 162), some (.int (nI m1)), some (.int t2), some (.int (nI i))], [], h, 198, sl) = some R) : ∃ m, pm_run PT m fr lo 223 (52, [some (.ref 162), some (.int (nI m1)), some (.int t2), some (.int (nI i))], [], h, 198, sl) = some R := by
  have hcc := hw.cb
  have hgc := hw.gb
  have hzr := hw.zr
  obtain ⟨n, hh⟩ := rn_i rfl rfl rfl rfl hh
  obtain ⟨n, hh⟩ := rn_i rfl rfl rfl rfl hh
  have hh : pm_run PT n fr lo 223 (35, [some (.ref 162), some (.int (nI m1)), some (.int t2), some (.int (nI i))], [.int (nI m1), .int (nI i)], h, 198, sl) = some R := hh
  obtain ⟨n, hh⟩ := en_cn (cc := .ge) (off := 17) (t := 52) (b := decide (m1 ≤ i)) (hI_ge (by omega) (by omega)) rfl rfl hh
  have hh := en_t (show decide (m1 ≤ i) = true from decide_eq_true (by omega)) hh
  have hh : pm_run PT n fr lo 223 (52, [some (.ref 162), some (.int (nI m1)), some (.int t2), some (.int (nI i))], [], h, 198, sl) = some R := hh
  exact ⟨n, hh⟩
theorem v223_33_s {n fr lo sl cc gc : Nat} {q : QT} {h : pm_H} {R : pm_Rs} {u : Nat} {m1 : Nat} {t2 : Int32} {i : Nat} (hw : HC q cc gc h) (h_m1 : m1 < 10000) (hu : u ≤ 15) (e1 : Fi h 162 27 = nI u) (hi : i < m1) (hI : i < 1000000) (hh : pm_run PT n fr lo 223 (33, [some (.ref 162), some (.int (nI m1)), some (.int t2), some (.int (nI i))], [], h, 198, sl) = some R) : ∃ m, HC q cc gc ((v223_33b q cc gc h u m1 t2 i)) ∧ frm [170] [] h ((v223_33b q cc gc h u m1 t2 i)) ∧ Fi ((v223_33b q cc gc h u m1 t2 i)) 162 27 = nI u ∧ pm_run PT m fr lo 223 (33, [some (.ref 162), some (.int (nI m1)), some (.int t2), some (.int (nI (i + 1)))], [], (v223_33b q cc gc h u m1 t2 i), 198, sl) = some R := by
  have hcc := hw.cb
  have hgc := hw.gb
  have hzr := hw.zr
  obtain ⟨n, hh⟩ := rn_i rfl rfl rfl rfl hh
  obtain ⟨n, hh⟩ := rn_i rfl rfl rfl rfl hh
  have hh : pm_run PT n fr lo 223 (35, [some (.ref 162), some (.int (nI m1)), some (.int t2), some (.int (nI i))], [.int (nI m1), .int (nI i)], h, 198, sl) = some R := hh
  obtain ⟨n, hh⟩ := en_cn (cc := .ge) (off := 17) (t := 52) (b := decide (m1 ≤ i)) (hI_ge (by omega) (by omega)) rfl rfl hh
  have hh := en_f (show decide (m1 ≤ i) = false from decide_eq_false (by omega)) hh
  have hh : pm_run PT n fr lo 223 (38, [some (.ref 162), some (.int (nI m1)), some (.int t2), some (.int (nI i))], [], h, 198, sl) = some R := hh
  obtain ⟨n, hh⟩ := rn_i rfl rfl rfl rfl hh
  obtain ⟨n, hh⟩ := rn_i rfl rfl rfl rfl hh
  have hh : pm_run PT n fr lo 223 (40, [some (.ref 162), some (.int (nI m1)), some (.int t2), some (.int (nI i))], [.ref 162, .ref 162], h, 198, sl) = some R := hh
  obtain ⟨n, hh⟩ := rn_gr hw.wt rfl rfl (by decide) rfl (by decide) (show _ = some (2, ((170 : Nat) : Int), 1) from rfl) rfl hh
  have hh : pm_run PT n fr lo 223 (43, [some (.ref 162), some (.int (nI m1)), some (.int t2), some (.int (nI i))], [.ref 170, .ref 162], h, 198, sl) = some R := hh
  obtain ⟨n, fr1, lo1, r1, hh1, hh⟩ := rn_call (w := 0) (t := 219) rfl rfl hh
  obtain ⟨er7, hc8, hf9⟩ := v219_ok hw hh1
  subst er7
  have hh : pm_run PT n fr lo 223 (46, [some (.ref 162), some (.int (nI m1)), some (.int t2), some (.int (nI i))], [], v219 q cc gc h, 198, sl) = some R := hh
  obtain ⟨n, hh⟩ := en_inc (x := i) (c := 1) (j := 3) rfl rfl (by decide) hh
  have hh : pm_run PT n fr lo 223 (49, [some (.ref 162), some (.int (nI m1)), some (.int t2), some (.int (nI (i + 1)))], [], v219 q cc gc h, 198, sl) = some R := hh
  obtain ⟨n, hh⟩ := rn_i rfl rfl rfl rfl hh
  have ed : v223_33b q cc gc h u m1 t2 i = v219 q cc gc h := rfl
  rw [ed]
  exact ⟨n, hc8, (fr_g rfl rfl hf9 fr_0), ((hf9.2 162 27 (by decide +kernel) rfl).trans e1), hh⟩
theorem v223_33_ok {fr lo sl cc gc : Nat} {q : QT} {R : pm_Rs} {u : Nat} {m1 : Nat} {t2 : Int32} : ∀ {j i : Nat} {h : pm_H} {n : Nat}, m1 - i = j → i + j < 1000000 → HC q cc gc h → m1 < 10000 → u ≤ 15 → Fi h 162 27 = nI u → pm_run PT n fr lo 223 (33, [some (.ref 162), some (.int (nI m1)), some (.int t2), some (.int (nI i))], [], h, 198, sl) = some R → ∃ m wc, HC q cc gc ((v223_33 q cc gc u m1 t2 j i h)) ∧ frm [170] [] h ((v223_33 q cc gc u m1 t2 j i h)) ∧ Fi ((v223_33 q cc gc u m1 t2 j i h)) 162 27 = nI u ∧ pm_run PT m fr lo 223 (52, [some (.ref 162), some (.int (nI m1)), some (.int t2), wc], [], (v223_33 q cc gc u m1 t2 j i h), 198, sl) = some R := by
  intro j
  induction j with
  | zero =>
    intro i h n e eI hw h_m1 hu e1 hh
    obtain ⟨n, hh⟩ := v223_33_e hw h_m1 hu e1 (by omega) (by omega) hh
    exact ⟨n, _, hw, fr_0, e1, hh⟩
  | succ j ih =>
    intro i h n e eI hw h_m1 hu e1 hh
    obtain ⟨n, hc, hf, e1', hh⟩ := v223_33_s hw h_m1 hu e1 (by omega) (by omega) hh
    obtain ⟨n, wc, hc2, hf2, e1'', hh⟩ := ih (by omega) (by omega) hc h_m1 hu e1' hh
    exact ⟨n, wc, hc2, fr_t hf2 hf, e1'', hh⟩
theorem v223_33_fb {cc gc : Nat} {q : QT} {h : pm_H} {m1 : Nat} {t2 : Int32} {u : Nat} {i : Nat} (hw : HC q cc gc h) (hu : u ≤ 15) : HC q cc gc ((v223_33b q cc gc h u m1 t2 i)) ∧ frm [170] [] h ((v223_33b q cc gc h u m1 t2 i)) := by
  unfold v223_33b
  show HC q cc gc (v219 q cc gc h) ∧ frm [170] [] h (v219 q cc gc h)
  exact ⟨(v219_fr hw).1, (fr_g rfl rfl (v219_fr hw).2 fr_0)⟩
theorem v223_33_fr {cc gc : Nat} {q : QT} {m1 : Nat} {t2 : Int32} {u : Nat} (hu : u ≤ 15) : ∀ {j i : Nat} {h : pm_H}, HC q cc gc h → HC q cc gc ((v223_33 q cc gc u m1 t2 j i h)) ∧ frm [170] [] h ((v223_33 q cc gc u m1 t2 j i h)) := by
  intro j
  induction j with
  | zero =>
    intro i h hw
    exact ⟨hw, fr_0⟩
  | succ j ih =>
    intro i h hw
    obtain ⟨a1, a2⟩ := v223_33_fb (i := i) (m1 := m1) (t2 := t2) (u := u) hw hu
    obtain ⟨b1, b2⟩ := ih (i := i + 1) a1
    exact ⟨b1, fr_t b2 a2⟩
def v223 (q : QT) (cc gc : Nat) (h : pm_H) (u : Nat) (m : Nat) : Int32 × pm_H := cond (in_b ((nI m).toInt64) (Int64.ofNat 0) (60 : Int64)) ((v212 q cc gc (v167 q cc gc (v167 q cc gc (fset (v223_33 q cc gc u m ((Ar h 170) 94) m 0 (v211 q cc gc (fset h 162 0 (.int (nI 0))) u)) 162 1 (.int (nI 0))) ((((Ar (v223_33 q cc gc u m ((Ar h 170) 94) m 0 (v211 q cc gc (fset h 162 0 (.int (nI 0))) u)) 170) 94) &&& (((Ar h 170) 94) ^^^ (Int32.ofInt (-1)))).toInt64)) ((v177 q cc gc (Ar (v223_33 q cc gc u m ((Ar h 170) 94) m 0 (v211 q cc gc (fset h 162 0 (.int (nI 0))) u)) 170)).toInt64)) u (v270 q cc gc (((Ar (v223_33 q cc gc u m ((Ar h 170) 94) m 0 (v211 q cc gc (fset h 162 0 (.int (nI 0))) u)) 170) 94) &&& (((Ar h 170) 94) ^^^ (Int32.ofInt (-1)))))).1, (v212 q cc gc (v167 q cc gc (v167 q cc gc (fset (v223_33 q cc gc u m ((Ar h 170) 94) m 0 (v211 q cc gc (fset h 162 0 (.int (nI 0))) u)) 162 1 (.int (nI 0))) ((((Ar (v223_33 q cc gc u m ((Ar h 170) 94) m 0 (v211 q cc gc (fset h 162 0 (.int (nI 0))) u)) 170) 94) &&& (((Ar h 170) 94) ^^^ (Int32.ofInt (-1)))).toInt64)) ((v177 q cc gc (Ar (v223_33 q cc gc u m ((Ar h 170) 94) m 0 (v211 q cc gc (fset h 162 0 (.int (nI 0))) u)) 170)).toInt64)) u (v270 q cc gc (((Ar (v223_33 q cc gc u m ((Ar h 170) 94) m 0 (v211 q cc gc (fset h 162 0 (.int (nI 0))) u)) 170) 94) &&& (((Ar h 170) 94) ^^^ (Int32.ofInt (-1)))))).2) ((Int32.ofInt (-1)), fset h 162 0 (.int (nI 0)))
theorem v223_ok {n fr lo sl cc gc : Nat} {q : QT} {h : pm_H} {R : pm_Rs} {u : Nat} {m : Nat} (hw : HC q cc gc h) (h_m : m < 10000) (hu : u ≤ 15) (e1 : Fi h 162 27 = nI u) (hh : pm_run PT n fr lo 223 (0, pm_l0 [.ref 162, .int (nI m)] 4, [], h, 198, sl) = some R) : R = (some (.int ((v223 q cc gc h u m).1)), (v223 q cc gc h u m).2, 198, sl) ∧ HC q cc gc ((v223 q cc gc h u m).2) ∧ frm [162, 163, 170, 178] [(162, 0), (162, 1), (162, 27)] h ((v223 q cc gc h u m).2) := by
  have hcc := hw.cb
  have hgc := hw.gb
  have hzr := hw.zr
  obtain ⟨n, hh⟩ := rn_i rfl rfl rfl rfl hh
  obtain ⟨n, hh⟩ := rn_i rfl rfl rfl rfl hh
  have hh : pm_run PT n fr lo 223 (2, [some (.ref 162), some (.int (nI m)), none, none], [.int (nI 0), .ref 162], h, 198, sl) = some R := hh
  obtain ⟨n, hh⟩ := rn_pi hw.wt rfl rfl (by decide) rfl (by decide) rfl hh
  obtain ⟨n, hh⟩ := rn_i rfl rfl rfl rfl hh
  obtain ⟨n, hh⟩ := rn_i rfl rfl rfl rfl hh
  obtain ⟨n, hh⟩ := rn_i rfl rfl rfl rfl hh
  obtain ⟨n, hh⟩ := rn_i rfl rfl rfl rfl hh
  have hh : pm_run PT n fr lo 223 (11, [some (.ref 162), some (.int (nI m)), none, none], [.long (60 : Int64), .long (Int64.ofNat 0), .long ((nI m).toInt64)], fset h 162 0 (.int (nI 0)), 198, sl) = some R := hh
  obtain ⟨n, fr1, lo1, r1, hh1, hh⟩ := rn_call (w := 2) (t := 163) rfl rfl hh
  have er1 := rn_dt (F := 10) (Lo := 1000) (hd_in (fr := 10) (lo := 1000) (h := fset h 162 0 (.int (nI 0))) (sl := sl) ((nI m).toInt64) (Int64.ofNat 0) (60 : Int64)) hh1
  subst er1
  have hh : pm_run PT n fr lo 223 (14, [some (.ref 162), some (.int (nI m)), none, none], [.int (cond (in_b ((nI m).toInt64) (Int64.ofNat 0) (60 : Int64)) 1 0)], fset h 162 0 (.int (nI 0)), 198, sl) = some R := hh
  obtain ⟨n, hh⟩ := en_zn (cc := .ne) (off := 5) (t := 19) (b := in_b ((nI m).toInt64) (Int64.ofNat 0) (60 : Int64)) eb_ne rfl rfl hh
  cases z2 : in_b ((nI m).toInt64) (Int64.ofNat 0) (60 : Int64) with
  | true =>
    have hh := en_t z2 hh
    have hh : pm_run PT n fr lo 223 (19, [some (.ref 162), some (.int (nI m)), none, none], [], fset h 162 0 (.int (nI 0)), 198, sl) = some R := hh
    obtain ⟨n, hh⟩ := rn_i rfl rfl rfl rfl hh
    have hh : pm_run PT n fr lo 223 (20, [some (.ref 162), some (.int (nI m)), none, none], [.ref 162], fset h 162 0 (.int (nI 0)), 198, sl) = some R := hh
    obtain ⟨n, fr1, lo1, r1, hh1, hh⟩ := rn_call (w := 0) (t := 211) rfl rfl hh
    obtain ⟨er3, hc4, hf5⟩ := v211_ok (u := u) (hc_f rfl rfl (by decide) rfl hw) hu ((Fi_n (Or.inr (by decide))).trans e1) hh1
    subst er3
    obtain ⟨n, hh⟩ := rn_i rfl rfl rfl rfl hh
    have hh : pm_run PT n fr lo 223 (24, [some (.ref 162), some (.int (nI m)), none, none], [.ref 162], v211 q cc gc (fset h 162 0 (.int (nI 0))) u, 198, sl) = some R := hh
    obtain ⟨n, hh⟩ := rn_gr hc4.wt rfl rfl (by decide) rfl (by decide) (show _ = some (2, ((170 : Nat) : Int), 1) from rfl) rfl hh
    obtain ⟨n, hh⟩ := rn_i rfl rfl rfl rfl hh
    have hh : pm_run PT n fr lo 223 (29, [some (.ref 162), some (.int (nI m)), none, none], [.int (nI 94), .ref 170], v211 q cc gc (fset h 162 0 (.int (nI 0))) u, 198, sl) = some R := hh
    obtain ⟨n, hx6, hh⟩ := en_lu (t := 94) (f := Ar h 170) (w := (Ar h 170) 94) (nI_clamp (by omega)) hc4.wt rfl (by decide) rfl (by decide) ((Ar_e (hf5.1 170 rfl)).trans (Ar_f.trans rfl)) (fun _ => rfl) hh
    obtain ⟨n, hh⟩ := rn_i rfl rfl rfl rfl hh
    obtain ⟨n, hh⟩ := rn_i rfl rfl rfl rfl hh
    obtain ⟨n, hh⟩ := rn_i rfl rfl rfl rfl hh
    have hh : pm_run PT n fr lo 223 (33, [some (.ref 162), some (.int (nI m)), some (.int ((Ar h 170) 94)), some (.int (nI 0))], [], v211 q cc gc (fset h 162 0 (.int (nI 0))) u, 198, sl) = some R := hh
    obtain ⟨n, u7, hc8, hf9, _, hh⟩ := v223_33_ok (m1 := m) (t2 := ((Ar h 170) 94))  (i := 0) (j := m) (by omega) (by omega) hc4 (by omega) hu ((hf5.2 162 27 (by decide +kernel) rfl).trans ((Fi_n (Or.inr (by decide))).trans e1)) hh
    have hh : pm_run PT n fr lo 223 (52, [some (.ref 162), some (.int (nI m)), some (.int ((Ar h 170) 94)), u7], [], (v223_33 q cc gc u m ((Ar h 170) 94) m 0 (v211 q cc gc (fset h 162 0 (.int (nI 0))) u)), 198, sl) = some R := hh
    obtain ⟨n, hh⟩ := rn_i rfl rfl rfl rfl hh
    obtain ⟨n, hh⟩ := rn_i rfl rfl rfl rfl hh
    have hh : pm_run PT n fr lo 223 (54, [some (.ref 162), some (.int (nI m)), some (.int ((Ar h 170) 94)), u7], [.int (nI 0), .ref 162], (v223_33 q cc gc u m ((Ar h 170) 94) m 0 (v211 q cc gc (fset h 162 0 (.int (nI 0))) u)), 198, sl) = some R := hh
    obtain ⟨n, hh⟩ := rn_pi hc8.wt rfl rfl (by decide) rfl (by decide) rfl hh
    obtain ⟨n, hh⟩ := rn_i rfl rfl rfl rfl hh
    obtain ⟨n, hh⟩ := rn_i rfl rfl rfl rfl hh
    have hh : pm_run PT n fr lo 223 (59, [some (.ref 162), some (.int (nI m)), some (.int ((Ar h 170) 94)), u7], [.ref 162, .ref 162], fset (v223_33 q cc gc u m ((Ar h 170) 94) m 0 (v211 q cc gc (fset h 162 0 (.int (nI 0))) u)) 162 1 (.int (nI 0)), 198, sl) = some R := hh
    obtain ⟨n, hh⟩ := rn_gr (hc_f rfl rfl (by decide) rfl hc8).wt rfl rfl (by decide) rfl (by decide) (show _ = some (2, ((170 : Nat) : Int), 1) from rfl) rfl hh
    obtain ⟨n, hh⟩ := rn_i rfl rfl rfl rfl hh
    have hh : pm_run PT n fr lo 223 (64, [some (.ref 162), some (.int (nI m)), some (.int ((Ar h 170) 94)), u7], [.int (nI 94), .ref 170, .ref 162], fset (v223_33 q cc gc u m ((Ar h 170) 94) m 0 (v211 q cc gc (fset h 162 0 (.int (nI 0))) u)) 162 1 (.int (nI 0)), 198, sl) = some R := hh
    obtain ⟨n, hx10, hh⟩ := en_lu (t := 94) (f := Ar (v223_33 q cc gc u m ((Ar h 170) 94) m 0 (v211 q cc gc (fset h 162 0 (.int (nI 0))) u)) 170) (w := (Ar (v223_33 q cc gc u m ((Ar h 170) 94) m 0 (v211 q cc gc (fset h 162 0 (.int (nI 0))) u)) 170) 94) (nI_clamp (by omega)) (hc_f rfl rfl (by decide) rfl hc8).wt rfl (by decide) rfl (by decide) (Ar_f.trans rfl) (fun _ => rfl) hh
    obtain ⟨n, hh⟩ := rn_i rfl rfl rfl rfl hh
    obtain ⟨n, hh⟩ := rn_i rfl rfl rfl rfl hh
    obtain ⟨n, hh⟩ := rn_i rfl rfl rfl rfl hh
    obtain ⟨n, hh⟩ := rn_i rfl rfl rfl rfl hh
    obtain ⟨n, hh⟩ := rn_i rfl rfl rfl rfl hh
    have hh : pm_run PT n fr lo 223 (70, [some (.ref 162), some (.int (nI m)), some (.int ((Ar h 170) 94)), u7], [.long ((((Ar (v223_33 q cc gc u m ((Ar h 170) 94) m 0 (v211 q cc gc (fset h 162 0 (.int (nI 0))) u)) 170) 94) &&& (((Ar h 170) 94) ^^^ (Int32.ofInt (-1)))).toInt64), .ref 162], fset (v223_33 q cc gc u m ((Ar h 170) 94) m 0 (v211 q cc gc (fset h 162 0 (.int (nI 0))) u)) 162 1 (.int (nI 0)), 198, sl) = some R := hh
    obtain ⟨n, fr1, lo1, r1, hh1, hh⟩ := rn_call (w := 0) (t := 167) rfl rfl hh
    obtain ⟨er11, hc12, hf13⟩ := v167_ok (v := ((((Ar (v223_33 q cc gc u m ((Ar h 170) 94) m 0 (v211 q cc gc (fset h 162 0 (.int (nI 0))) u)) 170) 94) &&& (((Ar h 170) 94) ^^^ (Int32.ofInt (-1)))).toInt64)) (hc_f rfl rfl (by decide) rfl hc8) hh1
    subst er11
    obtain ⟨n, hh⟩ := rn_i rfl rfl rfl rfl hh
    obtain ⟨n, hh⟩ := rn_i rfl rfl rfl rfl hh
    obtain ⟨n, hh⟩ := rn_i rfl rfl rfl rfl hh
    have hh : pm_run PT n fr lo 223 (76, [some (.ref 162), some (.int (nI m)), some (.int ((Ar h 170) 94)), u7], [.ref 162, .ref 162, .ref 162], v167 q cc gc (fset (v223_33 q cc gc u m ((Ar h 170) 94) m 0 (v211 q cc gc (fset h 162 0 (.int (nI 0))) u)) 162 1 (.int (nI 0))) ((((Ar (v223_33 q cc gc u m ((Ar h 170) 94) m 0 (v211 q cc gc (fset h 162 0 (.int (nI 0))) u)) 170) 94) &&& (((Ar h 170) 94) ^^^ (Int32.ofInt (-1)))).toInt64), 198, sl) = some R := hh
    obtain ⟨n, hh⟩ := rn_gr hc12.wt rfl rfl (by decide) rfl (by decide) (show _ = some (2, ((170 : Nat) : Int), 1) from rfl) rfl hh
    have hh : pm_run PT n fr lo 223 (79, [some (.ref 162), some (.int (nI m)), some (.int ((Ar h 170) 94)), u7], [.ref 170, .ref 162, .ref 162], v167 q cc gc (fset (v223_33 q cc gc u m ((Ar h 170) 94) m 0 (v211 q cc gc (fset h 162 0 (.int (nI 0))) u)) 162 1 (.int (nI 0))) ((((Ar (v223_33 q cc gc u m ((Ar h 170) 94) m 0 (v211 q cc gc (fset h 162 0 (.int (nI 0))) u)) 170) 94) &&& (((Ar h 170) 94) ^^^ (Int32.ofInt (-1)))).toInt64), 198, sl) = some R := hh
    obtain ⟨n, fr1, lo1, r1, hh1, hh⟩ := rn_call (w := 0) (t := 177) rfl rfl hh
    have er14 := v177_ok hc12 hh1
    rw [show Ar (v167 q cc gc (fset (v223_33 q cc gc u m ((Ar h 170) 94) m 0 (v211 q cc gc (fset h 162 0 (.int (nI 0))) u)) 162 1 (.int (nI 0))) ((((Ar (v223_33 q cc gc u m ((Ar h 170) 94) m 0 (v211 q cc gc (fset h 162 0 (.int (nI 0))) u)) 170) 94) &&& (((Ar h 170) 94) ^^^ (Int32.ofInt (-1)))).toInt64)) 170 = Ar (v223_33 q cc gc u m ((Ar h 170) 94) m 0 (v211 q cc gc (fset h 162 0 (.int (nI 0))) u)) 170 from ((Ar_e (hf13.1 170 rfl)).trans (Ar_f.trans rfl))] at er14
    subst er14
    obtain ⟨n, hh⟩ := rn_i rfl rfl rfl rfl hh
    have hh : pm_run PT n fr lo 223 (83, [some (.ref 162), some (.int (nI m)), some (.int ((Ar h 170) 94)), u7], [.long ((v177 q cc gc (Ar (v223_33 q cc gc u m ((Ar h 170) 94) m 0 (v211 q cc gc (fset h 162 0 (.int (nI 0))) u)) 170)).toInt64), .ref 162], v167 q cc gc (fset (v223_33 q cc gc u m ((Ar h 170) 94) m 0 (v211 q cc gc (fset h 162 0 (.int (nI 0))) u)) 162 1 (.int (nI 0))) ((((Ar (v223_33 q cc gc u m ((Ar h 170) 94) m 0 (v211 q cc gc (fset h 162 0 (.int (nI 0))) u)) 170) 94) &&& (((Ar h 170) 94) ^^^ (Int32.ofInt (-1)))).toInt64), 198, sl) = some R := hh
    obtain ⟨n, fr1, lo1, r1, hh1, hh⟩ := rn_call (w := 0) (t := 167) rfl rfl hh
    obtain ⟨er15, hc16, hf17⟩ := v167_ok (v := ((v177 q cc gc (Ar (v223_33 q cc gc u m ((Ar h 170) 94) m 0 (v211 q cc gc (fset h 162 0 (.int (nI 0))) u)) 170)).toInt64)) hc12 hh1
    subst er15
    obtain ⟨n, hh⟩ := rn_i rfl rfl rfl rfl hh
    obtain ⟨n, hh⟩ := rn_i rfl rfl rfl rfl hh
    have hh : pm_run PT n fr lo 223 (88, [some (.ref 162), some (.int (nI m)), some (.int ((Ar h 170) 94)), u7], [.ref 162, .ref 162], v167 q cc gc (v167 q cc gc (fset (v223_33 q cc gc u m ((Ar h 170) 94) m 0 (v211 q cc gc (fset h 162 0 (.int (nI 0))) u)) 162 1 (.int (nI 0))) ((((Ar (v223_33 q cc gc u m ((Ar h 170) 94) m 0 (v211 q cc gc (fset h 162 0 (.int (nI 0))) u)) 170) 94) &&& (((Ar h 170) 94) ^^^ (Int32.ofInt (-1)))).toInt64)) ((v177 q cc gc (Ar (v223_33 q cc gc u m ((Ar h 170) 94) m 0 (v211 q cc gc (fset h 162 0 (.int (nI 0))) u)) 170)).toInt64), 198, sl) = some R := hh
    obtain ⟨n, hh⟩ := rn_gr hc16.wt rfl rfl (by decide) rfl (by decide) (show _ = some (2, ((170 : Nat) : Int), 1) from rfl) rfl hh
    obtain ⟨n, hh⟩ := rn_i rfl rfl rfl rfl hh
    have hh : pm_run PT n fr lo 223 (93, [some (.ref 162), some (.int (nI m)), some (.int ((Ar h 170) 94)), u7], [.int (nI 94), .ref 170, .ref 162], v167 q cc gc (v167 q cc gc (fset (v223_33 q cc gc u m ((Ar h 170) 94) m 0 (v211 q cc gc (fset h 162 0 (.int (nI 0))) u)) 162 1 (.int (nI 0))) ((((Ar (v223_33 q cc gc u m ((Ar h 170) 94) m 0 (v211 q cc gc (fset h 162 0 (.int (nI 0))) u)) 170) 94) &&& (((Ar h 170) 94) ^^^ (Int32.ofInt (-1)))).toInt64)) ((v177 q cc gc (Ar (v223_33 q cc gc u m ((Ar h 170) 94) m 0 (v211 q cc gc (fset h 162 0 (.int (nI 0))) u)) 170)).toInt64), 198, sl) = some R := hh
    obtain ⟨n, hx18, hh⟩ := en_lu (t := 94) (f := Ar (v223_33 q cc gc u m ((Ar h 170) 94) m 0 (v211 q cc gc (fset h 162 0 (.int (nI 0))) u)) 170) (w := (Ar (v223_33 q cc gc u m ((Ar h 170) 94) m 0 (v211 q cc gc (fset h 162 0 (.int (nI 0))) u)) 170) 94) (nI_clamp (by omega)) hc16.wt rfl (by decide) rfl (by decide) ((Ar_e (hf17.1 170 rfl)).trans ((Ar_e (hf13.1 170 rfl)).trans (Ar_f.trans rfl))) (fun _ => rfl) hh
    obtain ⟨n, hh⟩ := rn_i rfl rfl rfl rfl hh
    obtain ⟨n, hh⟩ := rn_i rfl rfl rfl rfl hh
    obtain ⟨n, hh⟩ := rn_i rfl rfl rfl rfl hh
    obtain ⟨n, hh⟩ := rn_i rfl rfl rfl rfl hh
    have hh : pm_run PT n fr lo 223 (98, [some (.ref 162), some (.int (nI m)), some (.int ((Ar h 170) 94)), u7], [.int (((Ar (v223_33 q cc gc u m ((Ar h 170) 94) m 0 (v211 q cc gc (fset h 162 0 (.int (nI 0))) u)) 170) 94) &&& (((Ar h 170) 94) ^^^ (Int32.ofInt (-1)))), .ref 162], v167 q cc gc (v167 q cc gc (fset (v223_33 q cc gc u m ((Ar h 170) 94) m 0 (v211 q cc gc (fset h 162 0 (.int (nI 0))) u)) 162 1 (.int (nI 0))) ((((Ar (v223_33 q cc gc u m ((Ar h 170) 94) m 0 (v211 q cc gc (fset h 162 0 (.int (nI 0))) u)) 170) 94) &&& (((Ar h 170) 94) ^^^ (Int32.ofInt (-1)))).toInt64)) ((v177 q cc gc (Ar (v223_33 q cc gc u m ((Ar h 170) 94) m 0 (v211 q cc gc (fset h 162 0 (.int (nI 0))) u)) 170)).toInt64), 198, sl) = some R := hh
    obtain ⟨n, fr1, lo1, r1, hh1, hh⟩ := rn_call (w := 2) (t := 270) rfl rfl hh
    have er19 := v270_ok (a := (((Ar (v223_33 q cc gc u m ((Ar h 170) 94) m 0 (v211 q cc gc (fset h 162 0 (.int (nI 0))) u)) 170) 94) &&& (((Ar h 170) 94) ^^^ (Int32.ofInt (-1))))) hc16 hh1
    subst er19
    have hh : pm_run PT n fr lo 223 (101, [some (.ref 162), some (.int (nI m)), some (.int ((Ar h 170) 94)), u7], [.int (v270 q cc gc (((Ar (v223_33 q cc gc u m ((Ar h 170) 94) m 0 (v211 q cc gc (fset h 162 0 (.int (nI 0))) u)) 170) 94) &&& (((Ar h 170) 94) ^^^ (Int32.ofInt (-1))))), .ref 162], v167 q cc gc (v167 q cc gc (fset (v223_33 q cc gc u m ((Ar h 170) 94) m 0 (v211 q cc gc (fset h 162 0 (.int (nI 0))) u)) 162 1 (.int (nI 0))) ((((Ar (v223_33 q cc gc u m ((Ar h 170) 94) m 0 (v211 q cc gc (fset h 162 0 (.int (nI 0))) u)) 170) 94) &&& (((Ar h 170) 94) ^^^ (Int32.ofInt (-1)))).toInt64)) ((v177 q cc gc (Ar (v223_33 q cc gc u m ((Ar h 170) 94) m 0 (v211 q cc gc (fset h 162 0 (.int (nI 0))) u)) 170)).toInt64), 198, sl) = some R := hh
    obtain ⟨n, fr1, lo1, r1, hh1, hh⟩ := rn_call (w := 0) (t := 212) rfl rfl hh
    obtain ⟨er20, hc21, hf22⟩ := v212_ok (u := u) (v := (v270 q cc gc (((Ar (v223_33 q cc gc u m ((Ar h 170) 94) m 0 (v211 q cc gc (fset h 162 0 (.int (nI 0))) u)) 170) 94) &&& (((Ar h 170) 94) ^^^ (Int32.ofInt (-1)))))) hc16 hu ((hf17.2 162 27 (by decide +kernel) rfl).trans ((hf13.2 162 27 (by decide +kernel) rfl).trans ((Fi_n (Or.inr (by decide))).trans ((hf9.2 162 27 (by decide +kernel) rfl).trans ((hf5.2 162 27 (by decide +kernel) rfl).trans ((Fi_n (Or.inr (by decide))).trans e1)))))) hh1
    subst er20
    have hh : pm_run PT n fr lo 223 (104, [some (.ref 162), some (.int (nI m)), some (.int ((Ar h 170) 94)), u7], [.int ((v212 q cc gc (v167 q cc gc (v167 q cc gc (fset (v223_33 q cc gc u m ((Ar h 170) 94) m 0 (v211 q cc gc (fset h 162 0 (.int (nI 0))) u)) 162 1 (.int (nI 0))) ((((Ar (v223_33 q cc gc u m ((Ar h 170) 94) m 0 (v211 q cc gc (fset h 162 0 (.int (nI 0))) u)) 170) 94) &&& (((Ar h 170) 94) ^^^ (Int32.ofInt (-1)))).toInt64)) ((v177 q cc gc (Ar (v223_33 q cc gc u m ((Ar h 170) 94) m 0 (v211 q cc gc (fset h 162 0 (.int (nI 0))) u)) 170)).toInt64)) u (v270 q cc gc (((Ar (v223_33 q cc gc u m ((Ar h 170) 94) m 0 (v211 q cc gc (fset h 162 0 (.int (nI 0))) u)) 170) 94) &&& (((Ar h 170) 94) ^^^ (Int32.ofInt (-1)))))).1)], (v212 q cc gc (v167 q cc gc (v167 q cc gc (fset (v223_33 q cc gc u m ((Ar h 170) 94) m 0 (v211 q cc gc (fset h 162 0 (.int (nI 0))) u)) 162 1 (.int (nI 0))) ((((Ar (v223_33 q cc gc u m ((Ar h 170) 94) m 0 (v211 q cc gc (fset h 162 0 (.int (nI 0))) u)) 170) 94) &&& (((Ar h 170) 94) ^^^ (Int32.ofInt (-1)))).toInt64)) ((v177 q cc gc (Ar (v223_33 q cc gc u m ((Ar h 170) 94) m 0 (v211 q cc gc (fset h 162 0 (.int (nI 0))) u)) 170)).toInt64)) u (v270 q cc gc (((Ar (v223_33 q cc gc u m ((Ar h 170) 94) m 0 (v211 q cc gc (fset h 162 0 (.int (nI 0))) u)) 170) 94) &&& (((Ar h 170) 94) ^^^ (Int32.ofInt (-1)))))).2, 198, sl) = some R := hh
    have er23 : R = (some (.int ((v212 q cc gc (v167 q cc gc (v167 q cc gc (fset (v223_33 q cc gc u m ((Ar h 170) 94) m 0 (v211 q cc gc (fset h 162 0 (.int (nI 0))) u)) 162 1 (.int (nI 0))) ((((Ar (v223_33 q cc gc u m ((Ar h 170) 94) m 0 (v211 q cc gc (fset h 162 0 (.int (nI 0))) u)) 170) 94) &&& (((Ar h 170) 94) ^^^ (Int32.ofInt (-1)))).toInt64)) ((v177 q cc gc (Ar (v223_33 q cc gc u m ((Ar h 170) 94) m 0 (v211 q cc gc (fset h 162 0 (.int (nI 0))) u)) 170)).toInt64)) u (v270 q cc gc (((Ar (v223_33 q cc gc u m ((Ar h 170) 94) m 0 (v211 q cc gc (fset h 162 0 (.int (nI 0))) u)) 170) 94) &&& (((Ar h 170) 94) ^^^ (Int32.ofInt (-1)))))).1)), (v212 q cc gc (v167 q cc gc (v167 q cc gc (fset (v223_33 q cc gc u m ((Ar h 170) 94) m 0 (v211 q cc gc (fset h 162 0 (.int (nI 0))) u)) 162 1 (.int (nI 0))) ((((Ar (v223_33 q cc gc u m ((Ar h 170) 94) m 0 (v211 q cc gc (fset h 162 0 (.int (nI 0))) u)) 170) 94) &&& (((Ar h 170) 94) ^^^ (Int32.ofInt (-1)))).toInt64)) ((v177 q cc gc (Ar (v223_33 q cc gc u m ((Ar h 170) 94) m 0 (v211 q cc gc (fset h 162 0 (.int (nI 0))) u)) 170)).toInt64)) u (v270 q cc gc (((Ar (v223_33 q cc gc u m ((Ar h 170) 94) m 0 (v211 q cc gc (fset h 162 0 (.int (nI 0))) u)) 170) 94) &&& (((Ar h 170) 94) ^^^ (Int32.ofInt (-1)))))).2, 198, sl) := (rn_ret rfl (Or.inl rfl) hh).2
    have ed : v223 q cc gc h u m = ((v212 q cc gc (v167 q cc gc (v167 q cc gc (fset (v223_33 q cc gc u m ((Ar h 170) 94) m 0 (v211 q cc gc (fset h 162 0 (.int (nI 0))) u)) 162 1 (.int (nI 0))) ((((Ar (v223_33 q cc gc u m ((Ar h 170) 94) m 0 (v211 q cc gc (fset h 162 0 (.int (nI 0))) u)) 170) 94) &&& (((Ar h 170) 94) ^^^ (Int32.ofInt (-1)))).toInt64)) ((v177 q cc gc (Ar (v223_33 q cc gc u m ((Ar h 170) 94) m 0 (v211 q cc gc (fset h 162 0 (.int (nI 0))) u)) 170)).toInt64)) u (v270 q cc gc (((Ar (v223_33 q cc gc u m ((Ar h 170) 94) m 0 (v211 q cc gc (fset h 162 0 (.int (nI 0))) u)) 170) 94) &&& (((Ar h 170) 94) ^^^ (Int32.ofInt (-1)))))).1, (v212 q cc gc (v167 q cc gc (v167 q cc gc (fset (v223_33 q cc gc u m ((Ar h 170) 94) m 0 (v211 q cc gc (fset h 162 0 (.int (nI 0))) u)) 162 1 (.int (nI 0))) ((((Ar (v223_33 q cc gc u m ((Ar h 170) 94) m 0 (v211 q cc gc (fset h 162 0 (.int (nI 0))) u)) 170) 94) &&& (((Ar h 170) 94) ^^^ (Int32.ofInt (-1)))).toInt64)) ((v177 q cc gc (Ar (v223_33 q cc gc u m ((Ar h 170) 94) m 0 (v211 q cc gc (fset h 162 0 (.int (nI 0))) u)) 170)).toInt64)) u (v270 q cc gc (((Ar (v223_33 q cc gc u m ((Ar h 170) 94) m 0 (v211 q cc gc (fset h 162 0 (.int (nI 0))) u)) 170) 94) &&& (((Ar h 170) 94) ^^^ (Int32.ofInt (-1)))))).2) := (ct z2).trans rfl
    refine ⟨?_, ?_, ?_⟩ <;> rw [ed]
    · exact er23
    · exact hc21
    · exact (fr_g rfl rfl hf22 (fr_g rfl rfl hf17 (fr_g rfl rfl hf13 (fr_f rfl rfl (fr_g rfl rfl hf9 (fr_g rfl rfl hf5 (fr_f rfl rfl fr_0)))))))
  | false =>
    have hh := en_f z2 hh
    have hh : pm_run PT n fr lo 223 (17, [some (.ref 162), some (.int (nI m)), none, none], [], fset h 162 0 (.int (nI 0)), 198, sl) = some R := hh
    obtain ⟨n, hh⟩ := rn_i rfl rfl rfl rfl hh
    have hh : pm_run PT n fr lo 223 (18, [some (.ref 162), some (.int (nI m)), none, none], [.int (Int32.ofInt (-1))], fset h 162 0 (.int (nI 0)), 198, sl) = some R := hh
    have er24 : R = (some (.int (Int32.ofInt (-1))), fset h 162 0 (.int (nI 0)), 198, sl) := (rn_ret rfl (Or.inl rfl) hh).2
    have ed : v223 q cc gc h u m = ((Int32.ofInt (-1)), fset h 162 0 (.int (nI 0))) := (cf z2).trans rfl
    refine ⟨?_, ?_, ?_⟩ <;> rw [ed]
    · exact er24
    · exact (hc_f rfl rfl (by decide) rfl hw)
    · exact (fr_f rfl rfl fr_0)
theorem v223_fr {cc gc : Nat} {q : QT} {h : pm_H} {u : Nat} {m : Nat} (hw : HC q cc gc h) (hu : u ≤ 15) : HC q cc gc ((v223 q cc gc h u m).2) ∧ frm [162, 163, 170, 178] [(162, 0), (162, 1), (162, 27)] h ((v223 q cc gc h u m).2) := by
  unfold v223
  refine cd_s (P := fun (p : Int32 × pm_H) => HC q cc gc ((p).2) ∧ frm [162, 163, 170, 178] [(162, 0), (162, 1), (162, 27)] h ((p).2)) (b := in_b ((nI m).toInt64) (Int64.ofNat 0) (60 : Int64)) (fun _ => ?_) (fun _ => ?_)
  · show HC q cc gc ((v212 q cc gc (v167 q cc gc (v167 q cc gc (fset (v223_33 q cc gc u m ((Ar h 170) 94) m 0 (v211 q cc gc (fset h 162 0 (.int (nI 0))) u)) 162 1 (.int (nI 0))) ((((Ar (v223_33 q cc gc u m ((Ar h 170) 94) m 0 (v211 q cc gc (fset h 162 0 (.int (nI 0))) u)) 170) 94) &&& (((Ar h 170) 94) ^^^ (Int32.ofInt (-1)))).toInt64)) ((v177 q cc gc (Ar (v223_33 q cc gc u m ((Ar h 170) 94) m 0 (v211 q cc gc (fset h 162 0 (.int (nI 0))) u)) 170)).toInt64)) u (v270 q cc gc (((Ar (v223_33 q cc gc u m ((Ar h 170) 94) m 0 (v211 q cc gc (fset h 162 0 (.int (nI 0))) u)) 170) 94) &&& (((Ar h 170) 94) ^^^ (Int32.ofInt (-1)))))).2) ∧ frm [162, 163, 170, 178] [(162, 0), (162, 1), (162, 27)] h ((v212 q cc gc (v167 q cc gc (v167 q cc gc (fset (v223_33 q cc gc u m ((Ar h 170) 94) m 0 (v211 q cc gc (fset h 162 0 (.int (nI 0))) u)) 162 1 (.int (nI 0))) ((((Ar (v223_33 q cc gc u m ((Ar h 170) 94) m 0 (v211 q cc gc (fset h 162 0 (.int (nI 0))) u)) 170) 94) &&& (((Ar h 170) 94) ^^^ (Int32.ofInt (-1)))).toInt64)) ((v177 q cc gc (Ar (v223_33 q cc gc u m ((Ar h 170) 94) m 0 (v211 q cc gc (fset h 162 0 (.int (nI 0))) u)) 170)).toInt64)) u (v270 q cc gc (((Ar (v223_33 q cc gc u m ((Ar h 170) 94) m 0 (v211 q cc gc (fset h 162 0 (.int (nI 0))) u)) 170) 94) &&& (((Ar h 170) 94) ^^^ (Int32.ofInt (-1)))))).2)
    exact ⟨(v212_fr (u := u) (v := (v270 q cc gc (((Ar (v223_33 q cc gc u m ((Ar h 170) 94) m 0 (v211 q cc gc (fset h 162 0 (.int (nI 0))) u)) 170) 94) &&& (((Ar h 170) 94) ^^^ (Int32.ofInt (-1)))))) (v167_fr (v := ((v177 q cc gc (Ar (v223_33 q cc gc u m ((Ar h 170) 94) m 0 (v211 q cc gc (fset h 162 0 (.int (nI 0))) u)) 170)).toInt64)) (v167_fr (v := ((((Ar (v223_33 q cc gc u m ((Ar h 170) 94) m 0 (v211 q cc gc (fset h 162 0 (.int (nI 0))) u)) 170) 94) &&& (((Ar h 170) 94) ^^^ (Int32.ofInt (-1)))).toInt64)) (hc_f rfl rfl (by decide) rfl (v223_33_fr (m1 := m) (t2 := ((Ar h 170) 94)) (u := u) (j := m) (i := 0) hu (v211_fr (u := u) (hc_f rfl rfl (by decide) rfl hw) hu).1).1)).1).1 hu).1, (fr_g rfl rfl (v212_fr (u := u) (v := (v270 q cc gc (((Ar (v223_33 q cc gc u m ((Ar h 170) 94) m 0 (v211 q cc gc (fset h 162 0 (.int (nI 0))) u)) 170) 94) &&& (((Ar h 170) 94) ^^^ (Int32.ofInt (-1)))))) (v167_fr (v := ((v177 q cc gc (Ar (v223_33 q cc gc u m ((Ar h 170) 94) m 0 (v211 q cc gc (fset h 162 0 (.int (nI 0))) u)) 170)).toInt64)) (v167_fr (v := ((((Ar (v223_33 q cc gc u m ((Ar h 170) 94) m 0 (v211 q cc gc (fset h 162 0 (.int (nI 0))) u)) 170) 94) &&& (((Ar h 170) 94) ^^^ (Int32.ofInt (-1)))).toInt64)) (hc_f rfl rfl (by decide) rfl (v223_33_fr (m1 := m) (t2 := ((Ar h 170) 94)) (u := u) (j := m) (i := 0) hu (v211_fr (u := u) (hc_f rfl rfl (by decide) rfl hw) hu).1).1)).1).1 hu).2 (fr_g rfl rfl (v167_fr (v := ((v177 q cc gc (Ar (v223_33 q cc gc u m ((Ar h 170) 94) m 0 (v211 q cc gc (fset h 162 0 (.int (nI 0))) u)) 170)).toInt64)) (v167_fr (v := ((((Ar (v223_33 q cc gc u m ((Ar h 170) 94) m 0 (v211 q cc gc (fset h 162 0 (.int (nI 0))) u)) 170) 94) &&& (((Ar h 170) 94) ^^^ (Int32.ofInt (-1)))).toInt64)) (hc_f rfl rfl (by decide) rfl (v223_33_fr (m1 := m) (t2 := ((Ar h 170) 94)) (u := u) (j := m) (i := 0) hu (v211_fr (u := u) (hc_f rfl rfl (by decide) rfl hw) hu).1).1)).1).2 (fr_g rfl rfl (v167_fr (v := ((((Ar (v223_33 q cc gc u m ((Ar h 170) 94) m 0 (v211 q cc gc (fset h 162 0 (.int (nI 0))) u)) 170) 94) &&& (((Ar h 170) 94) ^^^ (Int32.ofInt (-1)))).toInt64)) (hc_f rfl rfl (by decide) rfl (v223_33_fr (m1 := m) (t2 := ((Ar h 170) 94)) (u := u) (j := m) (i := 0) hu (v211_fr (u := u) (hc_f rfl rfl (by decide) rfl hw) hu).1).1)).2 (fr_f rfl rfl (fr_g rfl rfl (v223_33_fr (m1 := m) (t2 := ((Ar h 170) 94)) (u := u) (j := m) (i := 0) hu (v211_fr (u := u) (hc_f rfl rfl (by decide) rfl hw) hu).1).2 (fr_g rfl rfl (v211_fr (u := u) (hc_f rfl rfl (by decide) rfl hw) hu).2 (fr_f rfl rfl fr_0)))))))⟩
  · show HC q cc gc (fset h 162 0 (.int (nI 0))) ∧ frm [162, 163, 170, 178] [(162, 0), (162, 1), (162, 27)] h (fset h 162 0 (.int (nI 0)))
    exact ⟨(hc_f rfl rfl (by decide) rfl hw), (fr_f rfl rfl fr_0)⟩
def v224 (q : QT) (cc gc : Nat) (h : pm_H) (u : Nat) (a : Nat) (b : Nat) (m : Int32) : Int32 × pm_H := ((v213 q cc gc ((v220 q cc gc (v211 q cc gc (fset h 162 0 (.int (nI 0))) u) a b m).2) u ((v220 q cc gc (v211 q cc gc (fset h 162 0 (.int (nI 0))) u) a b m).1)).1, (v213 q cc gc ((v220 q cc gc (v211 q cc gc (fset h 162 0 (.int (nI 0))) u) a b m).2) u ((v220 q cc gc (v211 q cc gc (fset h 162 0 (.int (nI 0))) u) a b m).1)).2)
theorem v224_ok {n fr lo sl cc gc : Nat} {q : QT} {h : pm_H} {R : pm_Rs} {u : Nat} {a : Nat} {b : Nat} {m : Int32} (hw : HC q cc gc h) (h_a : a < 10000) (h_b : b < 10000) (hu : u ≤ 15) (e1 : Fi h 162 27 = nI u) (hh : pm_run PT n fr lo 224 (0, pm_l0 [.ref 162, .int (nI a), .int (nI b), .int m] 4, [], h, 198, sl) = some R) : R = (some (.int ((v224 q cc gc h u a b m).1)), (v224 q cc gc h u a b m).2, 198, sl) ∧ HC q cc gc ((v224 q cc gc h u a b m).2) ∧ frm [162, 170, 178] [(162, 0), (162, 27)] h ((v224 q cc gc h u a b m).2) := by
  have hcc := hw.cb
  have hgc := hw.gb
  have hzr := hw.zr
  obtain ⟨n, hh⟩ := rn_i rfl rfl rfl rfl hh
  obtain ⟨n, hh⟩ := rn_i rfl rfl rfl rfl hh
  have hh : pm_run PT n fr lo 224 (2, [some (.ref 162), some (.int (nI a)), some (.int (nI b)), some (.int m)], [.int (nI 0), .ref 162], h, 198, sl) = some R := hh
  obtain ⟨n, hh⟩ := rn_pi hw.wt rfl rfl (by decide) rfl (by decide) rfl hh
  obtain ⟨n, hh⟩ := rn_i rfl rfl rfl rfl hh
  have hh : pm_run PT n fr lo 224 (6, [some (.ref 162), some (.int (nI a)), some (.int (nI b)), some (.int m)], [.ref 162], fset h 162 0 (.int (nI 0)), 198, sl) = some R := hh
  obtain ⟨n, fr1, lo1, r1, hh1, hh⟩ := rn_call (w := 0) (t := 211) rfl rfl hh
  obtain ⟨er1, hc2, hf3⟩ := v211_ok (u := u) (hc_f rfl rfl (by decide) rfl hw) hu ((Fi_n (Or.inr (by decide))).trans e1) hh1
  subst er1
  obtain ⟨n, hh⟩ := rn_i rfl rfl rfl rfl hh
  obtain ⟨n, hh⟩ := rn_i rfl rfl rfl rfl hh
  obtain ⟨n, hh⟩ := rn_i rfl rfl rfl rfl hh
  obtain ⟨n, hh⟩ := rn_i rfl rfl rfl rfl hh
  obtain ⟨n, hh⟩ := rn_i rfl rfl rfl rfl hh
  have hh : pm_run PT n fr lo 224 (14, [some (.ref 162), some (.int (nI a)), some (.int (nI b)), some (.int m)], [.int m, .int (nI b), .int (nI a), .ref 162, .ref 162], v211 q cc gc (fset h 162 0 (.int (nI 0))) u, 198, sl) = some R := hh
  obtain ⟨n, fr1, lo1, r1, hh1, hh⟩ := rn_call (w := 0) (t := 220) rfl rfl hh
  obtain ⟨er4, hc5, hf6⟩ := v220_ok (a := a) (b := b) (m := m) hc2 (by omega) (by omega) hh1
  subst er4
  have hh : pm_run PT n fr lo 224 (17, [some (.ref 162), some (.int (nI a)), some (.int (nI b)), some (.int m)], [.int ((v220 q cc gc (v211 q cc gc (fset h 162 0 (.int (nI 0))) u) a b m).1), .ref 162], (v220 q cc gc (v211 q cc gc (fset h 162 0 (.int (nI 0))) u) a b m).2, 198, sl) = some R := hh
  obtain ⟨n, fr1, lo1, r1, hh1, hh⟩ := rn_call (w := 0) (t := 213) rfl rfl hh
  obtain ⟨er7, hc8, hf9⟩ := v213_ok (u := u) (v := ((v220 q cc gc (v211 q cc gc (fset h 162 0 (.int (nI 0))) u) a b m).1)) hc5 hu ((hf6.2 162 27 (by decide +kernel) rfl).trans ((hf3.2 162 27 (by decide +kernel) rfl).trans ((Fi_n (Or.inr (by decide))).trans e1))) hh1
  subst er7
  have hh : pm_run PT n fr lo 224 (20, [some (.ref 162), some (.int (nI a)), some (.int (nI b)), some (.int m)], [.int ((v213 q cc gc ((v220 q cc gc (v211 q cc gc (fset h 162 0 (.int (nI 0))) u) a b m).2) u ((v220 q cc gc (v211 q cc gc (fset h 162 0 (.int (nI 0))) u) a b m).1)).1)], (v213 q cc gc ((v220 q cc gc (v211 q cc gc (fset h 162 0 (.int (nI 0))) u) a b m).2) u ((v220 q cc gc (v211 q cc gc (fset h 162 0 (.int (nI 0))) u) a b m).1)).2, 198, sl) = some R := hh
  have er10 : R = (some (.int ((v213 q cc gc ((v220 q cc gc (v211 q cc gc (fset h 162 0 (.int (nI 0))) u) a b m).2) u ((v220 q cc gc (v211 q cc gc (fset h 162 0 (.int (nI 0))) u) a b m).1)).1)), (v213 q cc gc ((v220 q cc gc (v211 q cc gc (fset h 162 0 (.int (nI 0))) u) a b m).2) u ((v220 q cc gc (v211 q cc gc (fset h 162 0 (.int (nI 0))) u) a b m).1)).2, 198, sl) := (rn_ret rfl (Or.inl rfl) hh).2
  have ed : v224 q cc gc h u a b m = ((v213 q cc gc ((v220 q cc gc (v211 q cc gc (fset h 162 0 (.int (nI 0))) u) a b m).2) u ((v220 q cc gc (v211 q cc gc (fset h 162 0 (.int (nI 0))) u) a b m).1)).1, (v213 q cc gc ((v220 q cc gc (v211 q cc gc (fset h 162 0 (.int (nI 0))) u) a b m).2) u ((v220 q cc gc (v211 q cc gc (fset h 162 0 (.int (nI 0))) u) a b m).1)).2) := rfl
  refine ⟨?_, ?_, ?_⟩ <;> rw [ed]
  · exact er10
  · exact hc8
  · exact (fr_g rfl rfl hf9 (fr_g rfl rfl hf6 (fr_g rfl rfl hf3 (fr_f rfl rfl fr_0))))
theorem v224_fr {cc gc : Nat} {q : QT} {h : pm_H} {u : Nat} {a : Nat} {b : Nat} {m : Int32} (hw : HC q cc gc h) (hu : u ≤ 15) : HC q cc gc ((v224 q cc gc h u a b m).2) ∧ frm [162, 170, 178] [(162, 0), (162, 27)] h ((v224 q cc gc h u a b m).2) := by
  unfold v224
  show HC q cc gc ((v213 q cc gc ((v220 q cc gc (v211 q cc gc (fset h 162 0 (.int (nI 0))) u) a b m).2) u ((v220 q cc gc (v211 q cc gc (fset h 162 0 (.int (nI 0))) u) a b m).1)).2) ∧ frm [162, 170, 178] [(162, 0), (162, 27)] h ((v213 q cc gc ((v220 q cc gc (v211 q cc gc (fset h 162 0 (.int (nI 0))) u) a b m).2) u ((v220 q cc gc (v211 q cc gc (fset h 162 0 (.int (nI 0))) u) a b m).1)).2)
  exact ⟨(v213_fr (u := u) (v := ((v220 q cc gc (v211 q cc gc (fset h 162 0 (.int (nI 0))) u) a b m).1)) (v220_fr (a := a) (b := b) (m := m) (v211_fr (u := u) (hc_f rfl rfl (by decide) rfl hw) hu).1).1 hu).1, (fr_g rfl rfl (v213_fr (u := u) (v := ((v220 q cc gc (v211 q cc gc (fset h 162 0 (.int (nI 0))) u) a b m).1)) (v220_fr (a := a) (b := b) (m := m) (v211_fr (u := u) (hc_f rfl rfl (by decide) rfl hw) hu).1).1 hu).2 (fr_g rfl rfl (v220_fr (a := a) (b := b) (m := m) (v211_fr (u := u) (hc_f rfl rfl (by decide) rfl hw) hu).1).2 (fr_g rfl rfl (v211_fr (u := u) (hc_f rfl rfl (by decide) rfl hw) hu).2 (fr_f rfl rfl fr_0))))⟩
def v225 (q : QT) (cc gc : Nat) (h : pm_H) (u : Nat) (a : Nat) (b : Nat) : Int32 × pm_H := ((v213 q cc gc ((v221 q cc gc (v211 q cc gc (fset h 162 0 (.int (nI 0))) u) a b).2) u ((v221 q cc gc (v211 q cc gc (fset h 162 0 (.int (nI 0))) u) a b).1)).1, (v213 q cc gc ((v221 q cc gc (v211 q cc gc (fset h 162 0 (.int (nI 0))) u) a b).2) u ((v221 q cc gc (v211 q cc gc (fset h 162 0 (.int (nI 0))) u) a b).1)).2)
theorem v225_ok {n fr lo sl cc gc : Nat} {q : QT} {h : pm_H} {R : pm_Rs} {u : Nat} {a : Nat} {b : Nat} (hw : HC q cc gc h) (h_a : a < 10000) (h_b : b < 10000) (hu : u ≤ 15) (e1 : Fi h 162 27 = nI u) (hh : pm_run PT n fr lo 225 (0, pm_l0 [.ref 162, .int (nI a), .int (nI b)] 3, [], h, 198, sl) = some R) : R = (some (.int ((v225 q cc gc h u a b).1)), (v225 q cc gc h u a b).2, 198, sl) ∧ HC q cc gc ((v225 q cc gc h u a b).2) ∧ frm [162, 170, 178] [(162, 0), (162, 27)] h ((v225 q cc gc h u a b).2) := by
  have hcc := hw.cb
  have hgc := hw.gb
  have hzr := hw.zr
  obtain ⟨n, hh⟩ := rn_i rfl rfl rfl rfl hh
  obtain ⟨n, hh⟩ := rn_i rfl rfl rfl rfl hh
  have hh : pm_run PT n fr lo 225 (2, [some (.ref 162), some (.int (nI a)), some (.int (nI b))], [.int (nI 0), .ref 162], h, 198, sl) = some R := hh
  obtain ⟨n, hh⟩ := rn_pi hw.wt rfl rfl (by decide) rfl (by decide) rfl hh
  obtain ⟨n, hh⟩ := rn_i rfl rfl rfl rfl hh
  have hh : pm_run PT n fr lo 225 (6, [some (.ref 162), some (.int (nI a)), some (.int (nI b))], [.ref 162], fset h 162 0 (.int (nI 0)), 198, sl) = some R := hh
  obtain ⟨n, fr1, lo1, r1, hh1, hh⟩ := rn_call (w := 0) (t := 211) rfl rfl hh
  obtain ⟨er1, hc2, hf3⟩ := v211_ok (u := u) (hc_f rfl rfl (by decide) rfl hw) hu ((Fi_n (Or.inr (by decide))).trans e1) hh1
  subst er1
  obtain ⟨n, hh⟩ := rn_i rfl rfl rfl rfl hh
  obtain ⟨n, hh⟩ := rn_i rfl rfl rfl rfl hh
  obtain ⟨n, hh⟩ := rn_i rfl rfl rfl rfl hh
  obtain ⟨n, hh⟩ := rn_i rfl rfl rfl rfl hh
  have hh : pm_run PT n fr lo 225 (13, [some (.ref 162), some (.int (nI a)), some (.int (nI b))], [.int (nI b), .int (nI a), .ref 162, .ref 162], v211 q cc gc (fset h 162 0 (.int (nI 0))) u, 198, sl) = some R := hh
  obtain ⟨n, fr1, lo1, r1, hh1, hh⟩ := rn_call (w := 0) (t := 221) rfl rfl hh
  obtain ⟨er4, hc5, hf6⟩ := v221_ok (a := a) (b := b) hc2 (by omega) (by omega) hh1
  subst er4
  have hh : pm_run PT n fr lo 225 (16, [some (.ref 162), some (.int (nI a)), some (.int (nI b))], [.int ((v221 q cc gc (v211 q cc gc (fset h 162 0 (.int (nI 0))) u) a b).1), .ref 162], (v221 q cc gc (v211 q cc gc (fset h 162 0 (.int (nI 0))) u) a b).2, 198, sl) = some R := hh
  obtain ⟨n, fr1, lo1, r1, hh1, hh⟩ := rn_call (w := 0) (t := 213) rfl rfl hh
  obtain ⟨er7, hc8, hf9⟩ := v213_ok (u := u) (v := ((v221 q cc gc (v211 q cc gc (fset h 162 0 (.int (nI 0))) u) a b).1)) hc5 hu ((hf6.2 162 27 (by decide +kernel) rfl).trans ((hf3.2 162 27 (by decide +kernel) rfl).trans ((Fi_n (Or.inr (by decide))).trans e1))) hh1
  subst er7
  have hh : pm_run PT n fr lo 225 (19, [some (.ref 162), some (.int (nI a)), some (.int (nI b))], [.int ((v213 q cc gc ((v221 q cc gc (v211 q cc gc (fset h 162 0 (.int (nI 0))) u) a b).2) u ((v221 q cc gc (v211 q cc gc (fset h 162 0 (.int (nI 0))) u) a b).1)).1)], (v213 q cc gc ((v221 q cc gc (v211 q cc gc (fset h 162 0 (.int (nI 0))) u) a b).2) u ((v221 q cc gc (v211 q cc gc (fset h 162 0 (.int (nI 0))) u) a b).1)).2, 198, sl) = some R := hh
  have er10 : R = (some (.int ((v213 q cc gc ((v221 q cc gc (v211 q cc gc (fset h 162 0 (.int (nI 0))) u) a b).2) u ((v221 q cc gc (v211 q cc gc (fset h 162 0 (.int (nI 0))) u) a b).1)).1)), (v213 q cc gc ((v221 q cc gc (v211 q cc gc (fset h 162 0 (.int (nI 0))) u) a b).2) u ((v221 q cc gc (v211 q cc gc (fset h 162 0 (.int (nI 0))) u) a b).1)).2, 198, sl) := (rn_ret rfl (Or.inl rfl) hh).2
  have ed : v225 q cc gc h u a b = ((v213 q cc gc ((v221 q cc gc (v211 q cc gc (fset h 162 0 (.int (nI 0))) u) a b).2) u ((v221 q cc gc (v211 q cc gc (fset h 162 0 (.int (nI 0))) u) a b).1)).1, (v213 q cc gc ((v221 q cc gc (v211 q cc gc (fset h 162 0 (.int (nI 0))) u) a b).2) u ((v221 q cc gc (v211 q cc gc (fset h 162 0 (.int (nI 0))) u) a b).1)).2) := rfl
  refine ⟨?_, ?_, ?_⟩ <;> rw [ed]
  · exact er10
  · exact hc8
  · exact (fr_g rfl rfl hf9 (fr_g rfl rfl hf6 (fr_g rfl rfl hf3 (fr_f rfl rfl fr_0))))
theorem v225_fr {cc gc : Nat} {q : QT} {h : pm_H} {u : Nat} {a : Nat} {b : Nat} (hw : HC q cc gc h) (hu : u ≤ 15) : HC q cc gc ((v225 q cc gc h u a b).2) ∧ frm [162, 170, 178] [(162, 0), (162, 27)] h ((v225 q cc gc h u a b).2) := by
  unfold v225
  show HC q cc gc ((v213 q cc gc ((v221 q cc gc (v211 q cc gc (fset h 162 0 (.int (nI 0))) u) a b).2) u ((v221 q cc gc (v211 q cc gc (fset h 162 0 (.int (nI 0))) u) a b).1)).2) ∧ frm [162, 170, 178] [(162, 0), (162, 27)] h ((v213 q cc gc ((v221 q cc gc (v211 q cc gc (fset h 162 0 (.int (nI 0))) u) a b).2) u ((v221 q cc gc (v211 q cc gc (fset h 162 0 (.int (nI 0))) u) a b).1)).2)
  exact ⟨(v213_fr (u := u) (v := ((v221 q cc gc (v211 q cc gc (fset h 162 0 (.int (nI 0))) u) a b).1)) (v221_fr (a := a) (b := b) (v211_fr (u := u) (hc_f rfl rfl (by decide) rfl hw) hu).1).1 hu).1, (fr_g rfl rfl (v213_fr (u := u) (v := ((v221 q cc gc (v211 q cc gc (fset h 162 0 (.int (nI 0))) u) a b).1)) (v221_fr (a := a) (b := b) (v211_fr (u := u) (hc_f rfl rfl (by decide) rfl hw) hu).1).1 hu).2 (fr_g rfl rfl (v221_fr (a := a) (b := b) (v211_fr (u := u) (hc_f rfl rfl (by decide) rfl hw) hu).1).2 (fr_g rfl rfl (v211_fr (u := u) (hc_f rfl rfl (by decide) rfl hw) hu).2 (fr_f rfl rfl fr_0))))⟩
def v214_26b (q : QT) (cc gc : Nat) (h : pm_H) (z162_27 : Nat) (i : Nat) : pm_H := aset h 170 96 (upd (Ar h 170) i ((Ar h 178) (96 * z162_27 + i)))
def v214_26 (q : QT) (cc gc : Nat) (z162_27 : Nat) (j i : Nat) (a : pm_H) : pm_H := lp (fun i a => v214_26b q cc gc a z162_27 i) j i a
theorem v214_26_e {n fr lo sl cc gc : Nat} {q : QT} {h : pm_H} {R : pm_Rs} {z162_27 : Nat} {i : Nat} (hw : HC q cc gc h) (hz : z162_27 ≤ 15) (e1 : Fi h 162 27 = nI z162_27) (hi : 96 ≤ i) (hI : i < 1000000) (hh : pm_run PT n fr lo 214 (26, [some (.ref 162), some (.int (nI i))], [], h, 198, sl) = some R) : ∃ m, pm_run PT m fr lo 214 (58, [some (.ref 162), some (.int (nI i))], [], h, 198, sl) = some R := by
  have hcc := hw.cb
  have hgc := hw.gb
  have hzr := hw.zr
  obtain ⟨n, hh⟩ := rn_i rfl rfl rfl rfl hh
  obtain ⟨n, hh⟩ := rn_i rfl rfl rfl rfl hh
  have hh : pm_run PT n fr lo 214 (29, [some (.ref 162), some (.int (nI i))], [.int (nI 96), .int (nI i)], h, 198, sl) = some R := hh
  obtain ⟨n, hh⟩ := en_cn (cc := .ge) (off := 29) (t := 58) (b := decide (96 ≤ i)) (hI_ge (by omega) (by omega)) rfl rfl hh
  have hh := en_t (show decide (96 ≤ i) = true from decide_eq_true (by omega)) hh
  have hh : pm_run PT n fr lo 214 (58, [some (.ref 162), some (.int (nI i))], [], h, 198, sl) = some R := hh
  exact ⟨n, hh⟩
theorem v214_26_s {n fr lo sl cc gc : Nat} {q : QT} {h : pm_H} {R : pm_Rs} {z162_27 : Nat} {i : Nat} (hw : HC q cc gc h) (hz : z162_27 ≤ 15) (e1 : Fi h 162 27 = nI z162_27) (hi : i < 96) (hI : i < 1000000) (hh : pm_run PT n fr lo 214 (26, [some (.ref 162), some (.int (nI i))], [], h, 198, sl) = some R) : ∃ m, HC q cc gc ((v214_26b q cc gc h z162_27 i)) ∧ frm [170] [] h ((v214_26b q cc gc h z162_27 i)) ∧ Fi ((v214_26b q cc gc h z162_27 i)) 162 27 = nI z162_27 ∧ pm_run PT m fr lo 214 (26, [some (.ref 162), some (.int (nI (i + 1)))], [], (v214_26b q cc gc h z162_27 i), 198, sl) = some R := by
  have hcc := hw.cb
  have hgc := hw.gb
  have hzr := hw.zr
  obtain ⟨n, hh⟩ := rn_i rfl rfl rfl rfl hh
  obtain ⟨n, hh⟩ := rn_i rfl rfl rfl rfl hh
  have hh : pm_run PT n fr lo 214 (29, [some (.ref 162), some (.int (nI i))], [.int (nI 96), .int (nI i)], h, 198, sl) = some R := hh
  obtain ⟨n, hh⟩ := en_cn (cc := .ge) (off := 29) (t := 58) (b := decide (96 ≤ i)) (hI_ge (by omega) (by omega)) rfl rfl hh
  have hh := en_f (show decide (96 ≤ i) = false from decide_eq_false (by omega)) hh
  have hh : pm_run PT n fr lo 214 (32, [some (.ref 162), some (.int (nI i))], [], h, 198, sl) = some R := hh
  obtain ⟨n, hh⟩ := rn_i rfl rfl rfl rfl hh
  have hh : pm_run PT n fr lo 214 (33, [some (.ref 162), some (.int (nI i))], [.ref 162], h, 198, sl) = some R := hh
  obtain ⟨n, hh⟩ := rn_gr hw.wt rfl rfl (by decide) rfl (by decide) (show _ = some (2, ((170 : Nat) : Int), 1) from rfl) rfl hh
  obtain ⟨n, hh⟩ := rn_i rfl rfl rfl rfl hh
  obtain ⟨n, hh⟩ := rn_i rfl rfl rfl rfl hh
  have hh : pm_run PT n fr lo 214 (38, [some (.ref 162), some (.int (nI i))], [.ref 162, .int (nI i), .ref 170], h, 198, sl) = some R := hh
  obtain ⟨n, hh⟩ := rn_gr hw.wt rfl rfl (by decide) rfl (by decide) (show _ = some (2, ((178 : Nat) : Int), 1) from rfl) rfl hh
  obtain ⟨n, hh⟩ := rn_i rfl rfl rfl rfl hh
  obtain ⟨n, hh⟩ := rn_i rfl rfl rfl rfl hh
  have hh : pm_run PT n fr lo 214 (44, [some (.ref 162), some (.int (nI i))], [.ref 162, .int (nI 96), .ref 178, .int (nI i), .ref 170], h, 198, sl) = some R := hh
  obtain ⟨n, hh⟩ := rn_gi (x := nI z162_27) hw.wt rfl rfl (by decide) rfl (by decide) rfl e1 hh
  have hh : pm_run PT n fr lo 214 (47, [some (.ref 162), some (.int (nI i))], [.int (nI z162_27), .int (nI 96), .ref 178, .int (nI i), .ref 170], h, 198, sl) = some R := hh
  obtain ⟨n, hh⟩ := en_mul rfl hh
  have hh : pm_run PT n fr lo 214 (48, [some (.ref 162), some (.int (nI i))], [.int (nI (96 * z162_27)), .ref 178, .int (nI i), .ref 170], h, 198, sl) = some R := hh
  obtain ⟨n, hh⟩ := rn_i rfl rfl rfl rfl hh
  have hh : pm_run PT n fr lo 214 (49, [some (.ref 162), some (.int (nI i))], [.int (nI i), .int (nI (96 * z162_27)), .ref 178, .int (nI i), .ref 170], h, 198, sl) = some R := hh
  obtain ⟨n, hh⟩ := en_add rfl hh
  have hh : pm_run PT n fr lo 214 (50, [some (.ref 162), some (.int (nI i))], [.int (nI (96 * z162_27 + i)), .ref 178, .int (nI i), .ref 170], h, 198, sl) = some R := hh
  have hh : pm_run PT n fr lo 214 (50, [some (.ref 162), some (.int (nI i))], [.int (nI (96 * z162_27 + i)), .ref 178, .int (nI i), .ref 170], h, 198, sl) = some R := hh
  obtain ⟨n, hx3, hh⟩ := en_lu (t := 96 * z162_27 + i) (f := Ar h 178) (w := (Ar h 178) (96 * z162_27 + i)) (nI_clamp (by omega)) hw.wt rfl (by decide) rfl (by decide) rfl (fun _ => rfl) hh
  have hh : pm_run PT n fr lo 214 (51, [some (.ref 162), some (.int (nI i))], [.int ((Ar h 178) (96 * z162_27 + i)), .int (nI i), .ref 170], h, 198, sl) = some R := hh
  obtain ⟨n, hx4, hh⟩ := en_st (t := i) (f := Ar h 170) (nI_clamp (by omega)) hw.wt rfl (by decide) rfl (by decide) rfl hh
  have hh : pm_run PT n fr lo 214 (52, [some (.ref 162), some (.int (nI i))], [], aset h 170 96 (upd (Ar h 170) i ((Ar h 178) (96 * z162_27 + i))), 198, sl) = some R := hh
  obtain ⟨n, hh⟩ := en_inc (x := i) (c := 1) (j := 1) rfl rfl (by decide) hh
  have hh : pm_run PT n fr lo 214 (55, [some (.ref 162), some (.int (nI (i + 1)))], [], aset h 170 96 (upd (Ar h 170) i ((Ar h 178) (96 * z162_27 + i))), 198, sl) = some R := hh
  obtain ⟨n, hh⟩ := rn_i rfl rfl rfl rfl hh
  have ed : v214_26b q cc gc h z162_27 i = aset h 170 96 (upd (Ar h 170) i ((Ar h 178) (96 * z162_27 + i))) := rfl
  rw [ed]
  exact ⟨n, (hc_a rfl rfl hw), (fr_a rfl rfl fr_0), ((Fi_a (by decide)).trans e1), hh⟩
theorem v214_26_ok {fr lo sl cc gc : Nat} {q : QT} {R : pm_Rs} {z162_27 : Nat} : ∀ {j i : Nat} {h : pm_H} {n : Nat}, 96 - i = j → i + j < 1000000 → HC q cc gc h → z162_27 ≤ 15 → Fi h 162 27 = nI z162_27 → pm_run PT n fr lo 214 (26, [some (.ref 162), some (.int (nI i))], [], h, 198, sl) = some R → ∃ m wc, HC q cc gc ((v214_26 q cc gc z162_27 j i h)) ∧ frm [170] [] h ((v214_26 q cc gc z162_27 j i h)) ∧ Fi ((v214_26 q cc gc z162_27 j i h)) 162 27 = nI z162_27 ∧ pm_run PT m fr lo 214 (58, [some (.ref 162), wc], [], (v214_26 q cc gc z162_27 j i h), 198, sl) = some R := by
  intro j
  induction j with
  | zero =>
    intro i h n e eI hw hz e1 hh
    obtain ⟨n, hh⟩ := v214_26_e hw hz e1 (by omega) (by omega) hh
    exact ⟨n, _, hw, fr_0, e1, hh⟩
  | succ j ih =>
    intro i h n e eI hw hz e1 hh
    obtain ⟨n, hc, hf, e1', hh⟩ := v214_26_s hw hz e1 (by omega) (by omega) hh
    obtain ⟨n, wc, hc2, hf2, e1'', hh⟩ := ih (by omega) (by omega) hc hz e1' hh
    exact ⟨n, wc, hc2, fr_t hf2 hf, e1'', hh⟩
theorem v214_26_fb {cc gc : Nat} {q : QT} {h : pm_H} {z162_27 : Nat} {i : Nat} (hw : HC q cc gc h) (hz : z162_27 ≤ 15) : HC q cc gc ((v214_26b q cc gc h z162_27 i)) ∧ frm [170] [] h ((v214_26b q cc gc h z162_27 i)) := by
  unfold v214_26b
  show HC q cc gc (aset h 170 96 (upd (Ar h 170) i ((Ar h 178) (96 * z162_27 + i)))) ∧ frm [170] [] h (aset h 170 96 (upd (Ar h 170) i ((Ar h 178) (96 * z162_27 + i))))
  exact ⟨(hc_a rfl rfl hw), (fr_a rfl rfl fr_0)⟩
theorem v214_26_fr {cc gc : Nat} {q : QT} {z162_27 : Nat} (hz : z162_27 ≤ 15) : ∀ {j i : Nat} {h : pm_H}, HC q cc gc h → HC q cc gc ((v214_26 q cc gc z162_27 j i h)) ∧ frm [170] [] h ((v214_26 q cc gc z162_27 j i h)) := by
  intro j
  induction j with
  | zero =>
    intro i h hw
    exact ⟨hw, fr_0⟩
  | succ j ih =>
    intro i h hw
    obtain ⟨a1, a2⟩ := v214_26_fb (i := i) (z162_27 := z162_27) hw hz
    obtain ⟨b1, b2⟩ := ih (i := i + 1) a1
    exact ⟨b1, fr_t b2 a2⟩
def v214 (q : QT) (cc gc : Nat) (h : pm_H) (u : Nat) : Int32 × pm_H := cond (decide (¬ u = 0)) (nI (u - 1), (v214_26 q cc gc (u - 1) 96 0 (fset (fset h 162 0 (.int (nI 0))) 162 27 (.int (nI (u - 1)))))) ((Int32.ofInt (-1)), fset h 162 0 (.int (nI 0)))
theorem v214_ok {n fr lo sl cc gc : Nat} {q : QT} {h : pm_H} {R : pm_Rs} {u : Nat} (hw : HC q cc gc h) (hu : u ≤ 15) (e1 : Fi h 162 27 = nI u) (hh : pm_run PT n fr lo 214 (0, pm_l0 [.ref 162] 2, [], h, 198, sl) = some R) : R = (some (.int ((v214 q cc gc h u).1)), (v214 q cc gc h u).2, 198, sl) ∧ HC q cc gc ((v214 q cc gc h u).2) ∧ frm [162, 170] [(162, 0), (162, 27)] h ((v214 q cc gc h u).2) := by
  have hcc := hw.cb
  have hgc := hw.gb
  have hzr := hw.zr
  obtain ⟨n, hh⟩ := rn_i rfl rfl rfl rfl hh
  obtain ⟨n, hh⟩ := rn_i rfl rfl rfl rfl hh
  have hh : pm_run PT n fr lo 214 (2, [some (.ref 162), none], [.int (nI 0), .ref 162], h, 198, sl) = some R := hh
  obtain ⟨n, hh⟩ := rn_pi hw.wt rfl rfl (by decide) rfl (by decide) rfl hh
  obtain ⟨n, hh⟩ := rn_i rfl rfl rfl rfl hh
  have hh : pm_run PT n fr lo 214 (6, [some (.ref 162), none], [.ref 162], fset h 162 0 (.int (nI 0)), 198, sl) = some R := hh
  obtain ⟨n, hh⟩ := rn_gi (x := nI u) (hc_f rfl rfl (by decide) rfl hw).wt rfl rfl (by decide) rfl (by decide) rfl ((Fi_n (Or.inr (by decide))).trans e1) hh
  have hh : pm_run PT n fr lo 214 (9, [some (.ref 162), none], [.int (nI u)], fset h 162 0 (.int (nI 0)), 198, sl) = some R := hh
  obtain ⟨n, hh⟩ := en_zn (cc := .ne) (off := 5) (t := 14) (b := decide (¬ u = 0)) (hI_ne (b := 0) (by omega) (by omega)) rfl rfl hh
  cases z1 : decide (¬ u = 0) with
  | true =>
    have hh := en_t z1 hh
    have hh : pm_run PT n fr lo 214 (14, [some (.ref 162), none], [], fset h 162 0 (.int (nI 0)), 198, sl) = some R := hh
    have y2 := of_decide_eq_true z1
    obtain ⟨n, hh⟩ := rn_i rfl rfl rfl rfl hh
    obtain ⟨n, hh⟩ := rn_i rfl rfl rfl rfl hh
    have hh : pm_run PT n fr lo 214 (16, [some (.ref 162), none], [.ref 162, .ref 162], fset h 162 0 (.int (nI 0)), 198, sl) = some R := hh
    obtain ⟨n, hh⟩ := rn_gi (x := nI u) (hc_f rfl rfl (by decide) rfl hw).wt rfl rfl (by decide) rfl (by decide) rfl ((Fi_n (Or.inr (by decide))).trans e1) hh
    obtain ⟨n, hh⟩ := rn_i rfl rfl rfl rfl hh
    have hh : pm_run PT n fr lo 214 (20, [some (.ref 162), none], [.int (nI 1), .int (nI u), .ref 162], fset h 162 0 (.int (nI 0)), 198, sl) = some R := hh
    obtain ⟨n, hh⟩ := en_sub (x := u) (y := 1) (by omega) rfl hh
    have hh : pm_run PT n fr lo 214 (21, [some (.ref 162), none], [.int (nI (u - 1)), .ref 162], fset h 162 0 (.int (nI 0)), 198, sl) = some R := hh
    have hh : pm_run PT n fr lo 214 (21, [some (.ref 162), none], [.int (nI (u - 1)), .ref 162], fset h 162 0 (.int (nI 0)), 198, sl) = some R := hh
    obtain ⟨n, hh⟩ := rn_pi (hc_f rfl rfl (by decide) rfl hw).wt rfl rfl (by decide) rfl (by decide) rfl hh
    obtain ⟨n, hh⟩ := rn_i rfl rfl rfl rfl hh
    obtain ⟨n, hh⟩ := rn_i rfl rfl rfl rfl hh
    have hh : pm_run PT n fr lo 214 (26, [some (.ref 162), some (.int (nI 0))], [], fset (fset h 162 0 (.int (nI 0))) 162 27 (.int (nI (u - 1))), 198, sl) = some R := hh
    obtain ⟨n, u3, hc5, hf6, hn4, hh⟩ := v214_26_ok  (z162_27 := u - 1) (i := 0) (j := 96) (by omega) (by omega) (hc_f rfl rfl (by decide) rfl (hc_f rfl rfl (by decide) rfl hw)) (by omega) (show Fi (fset (fset h 162 0 (.int (nI 0))) 162 27 (.int (nI (u - 1)))) 162 27 = nI (u - 1) from (Fi_s (hc_f rfl rfl (by decide) rfl hw).wt (by decide) rfl (by decide) rfl)) hh
    have hh : pm_run PT n fr lo 214 (58, [some (.ref 162), u3], [], (v214_26 q cc gc (u - 1) 96 0 (fset (fset h 162 0 (.int (nI 0))) 162 27 (.int (nI (u - 1))))), 198, sl) = some R := hh
    obtain ⟨n, hh⟩ := rn_i rfl rfl rfl rfl hh
    have hh : pm_run PT n fr lo 214 (59, [some (.ref 162), u3], [.ref 162], (v214_26 q cc gc (u - 1) 96 0 (fset (fset h 162 0 (.int (nI 0))) 162 27 (.int (nI (u - 1))))), 198, sl) = some R := hh
    obtain ⟨n, hh⟩ := rn_gi (x := nI (u - 1)) hc5.wt rfl rfl (by decide) rfl (by decide) rfl hn4 hh
    have hh : pm_run PT n fr lo 214 (62, [some (.ref 162), u3], [.int (nI (u - 1))], (v214_26 q cc gc (u - 1) 96 0 (fset (fset h 162 0 (.int (nI 0))) 162 27 (.int (nI (u - 1))))), 198, sl) = some R := hh
    have er7 : R = (some (.int (nI (u - 1))), (v214_26 q cc gc (u - 1) 96 0 (fset (fset h 162 0 (.int (nI 0))) 162 27 (.int (nI (u - 1))))), 198, sl) := (rn_ret rfl (Or.inl rfl) hh).2
    have ed : v214 q cc gc h u = (nI (u - 1), (v214_26 q cc gc (u - 1) 96 0 (fset (fset h 162 0 (.int (nI 0))) 162 27 (.int (nI (u - 1)))))) := (ct z1).trans rfl
    refine ⟨?_, ?_, ?_⟩ <;> rw [ed]
    · exact er7
    · exact hc5
    · exact (fr_g rfl rfl hf6 (fr_f rfl rfl (fr_f rfl rfl fr_0)))
  | false =>
    have hh := en_f z1 hh
    have hh : pm_run PT n fr lo 214 (12, [some (.ref 162), none], [], fset h 162 0 (.int (nI 0)), 198, sl) = some R := hh
    have y8 := of_decide_eq_false z1
    obtain ⟨n, hh⟩ := rn_i rfl rfl rfl rfl hh
    have hh : pm_run PT n fr lo 214 (13, [some (.ref 162), none], [.int (Int32.ofInt (-1))], fset h 162 0 (.int (nI 0)), 198, sl) = some R := hh
    have er9 : R = (some (.int (Int32.ofInt (-1))), fset h 162 0 (.int (nI 0)), 198, sl) := (rn_ret rfl (Or.inl rfl) hh).2
    have ed : v214 q cc gc h u = ((Int32.ofInt (-1)), fset h 162 0 (.int (nI 0))) := (cf z1).trans rfl
    refine ⟨?_, ?_, ?_⟩ <;> rw [ed]
    · exact er9
    · exact (hc_f rfl rfl (by decide) rfl hw)
    · exact (fr_f rfl rfl fr_0)
theorem v214_fr {cc gc : Nat} {q : QT} {h : pm_H} {u : Nat} (hw : HC q cc gc h) (hu : u ≤ 15) : HC q cc gc ((v214 q cc gc h u).2) ∧ frm [162, 170] [(162, 0), (162, 27)] h ((v214 q cc gc h u).2) := by
  unfold v214
  refine cd_s (P := fun (p : Int32 × pm_H) => HC q cc gc ((p).2) ∧ frm [162, 170] [(162, 0), (162, 27)] h ((p).2)) (b := decide (¬ u = 0)) (fun _ => ?_) (fun _ => ?_)
  · show HC q cc gc ((v214_26 q cc gc (u - 1) 96 0 (fset (fset h 162 0 (.int (nI 0))) 162 27 (.int (nI (u - 1)))))) ∧ frm [162, 170] [(162, 0), (162, 27)] h ((v214_26 q cc gc (u - 1) 96 0 (fset (fset h 162 0 (.int (nI 0))) 162 27 (.int (nI (u - 1))))))
    exact ⟨(v214_26_fr (z162_27 := (u - 1)) (j := 96) (i := 0) (by omega) (hc_f rfl rfl (by decide) rfl (hc_f rfl rfl (by decide) rfl hw))).1, (fr_g rfl rfl (v214_26_fr (z162_27 := (u - 1)) (j := 96) (i := 0) (by omega) (hc_f rfl rfl (by decide) rfl (hc_f rfl rfl (by decide) rfl hw))).2 (fr_f rfl rfl (fr_f rfl rfl fr_0)))⟩
  · show HC q cc gc (fset h 162 0 (.int (nI 0))) ∧ frm [162, 170] [(162, 0), (162, 27)] h (fset h 162 0 (.int (nI 0)))
    exact ⟨(hc_f rfl rfl (by decide) rfl hw), (fr_f rfl rfl fr_0)⟩
def v210_43b (q : QT) (cc gc : Nat) (h : pm_H) (t1 : Int32) (t2 : Int32) (t3 : Int32) (t4 : Int32) (i : Nat) (x5 : Int32) : Int32 × pm_H := cond (pm_cmp .ne t1 0) (cond (pm_cmp .ne t1 (nI 1)) (cond (pm_cmp .eq t1 (nI 3)) (x5 + t4, aset h 170 96 (upd (Ar h 170) i (nI 0))) (cond (pm_cmp .lt (nI i) t2) (x5 + t4, aset h 170 96 (upd (Ar h 170) i (imax (nI 0) (imin (nI 999) x5)))) (x5 + t4, aset h 170 96 (upd (Ar h 170) i (nI 0))))) (cond (pm_cmp .eq t1 (nI 3)) (x5 + t4, aset h 170 96 (upd (Ar h 170) i (nI 0))) (cond (pm_cmp .lt (nI i) t2) (x5 + t4, aset h 170 96 (upd (Ar h 170) i (imax (nI 0) (imin (nI 999) ((x5).toInt16.toInt32))))) (x5 + t4, aset h 170 96 (upd (Ar h 170) i (nI 0)))))) (cond (pm_cmp .eq t1 (nI 3)) (x5 + t4, aset h 170 96 (upd (Ar h 170) i (nI 0))) (cond (pm_cmp .lt (nI i) t2) (x5 + t4, aset h 170 96 (upd (Ar h 170) i (imax (nI 0) (imin (nI 999) ((x5).toInt8.toInt32))))) (x5 + t4, aset h 170 96 (upd (Ar h 170) i (nI 0)))))
def v210_43 (q : QT) (cc gc : Nat) (t1 : Int32) (t2 : Int32) (t3 : Int32) (t4 : Int32) (j i : Nat) (a : Int32 × pm_H) : Int32 × pm_H := lp (fun i a => v210_43b q cc gc a.2 t1 t2 t3 t4 i a.1) j i a
theorem v210_43_e {n fr lo sl cc gc : Nat} {q : QT} {h : pm_H} {R : pm_Rs} {t1 : Int32} {t2 : Int32} {t3 : Int32} {t4 : Int32} {i : Nat} {x5 : Int32} {o7 : Option Value} (hw : HC q cc gc h) (hi : cc ≤ i) (hI : i < 1000000) (hh : pm_run PT n fr lo 210 (43, [some (.ref 162), some (.int t1), some (.int t2), some (.int t3), some (.int t4), some (.int x5), some (.int (nI i)), o7], [], h, 198, sl) = some R) : ∃ m, pm_run PT m fr lo 210 (124, [some (.ref 162), some (.int t1), some (.int t2), some (.int t3), some (.int t4), some (.int x5), some (.int (nI i)), o7], [], h, 198, sl) = some R := by
  have hcc := hw.cb
  have hgc := hw.gb
  have hzr := hw.zr
  obtain ⟨n, hh⟩ := rn_i rfl rfl rfl rfl hh
  obtain ⟨n, hh⟩ := rn_i rfl rfl rfl rfl hh
  have hh : pm_run PT n fr lo 210 (46, [some (.ref 162), some (.int t1), some (.int t2), some (.int t3), some (.int t4), some (.int x5), some (.int (nI i)), o7], [.ref 162, .int (nI i)], h, 198, sl) = some R := hh
  obtain ⟨n, hh⟩ := rn_gi (x := nI cc) hw.wt rfl rfl (by decide) rfl (by decide) rfl hw.m3 hh
  have hh : pm_run PT n fr lo 210 (49, [some (.ref 162), some (.int t1), some (.int t2), some (.int t3), some (.int t4), some (.int x5), some (.int (nI i)), o7], [.int (nI cc), .int (nI i)], h, 198, sl) = some R := hh
  obtain ⟨n, hh⟩ := en_cn (cc := .ge) (off := 75) (t := 124) (b := decide (cc ≤ i)) (hI_ge (by omega) (by omega)) rfl rfl hh
  have hh := en_t (show decide (cc ≤ i) = true from decide_eq_true (by omega)) hh
  have hh : pm_run PT n fr lo 210 (124, [some (.ref 162), some (.int t1), some (.int t2), some (.int t3), some (.int t4), some (.int x5), some (.int (nI i)), o7], [], h, 198, sl) = some R := hh
  exact ⟨n, hh⟩
theorem v210_43_s {n fr lo sl cc gc : Nat} {q : QT} {h : pm_H} {R : pm_Rs} {t1 : Int32} {t2 : Int32} {t3 : Int32} {t4 : Int32} {i : Nat} {x5 : Int32} {o7 : Option Value} (hw : HC q cc gc h) (hi : i < cc) (hI : i < 1000000) (hh : pm_run PT n fr lo 210 (43, [some (.ref 162), some (.int t1), some (.int t2), some (.int t3), some (.int t4), some (.int x5), some (.int (nI i)), o7], [], h, 198, sl) = some R) : ∃ m w7, HC q cc gc ((v210_43b q cc gc h t1 t2 t3 t4 i x5).2) ∧ frm [170] [] h ((v210_43b q cc gc h t1 t2 t3 t4 i x5).2) ∧ pm_run PT m fr lo 210 (43, [some (.ref 162), some (.int t1), some (.int t2), some (.int t3), some (.int t4), some (.int ((v210_43b q cc gc h t1 t2 t3 t4 i x5).1)), some (.int (nI (i + 1))), w7], [], (v210_43b q cc gc h t1 t2 t3 t4 i x5).2, 198, sl) = some R := by
  have hcc := hw.cb
  have hgc := hw.gb
  have hzr := hw.zr
  obtain ⟨n, hh⟩ := rn_i rfl rfl rfl rfl hh
  obtain ⟨n, hh⟩ := rn_i rfl rfl rfl rfl hh
  have hh : pm_run PT n fr lo 210 (46, [some (.ref 162), some (.int t1), some (.int t2), some (.int t3), some (.int t4), some (.int x5), some (.int (nI i)), o7], [.ref 162, .int (nI i)], h, 198, sl) = some R := hh
  obtain ⟨n, hh⟩ := rn_gi (x := nI cc) hw.wt rfl rfl (by decide) rfl (by decide) rfl hw.m3 hh
  have hh : pm_run PT n fr lo 210 (49, [some (.ref 162), some (.int t1), some (.int t2), some (.int t3), some (.int t4), some (.int x5), some (.int (nI i)), o7], [.int (nI cc), .int (nI i)], h, 198, sl) = some R := hh
  obtain ⟨n, hh⟩ := en_cn (cc := .ge) (off := 75) (t := 124) (b := decide (cc ≤ i)) (hI_ge (by omega) (by omega)) rfl rfl hh
  have hh := en_f (show decide (cc ≤ i) = false from decide_eq_false (by omega)) hh
  have hh : pm_run PT n fr lo 210 (52, [some (.ref 162), some (.int t1), some (.int t2), some (.int t3), some (.int t4), some (.int x5), some (.int (nI i)), o7], [], h, 198, sl) = some R := hh
  obtain ⟨n, hh⟩ := rn_i rfl rfl rfl rfl hh
  have hh : pm_run PT n fr lo 210 (53, [some (.ref 162), some (.int t1), some (.int t2), some (.int t3), some (.int t4), some (.int x5), some (.int (nI i)), o7], [.int t1], h, 198, sl) = some R := hh
  obtain ⟨n, hh⟩ := en_zn (cc := .ne) (off := 9) (t := 62) (b := pm_cmp .ne t1 0) rfl rfl rfl hh
  cases z5 : pm_cmp .ne t1 0 with
  | true =>
    have hh := en_t z5 hh
    have hh : pm_run PT n fr lo 210 (62, [some (.ref 162), some (.int t1), some (.int t2), some (.int t3), some (.int t4), some (.int x5), some (.int (nI i)), o7], [], h, 198, sl) = some R := hh
    obtain ⟨n, hh⟩ := rn_i rfl rfl rfl rfl hh
    obtain ⟨n, hh⟩ := rn_i rfl rfl rfl rfl hh
    have hh : pm_run PT n fr lo 210 (64, [some (.ref 162), some (.int t1), some (.int t2), some (.int t3), some (.int t4), some (.int x5), some (.int (nI i)), o7], [.int (nI 1), .int t1], h, 198, sl) = some R := hh
    obtain ⟨n, hh⟩ := en_cn (cc := .ne) (off := 9) (t := 73) (b := pm_cmp .ne t1 (nI 1)) rfl rfl rfl hh
    cases z6 : pm_cmp .ne t1 (nI 1) with
    | true =>
      have hh := en_t z6 hh
      have hh : pm_run PT n fr lo 210 (73, [some (.ref 162), some (.int t1), some (.int t2), some (.int t3), some (.int t4), some (.int x5), some (.int (nI i)), o7], [], h, 198, sl) = some R := hh
      obtain ⟨n, hh⟩ := rn_i rfl rfl rfl rfl hh
      obtain ⟨n, hh⟩ := rn_i rfl rfl rfl rfl hh
      obtain ⟨n, hh⟩ := rn_i rfl rfl rfl rfl hh
      have hh : pm_run PT n fr lo 210 (78, [some (.ref 162), some (.int t1), some (.int t2), some (.int t3), some (.int t4), some (.int x5), some (.int (nI i)), some (.int x5)], [.ref 162], h, 198, sl) = some R := hh
      obtain ⟨n, hh⟩ := rn_gr hw.wt rfl rfl (by decide) rfl (by decide) (show _ = some (2, ((170 : Nat) : Int), 1) from rfl) rfl hh
      obtain ⟨n, hh⟩ := rn_i rfl rfl rfl rfl hh
      obtain ⟨n, hh⟩ := rn_i rfl rfl rfl rfl hh
      obtain ⟨n, hh⟩ := rn_i rfl rfl rfl rfl hh
      have hh : pm_run PT n fr lo 210 (85, [some (.ref 162), some (.int t1), some (.int t2), some (.int t3), some (.int t4), some (.int x5), some (.int (nI i)), some (.int x5)], [.int (nI 3), .int t1, .int (nI i), .ref 170], h, 198, sl) = some R := hh
      obtain ⟨n, hh⟩ := en_cn (cc := .eq) (off := 9) (t := 94) (b := pm_cmp .eq t1 (nI 3)) rfl rfl rfl hh
      cases z7 : pm_cmp .eq t1 (nI 3) with
      | true =>
        have hh := en_t z7 hh
        have hh : pm_run PT n fr lo 210 (94, [some (.ref 162), some (.int t1), some (.int t2), some (.int t3), some (.int t4), some (.int x5), some (.int (nI i)), some (.int x5)], [.int (nI i), .ref 170], h, 198, sl) = some R := hh
        obtain ⟨n, hh⟩ := rn_i rfl rfl rfl rfl hh
        obtain ⟨n, hh⟩ := rn_i rfl rfl rfl rfl hh
        have hh : pm_run PT n fr lo 210 (110, [some (.ref 162), some (.int t1), some (.int t2), some (.int t3), some (.int t4), some (.int x5), some (.int (nI i)), some (.int x5)], [.int (nI 0), .int (nI i), .ref 170], h, 198, sl) = some R := hh
        obtain ⟨n, hx8, hh⟩ := en_st (t := i) (f := Ar h 170) (nI_clamp (by omega)) hw.wt rfl (by decide) rfl (by decide) rfl hh
        obtain ⟨n, hh⟩ := rn_i rfl rfl rfl rfl hh
        obtain ⟨n, hh⟩ := rn_i rfl rfl rfl rfl hh
        obtain ⟨n, hh⟩ := rn_i rfl rfl rfl rfl hh
        obtain ⟨n, hh⟩ := rn_i rfl rfl rfl rfl hh
        have hh : pm_run PT n fr lo 210 (118, [some (.ref 162), some (.int t1), some (.int t2), some (.int t3), some (.int t4), some (.int (x5 + t4)), some (.int (nI i)), some (.int x5)], [], aset h 170 96 (upd (Ar h 170) i (nI 0)), 198, sl) = some R := hh
        obtain ⟨n, hh⟩ := en_inc (x := i) (c := 1) (j := 6) rfl rfl (by decide) hh
        have hh : pm_run PT n fr lo 210 (121, [some (.ref 162), some (.int t1), some (.int t2), some (.int t3), some (.int t4), some (.int (x5 + t4)), some (.int (nI (i + 1))), some (.int x5)], [], aset h 170 96 (upd (Ar h 170) i (nI 0)), 198, sl) = some R := hh
        obtain ⟨n, hh⟩ := rn_i rfl rfl rfl rfl hh
        have ed : v210_43b q cc gc h t1 t2 t3 t4 i x5 = (x5 + t4, aset h 170 96 (upd (Ar h 170) i (nI 0))) := (ct z5).trans ((ct z6).trans ((ct z7).trans rfl))
        rw [ed]
        exact ⟨n, some (.int x5), (hc_a rfl rfl hw), (fr_a rfl rfl fr_0), hh⟩
      | false =>
        have hh := en_f z7 hh
        have hh : pm_run PT n fr lo 210 (88, [some (.ref 162), some (.int t1), some (.int t2), some (.int t3), some (.int t4), some (.int x5), some (.int (nI i)), some (.int x5)], [.int (nI i), .ref 170], h, 198, sl) = some R := hh
        obtain ⟨n, hh⟩ := rn_i rfl rfl rfl rfl hh
        obtain ⟨n, hh⟩ := rn_i rfl rfl rfl rfl hh
        have hh : pm_run PT n fr lo 210 (91, [some (.ref 162), some (.int t1), some (.int t2), some (.int t3), some (.int t4), some (.int x5), some (.int (nI i)), some (.int x5)], [.int t2, .int (nI i), .int (nI i), .ref 170], h, 198, sl) = some R := hh
        obtain ⟨n, hh⟩ := en_cn (cc := .lt) (off := 7) (t := 98) (b := pm_cmp .lt (nI i) t2) rfl rfl rfl hh
        cases z9 : pm_cmp .lt (nI i) t2 with
        | true =>
          have hh := en_t z9 hh
          have hh : pm_run PT n fr lo 210 (98, [some (.ref 162), some (.int t1), some (.int t2), some (.int t3), some (.int t4), some (.int x5), some (.int (nI i)), some (.int x5)], [.int (nI i), .ref 170], h, 198, sl) = some R := hh
          obtain ⟨n, hh⟩ := rn_i rfl rfl rfl rfl hh
          obtain ⟨n, hh⟩ := rn_i rfl rfl rfl rfl hh
          obtain ⟨n, hh⟩ := rn_i rfl rfl rfl rfl hh
          have hh : pm_run PT n fr lo 210 (104, [some (.ref 162), some (.int t1), some (.int t2), some (.int t3), some (.int t4), some (.int x5), some (.int (nI i)), some (.int x5)], [.int x5, .int (nI 999), .int (nI 0), .int (nI i), .ref 170], h, 198, sl) = some R := hh
          obtain ⟨n, hh⟩ := en_min rfl rfl rfl hh
          have hh : pm_run PT n fr lo 210 (107, [some (.ref 162), some (.int t1), some (.int t2), some (.int t3), some (.int t4), some (.int x5), some (.int (nI i)), some (.int x5)], [.int (imin (nI 999) x5), .int (nI 0), .int (nI i), .ref 170], h, 198, sl) = some R := hh
          obtain ⟨n, hh⟩ := en_max rfl rfl rfl hh
          have hh : pm_run PT n fr lo 210 (110, [some (.ref 162), some (.int t1), some (.int t2), some (.int t3), some (.int t4), some (.int x5), some (.int (nI i)), some (.int x5)], [.int (imax (nI 0) (imin (nI 999) x5)), .int (nI i), .ref 170], h, 198, sl) = some R := hh
          obtain ⟨n, hx10, hh⟩ := en_st (t := i) (f := Ar h 170) (nI_clamp (by omega)) hw.wt rfl (by decide) rfl (by decide) rfl hh
          obtain ⟨n, hh⟩ := rn_i rfl rfl rfl rfl hh
          obtain ⟨n, hh⟩ := rn_i rfl rfl rfl rfl hh
          obtain ⟨n, hh⟩ := rn_i rfl rfl rfl rfl hh
          obtain ⟨n, hh⟩ := rn_i rfl rfl rfl rfl hh
          have hh : pm_run PT n fr lo 210 (118, [some (.ref 162), some (.int t1), some (.int t2), some (.int t3), some (.int t4), some (.int (x5 + t4)), some (.int (nI i)), some (.int x5)], [], aset h 170 96 (upd (Ar h 170) i (imax (nI 0) (imin (nI 999) x5))), 198, sl) = some R := hh
          obtain ⟨n, hh⟩ := en_inc (x := i) (c := 1) (j := 6) rfl rfl (by decide) hh
          have hh : pm_run PT n fr lo 210 (121, [some (.ref 162), some (.int t1), some (.int t2), some (.int t3), some (.int t4), some (.int (x5 + t4)), some (.int (nI (i + 1))), some (.int x5)], [], aset h 170 96 (upd (Ar h 170) i (imax (nI 0) (imin (nI 999) x5))), 198, sl) = some R := hh
          obtain ⟨n, hh⟩ := rn_i rfl rfl rfl rfl hh
          have ed : v210_43b q cc gc h t1 t2 t3 t4 i x5 = (x5 + t4, aset h 170 96 (upd (Ar h 170) i (imax (nI 0) (imin (nI 999) x5)))) := (ct z5).trans ((ct z6).trans ((cf z7).trans ((ct z9).trans rfl)))
          rw [ed]
          exact ⟨n, some (.int x5), (hc_a rfl rfl hw), (fr_a rfl rfl fr_0), hh⟩
        | false =>
          have hh := en_f z9 hh
          have hh : pm_run PT n fr lo 210 (94, [some (.ref 162), some (.int t1), some (.int t2), some (.int t3), some (.int t4), some (.int x5), some (.int (nI i)), some (.int x5)], [.int (nI i), .ref 170], h, 198, sl) = some R := hh
          obtain ⟨n, hh⟩ := rn_i rfl rfl rfl rfl hh
          obtain ⟨n, hh⟩ := rn_i rfl rfl rfl rfl hh
          have hh : pm_run PT n fr lo 210 (110, [some (.ref 162), some (.int t1), some (.int t2), some (.int t3), some (.int t4), some (.int x5), some (.int (nI i)), some (.int x5)], [.int (nI 0), .int (nI i), .ref 170], h, 198, sl) = some R := hh
          obtain ⟨n, hx11, hh⟩ := en_st (t := i) (f := Ar h 170) (nI_clamp (by omega)) hw.wt rfl (by decide) rfl (by decide) rfl hh
          obtain ⟨n, hh⟩ := rn_i rfl rfl rfl rfl hh
          obtain ⟨n, hh⟩ := rn_i rfl rfl rfl rfl hh
          obtain ⟨n, hh⟩ := rn_i rfl rfl rfl rfl hh
          obtain ⟨n, hh⟩ := rn_i rfl rfl rfl rfl hh
          have hh : pm_run PT n fr lo 210 (118, [some (.ref 162), some (.int t1), some (.int t2), some (.int t3), some (.int t4), some (.int (x5 + t4)), some (.int (nI i)), some (.int x5)], [], aset h 170 96 (upd (Ar h 170) i (nI 0)), 198, sl) = some R := hh
          obtain ⟨n, hh⟩ := en_inc (x := i) (c := 1) (j := 6) rfl rfl (by decide) hh
          have hh : pm_run PT n fr lo 210 (121, [some (.ref 162), some (.int t1), some (.int t2), some (.int t3), some (.int t4), some (.int (x5 + t4)), some (.int (nI (i + 1))), some (.int x5)], [], aset h 170 96 (upd (Ar h 170) i (nI 0)), 198, sl) = some R := hh
          obtain ⟨n, hh⟩ := rn_i rfl rfl rfl rfl hh
          have ed : v210_43b q cc gc h t1 t2 t3 t4 i x5 = (x5 + t4, aset h 170 96 (upd (Ar h 170) i (nI 0))) := (ct z5).trans ((ct z6).trans ((cf z7).trans ((cf z9).trans rfl)))
          rw [ed]
          exact ⟨n, some (.int x5), (hc_a rfl rfl hw), (fr_a rfl rfl fr_0), hh⟩
    | false =>
      have hh := en_f z6 hh
      have hh : pm_run PT n fr lo 210 (67, [some (.ref 162), some (.int t1), some (.int t2), some (.int t3), some (.int t4), some (.int x5), some (.int (nI i)), o7], [], h, 198, sl) = some R := hh
      obtain ⟨n, hh⟩ := rn_i rfl rfl rfl rfl hh
      obtain ⟨n, hh⟩ := rn_i rfl rfl rfl rfl hh
      obtain ⟨n, hh⟩ := rn_i rfl rfl rfl rfl hh
      obtain ⟨n, hh⟩ := rn_i rfl rfl rfl rfl hh
      obtain ⟨n, hh⟩ := rn_i rfl rfl rfl rfl hh
      have hh : pm_run PT n fr lo 210 (78, [some (.ref 162), some (.int t1), some (.int t2), some (.int t3), some (.int t4), some (.int x5), some (.int (nI i)), some (.int ((x5).toInt16.toInt32))], [.ref 162], h, 198, sl) = some R := hh
      obtain ⟨n, hh⟩ := rn_gr hw.wt rfl rfl (by decide) rfl (by decide) (show _ = some (2, ((170 : Nat) : Int), 1) from rfl) rfl hh
      obtain ⟨n, hh⟩ := rn_i rfl rfl rfl rfl hh
      obtain ⟨n, hh⟩ := rn_i rfl rfl rfl rfl hh
      obtain ⟨n, hh⟩ := rn_i rfl rfl rfl rfl hh
      have hh : pm_run PT n fr lo 210 (85, [some (.ref 162), some (.int t1), some (.int t2), some (.int t3), some (.int t4), some (.int x5), some (.int (nI i)), some (.int ((x5).toInt16.toInt32))], [.int (nI 3), .int t1, .int (nI i), .ref 170], h, 198, sl) = some R := hh
      obtain ⟨n, hh⟩ := en_cn (cc := .eq) (off := 9) (t := 94) (b := pm_cmp .eq t1 (nI 3)) rfl rfl rfl hh
      cases z12 : pm_cmp .eq t1 (nI 3) with
      | true =>
        have hh := en_t z12 hh
        have hh : pm_run PT n fr lo 210 (94, [some (.ref 162), some (.int t1), some (.int t2), some (.int t3), some (.int t4), some (.int x5), some (.int (nI i)), some (.int ((x5).toInt16.toInt32))], [.int (nI i), .ref 170], h, 198, sl) = some R := hh
        obtain ⟨n, hh⟩ := rn_i rfl rfl rfl rfl hh
        obtain ⟨n, hh⟩ := rn_i rfl rfl rfl rfl hh
        have hh : pm_run PT n fr lo 210 (110, [some (.ref 162), some (.int t1), some (.int t2), some (.int t3), some (.int t4), some (.int x5), some (.int (nI i)), some (.int ((x5).toInt16.toInt32))], [.int (nI 0), .int (nI i), .ref 170], h, 198, sl) = some R := hh
        obtain ⟨n, hx13, hh⟩ := en_st (t := i) (f := Ar h 170) (nI_clamp (by omega)) hw.wt rfl (by decide) rfl (by decide) rfl hh
        obtain ⟨n, hh⟩ := rn_i rfl rfl rfl rfl hh
        obtain ⟨n, hh⟩ := rn_i rfl rfl rfl rfl hh
        obtain ⟨n, hh⟩ := rn_i rfl rfl rfl rfl hh
        obtain ⟨n, hh⟩ := rn_i rfl rfl rfl rfl hh
        have hh : pm_run PT n fr lo 210 (118, [some (.ref 162), some (.int t1), some (.int t2), some (.int t3), some (.int t4), some (.int (x5 + t4)), some (.int (nI i)), some (.int ((x5).toInt16.toInt32))], [], aset h 170 96 (upd (Ar h 170) i (nI 0)), 198, sl) = some R := hh
        obtain ⟨n, hh⟩ := en_inc (x := i) (c := 1) (j := 6) rfl rfl (by decide) hh
        have hh : pm_run PT n fr lo 210 (121, [some (.ref 162), some (.int t1), some (.int t2), some (.int t3), some (.int t4), some (.int (x5 + t4)), some (.int (nI (i + 1))), some (.int ((x5).toInt16.toInt32))], [], aset h 170 96 (upd (Ar h 170) i (nI 0)), 198, sl) = some R := hh
        obtain ⟨n, hh⟩ := rn_i rfl rfl rfl rfl hh
        have ed : v210_43b q cc gc h t1 t2 t3 t4 i x5 = (x5 + t4, aset h 170 96 (upd (Ar h 170) i (nI 0))) := (ct z5).trans ((cf z6).trans ((ct z12).trans rfl))
        rw [ed]
        exact ⟨n, some (.int ((x5).toInt16.toInt32)), (hc_a rfl rfl hw), (fr_a rfl rfl fr_0), hh⟩
      | false =>
        have hh := en_f z12 hh
        have hh : pm_run PT n fr lo 210 (88, [some (.ref 162), some (.int t1), some (.int t2), some (.int t3), some (.int t4), some (.int x5), some (.int (nI i)), some (.int ((x5).toInt16.toInt32))], [.int (nI i), .ref 170], h, 198, sl) = some R := hh
        obtain ⟨n, hh⟩ := rn_i rfl rfl rfl rfl hh
        obtain ⟨n, hh⟩ := rn_i rfl rfl rfl rfl hh
        have hh : pm_run PT n fr lo 210 (91, [some (.ref 162), some (.int t1), some (.int t2), some (.int t3), some (.int t4), some (.int x5), some (.int (nI i)), some (.int ((x5).toInt16.toInt32))], [.int t2, .int (nI i), .int (nI i), .ref 170], h, 198, sl) = some R := hh
        obtain ⟨n, hh⟩ := en_cn (cc := .lt) (off := 7) (t := 98) (b := pm_cmp .lt (nI i) t2) rfl rfl rfl hh
        cases z14 : pm_cmp .lt (nI i) t2 with
        | true =>
          have hh := en_t z14 hh
          have hh : pm_run PT n fr lo 210 (98, [some (.ref 162), some (.int t1), some (.int t2), some (.int t3), some (.int t4), some (.int x5), some (.int (nI i)), some (.int ((x5).toInt16.toInt32))], [.int (nI i), .ref 170], h, 198, sl) = some R := hh
          obtain ⟨n, hh⟩ := rn_i rfl rfl rfl rfl hh
          obtain ⟨n, hh⟩ := rn_i rfl rfl rfl rfl hh
          obtain ⟨n, hh⟩ := rn_i rfl rfl rfl rfl hh
          have hh : pm_run PT n fr lo 210 (104, [some (.ref 162), some (.int t1), some (.int t2), some (.int t3), some (.int t4), some (.int x5), some (.int (nI i)), some (.int ((x5).toInt16.toInt32))], [.int ((x5).toInt16.toInt32), .int (nI 999), .int (nI 0), .int (nI i), .ref 170], h, 198, sl) = some R := hh
          obtain ⟨n, hh⟩ := en_min rfl rfl rfl hh
          have hh : pm_run PT n fr lo 210 (107, [some (.ref 162), some (.int t1), some (.int t2), some (.int t3), some (.int t4), some (.int x5), some (.int (nI i)), some (.int ((x5).toInt16.toInt32))], [.int (imin (nI 999) ((x5).toInt16.toInt32)), .int (nI 0), .int (nI i), .ref 170], h, 198, sl) = some R := hh
          obtain ⟨n, hh⟩ := en_max rfl rfl rfl hh
          have hh : pm_run PT n fr lo 210 (110, [some (.ref 162), some (.int t1), some (.int t2), some (.int t3), some (.int t4), some (.int x5), some (.int (nI i)), some (.int ((x5).toInt16.toInt32))], [.int (imax (nI 0) (imin (nI 999) ((x5).toInt16.toInt32))), .int (nI i), .ref 170], h, 198, sl) = some R := hh
          obtain ⟨n, hx15, hh⟩ := en_st (t := i) (f := Ar h 170) (nI_clamp (by omega)) hw.wt rfl (by decide) rfl (by decide) rfl hh
          obtain ⟨n, hh⟩ := rn_i rfl rfl rfl rfl hh
          obtain ⟨n, hh⟩ := rn_i rfl rfl rfl rfl hh
          obtain ⟨n, hh⟩ := rn_i rfl rfl rfl rfl hh
          obtain ⟨n, hh⟩ := rn_i rfl rfl rfl rfl hh
          have hh : pm_run PT n fr lo 210 (118, [some (.ref 162), some (.int t1), some (.int t2), some (.int t3), some (.int t4), some (.int (x5 + t4)), some (.int (nI i)), some (.int ((x5).toInt16.toInt32))], [], aset h 170 96 (upd (Ar h 170) i (imax (nI 0) (imin (nI 999) ((x5).toInt16.toInt32)))), 198, sl) = some R := hh
          obtain ⟨n, hh⟩ := en_inc (x := i) (c := 1) (j := 6) rfl rfl (by decide) hh
          have hh : pm_run PT n fr lo 210 (121, [some (.ref 162), some (.int t1), some (.int t2), some (.int t3), some (.int t4), some (.int (x5 + t4)), some (.int (nI (i + 1))), some (.int ((x5).toInt16.toInt32))], [], aset h 170 96 (upd (Ar h 170) i (imax (nI 0) (imin (nI 999) ((x5).toInt16.toInt32)))), 198, sl) = some R := hh
          obtain ⟨n, hh⟩ := rn_i rfl rfl rfl rfl hh
          have ed : v210_43b q cc gc h t1 t2 t3 t4 i x5 = (x5 + t4, aset h 170 96 (upd (Ar h 170) i (imax (nI 0) (imin (nI 999) ((x5).toInt16.toInt32))))) := (ct z5).trans ((cf z6).trans ((cf z12).trans ((ct z14).trans rfl)))
          rw [ed]
          exact ⟨n, some (.int ((x5).toInt16.toInt32)), (hc_a rfl rfl hw), (fr_a rfl rfl fr_0), hh⟩
        | false =>
          have hh := en_f z14 hh
          have hh : pm_run PT n fr lo 210 (94, [some (.ref 162), some (.int t1), some (.int t2), some (.int t3), some (.int t4), some (.int x5), some (.int (nI i)), some (.int ((x5).toInt16.toInt32))], [.int (nI i), .ref 170], h, 198, sl) = some R := hh
          obtain ⟨n, hh⟩ := rn_i rfl rfl rfl rfl hh
          obtain ⟨n, hh⟩ := rn_i rfl rfl rfl rfl hh
          have hh : pm_run PT n fr lo 210 (110, [some (.ref 162), some (.int t1), some (.int t2), some (.int t3), some (.int t4), some (.int x5), some (.int (nI i)), some (.int ((x5).toInt16.toInt32))], [.int (nI 0), .int (nI i), .ref 170], h, 198, sl) = some R := hh
          obtain ⟨n, hx16, hh⟩ := en_st (t := i) (f := Ar h 170) (nI_clamp (by omega)) hw.wt rfl (by decide) rfl (by decide) rfl hh
          obtain ⟨n, hh⟩ := rn_i rfl rfl rfl rfl hh
          obtain ⟨n, hh⟩ := rn_i rfl rfl rfl rfl hh
          obtain ⟨n, hh⟩ := rn_i rfl rfl rfl rfl hh
          obtain ⟨n, hh⟩ := rn_i rfl rfl rfl rfl hh
          have hh : pm_run PT n fr lo 210 (118, [some (.ref 162), some (.int t1), some (.int t2), some (.int t3), some (.int t4), some (.int (x5 + t4)), some (.int (nI i)), some (.int ((x5).toInt16.toInt32))], [], aset h 170 96 (upd (Ar h 170) i (nI 0)), 198, sl) = some R := hh
          obtain ⟨n, hh⟩ := en_inc (x := i) (c := 1) (j := 6) rfl rfl (by decide) hh
          have hh : pm_run PT n fr lo 210 (121, [some (.ref 162), some (.int t1), some (.int t2), some (.int t3), some (.int t4), some (.int (x5 + t4)), some (.int (nI (i + 1))), some (.int ((x5).toInt16.toInt32))], [], aset h 170 96 (upd (Ar h 170) i (nI 0)), 198, sl) = some R := hh
          obtain ⟨n, hh⟩ := rn_i rfl rfl rfl rfl hh
          have ed : v210_43b q cc gc h t1 t2 t3 t4 i x5 = (x5 + t4, aset h 170 96 (upd (Ar h 170) i (nI 0))) := (ct z5).trans ((cf z6).trans ((cf z12).trans ((cf z14).trans rfl)))
          rw [ed]
          exact ⟨n, some (.int ((x5).toInt16.toInt32)), (hc_a rfl rfl hw), (fr_a rfl rfl fr_0), hh⟩
  | false =>
    have hh := en_f z5 hh
    have hh : pm_run PT n fr lo 210 (56, [some (.ref 162), some (.int t1), some (.int t2), some (.int t3), some (.int t4), some (.int x5), some (.int (nI i)), o7], [], h, 198, sl) = some R := hh
    obtain ⟨n, hh⟩ := rn_i rfl rfl rfl rfl hh
    obtain ⟨n, hh⟩ := rn_i rfl rfl rfl rfl hh
    obtain ⟨n, hh⟩ := rn_i rfl rfl rfl rfl hh
    obtain ⟨n, hh⟩ := rn_i rfl rfl rfl rfl hh
    obtain ⟨n, hh⟩ := rn_i rfl rfl rfl rfl hh
    have hh : pm_run PT n fr lo 210 (78, [some (.ref 162), some (.int t1), some (.int t2), some (.int t3), some (.int t4), some (.int x5), some (.int (nI i)), some (.int ((x5).toInt8.toInt32))], [.ref 162], h, 198, sl) = some R := hh
    obtain ⟨n, hh⟩ := rn_gr hw.wt rfl rfl (by decide) rfl (by decide) (show _ = some (2, ((170 : Nat) : Int), 1) from rfl) rfl hh
    obtain ⟨n, hh⟩ := rn_i rfl rfl rfl rfl hh
    obtain ⟨n, hh⟩ := rn_i rfl rfl rfl rfl hh
    obtain ⟨n, hh⟩ := rn_i rfl rfl rfl rfl hh
    have hh : pm_run PT n fr lo 210 (85, [some (.ref 162), some (.int t1), some (.int t2), some (.int t3), some (.int t4), some (.int x5), some (.int (nI i)), some (.int ((x5).toInt8.toInt32))], [.int (nI 3), .int t1, .int (nI i), .ref 170], h, 198, sl) = some R := hh
    obtain ⟨n, hh⟩ := en_cn (cc := .eq) (off := 9) (t := 94) (b := pm_cmp .eq t1 (nI 3)) rfl rfl rfl hh
    cases z17 : pm_cmp .eq t1 (nI 3) with
    | true =>
      have hh := en_t z17 hh
      have hh : pm_run PT n fr lo 210 (94, [some (.ref 162), some (.int t1), some (.int t2), some (.int t3), some (.int t4), some (.int x5), some (.int (nI i)), some (.int ((x5).toInt8.toInt32))], [.int (nI i), .ref 170], h, 198, sl) = some R := hh
      obtain ⟨n, hh⟩ := rn_i rfl rfl rfl rfl hh
      obtain ⟨n, hh⟩ := rn_i rfl rfl rfl rfl hh
      have hh : pm_run PT n fr lo 210 (110, [some (.ref 162), some (.int t1), some (.int t2), some (.int t3), some (.int t4), some (.int x5), some (.int (nI i)), some (.int ((x5).toInt8.toInt32))], [.int (nI 0), .int (nI i), .ref 170], h, 198, sl) = some R := hh
      obtain ⟨n, hx18, hh⟩ := en_st (t := i) (f := Ar h 170) (nI_clamp (by omega)) hw.wt rfl (by decide) rfl (by decide) rfl hh
      obtain ⟨n, hh⟩ := rn_i rfl rfl rfl rfl hh
      obtain ⟨n, hh⟩ := rn_i rfl rfl rfl rfl hh
      obtain ⟨n, hh⟩ := rn_i rfl rfl rfl rfl hh
      obtain ⟨n, hh⟩ := rn_i rfl rfl rfl rfl hh
      have hh : pm_run PT n fr lo 210 (118, [some (.ref 162), some (.int t1), some (.int t2), some (.int t3), some (.int t4), some (.int (x5 + t4)), some (.int (nI i)), some (.int ((x5).toInt8.toInt32))], [], aset h 170 96 (upd (Ar h 170) i (nI 0)), 198, sl) = some R := hh
      obtain ⟨n, hh⟩ := en_inc (x := i) (c := 1) (j := 6) rfl rfl (by decide) hh
      have hh : pm_run PT n fr lo 210 (121, [some (.ref 162), some (.int t1), some (.int t2), some (.int t3), some (.int t4), some (.int (x5 + t4)), some (.int (nI (i + 1))), some (.int ((x5).toInt8.toInt32))], [], aset h 170 96 (upd (Ar h 170) i (nI 0)), 198, sl) = some R := hh
      obtain ⟨n, hh⟩ := rn_i rfl rfl rfl rfl hh
      have ed : v210_43b q cc gc h t1 t2 t3 t4 i x5 = (x5 + t4, aset h 170 96 (upd (Ar h 170) i (nI 0))) := (cf z5).trans ((ct z17).trans rfl)
      rw [ed]
      exact ⟨n, some (.int ((x5).toInt8.toInt32)), (hc_a rfl rfl hw), (fr_a rfl rfl fr_0), hh⟩
    | false =>
      have hh := en_f z17 hh
      have hh : pm_run PT n fr lo 210 (88, [some (.ref 162), some (.int t1), some (.int t2), some (.int t3), some (.int t4), some (.int x5), some (.int (nI i)), some (.int ((x5).toInt8.toInt32))], [.int (nI i), .ref 170], h, 198, sl) = some R := hh
      obtain ⟨n, hh⟩ := rn_i rfl rfl rfl rfl hh
      obtain ⟨n, hh⟩ := rn_i rfl rfl rfl rfl hh
      have hh : pm_run PT n fr lo 210 (91, [some (.ref 162), some (.int t1), some (.int t2), some (.int t3), some (.int t4), some (.int x5), some (.int (nI i)), some (.int ((x5).toInt8.toInt32))], [.int t2, .int (nI i), .int (nI i), .ref 170], h, 198, sl) = some R := hh
      obtain ⟨n, hh⟩ := en_cn (cc := .lt) (off := 7) (t := 98) (b := pm_cmp .lt (nI i) t2) rfl rfl rfl hh
      cases z19 : pm_cmp .lt (nI i) t2 with
      | true =>
        have hh := en_t z19 hh
        have hh : pm_run PT n fr lo 210 (98, [some (.ref 162), some (.int t1), some (.int t2), some (.int t3), some (.int t4), some (.int x5), some (.int (nI i)), some (.int ((x5).toInt8.toInt32))], [.int (nI i), .ref 170], h, 198, sl) = some R := hh
        obtain ⟨n, hh⟩ := rn_i rfl rfl rfl rfl hh
        obtain ⟨n, hh⟩ := rn_i rfl rfl rfl rfl hh
        obtain ⟨n, hh⟩ := rn_i rfl rfl rfl rfl hh
        have hh : pm_run PT n fr lo 210 (104, [some (.ref 162), some (.int t1), some (.int t2), some (.int t3), some (.int t4), some (.int x5), some (.int (nI i)), some (.int ((x5).toInt8.toInt32))], [.int ((x5).toInt8.toInt32), .int (nI 999), .int (nI 0), .int (nI i), .ref 170], h, 198, sl) = some R := hh
        obtain ⟨n, hh⟩ := en_min rfl rfl rfl hh
        have hh : pm_run PT n fr lo 210 (107, [some (.ref 162), some (.int t1), some (.int t2), some (.int t3), some (.int t4), some (.int x5), some (.int (nI i)), some (.int ((x5).toInt8.toInt32))], [.int (imin (nI 999) ((x5).toInt8.toInt32)), .int (nI 0), .int (nI i), .ref 170], h, 198, sl) = some R := hh
        obtain ⟨n, hh⟩ := en_max rfl rfl rfl hh
        have hh : pm_run PT n fr lo 210 (110, [some (.ref 162), some (.int t1), some (.int t2), some (.int t3), some (.int t4), some (.int x5), some (.int (nI i)), some (.int ((x5).toInt8.toInt32))], [.int (imax (nI 0) (imin (nI 999) ((x5).toInt8.toInt32))), .int (nI i), .ref 170], h, 198, sl) = some R := hh
        obtain ⟨n, hx20, hh⟩ := en_st (t := i) (f := Ar h 170) (nI_clamp (by omega)) hw.wt rfl (by decide) rfl (by decide) rfl hh
        obtain ⟨n, hh⟩ := rn_i rfl rfl rfl rfl hh
        obtain ⟨n, hh⟩ := rn_i rfl rfl rfl rfl hh
        obtain ⟨n, hh⟩ := rn_i rfl rfl rfl rfl hh
        obtain ⟨n, hh⟩ := rn_i rfl rfl rfl rfl hh
        have hh : pm_run PT n fr lo 210 (118, [some (.ref 162), some (.int t1), some (.int t2), some (.int t3), some (.int t4), some (.int (x5 + t4)), some (.int (nI i)), some (.int ((x5).toInt8.toInt32))], [], aset h 170 96 (upd (Ar h 170) i (imax (nI 0) (imin (nI 999) ((x5).toInt8.toInt32)))), 198, sl) = some R := hh
        obtain ⟨n, hh⟩ := en_inc (x := i) (c := 1) (j := 6) rfl rfl (by decide) hh
        have hh : pm_run PT n fr lo 210 (121, [some (.ref 162), some (.int t1), some (.int t2), some (.int t3), some (.int t4), some (.int (x5 + t4)), some (.int (nI (i + 1))), some (.int ((x5).toInt8.toInt32))], [], aset h 170 96 (upd (Ar h 170) i (imax (nI 0) (imin (nI 999) ((x5).toInt8.toInt32)))), 198, sl) = some R := hh
        obtain ⟨n, hh⟩ := rn_i rfl rfl rfl rfl hh
        have ed : v210_43b q cc gc h t1 t2 t3 t4 i x5 = (x5 + t4, aset h 170 96 (upd (Ar h 170) i (imax (nI 0) (imin (nI 999) ((x5).toInt8.toInt32))))) := (cf z5).trans ((cf z17).trans ((ct z19).trans rfl))
        rw [ed]
        exact ⟨n, some (.int ((x5).toInt8.toInt32)), (hc_a rfl rfl hw), (fr_a rfl rfl fr_0), hh⟩
      | false =>
        have hh := en_f z19 hh
        have hh : pm_run PT n fr lo 210 (94, [some (.ref 162), some (.int t1), some (.int t2), some (.int t3), some (.int t4), some (.int x5), some (.int (nI i)), some (.int ((x5).toInt8.toInt32))], [.int (nI i), .ref 170], h, 198, sl) = some R := hh
        obtain ⟨n, hh⟩ := rn_i rfl rfl rfl rfl hh
        obtain ⟨n, hh⟩ := rn_i rfl rfl rfl rfl hh
        have hh : pm_run PT n fr lo 210 (110, [some (.ref 162), some (.int t1), some (.int t2), some (.int t3), some (.int t4), some (.int x5), some (.int (nI i)), some (.int ((x5).toInt8.toInt32))], [.int (nI 0), .int (nI i), .ref 170], h, 198, sl) = some R := hh
        obtain ⟨n, hx21, hh⟩ := en_st (t := i) (f := Ar h 170) (nI_clamp (by omega)) hw.wt rfl (by decide) rfl (by decide) rfl hh
        obtain ⟨n, hh⟩ := rn_i rfl rfl rfl rfl hh
        obtain ⟨n, hh⟩ := rn_i rfl rfl rfl rfl hh
        obtain ⟨n, hh⟩ := rn_i rfl rfl rfl rfl hh
        obtain ⟨n, hh⟩ := rn_i rfl rfl rfl rfl hh
        have hh : pm_run PT n fr lo 210 (118, [some (.ref 162), some (.int t1), some (.int t2), some (.int t3), some (.int t4), some (.int (x5 + t4)), some (.int (nI i)), some (.int ((x5).toInt8.toInt32))], [], aset h 170 96 (upd (Ar h 170) i (nI 0)), 198, sl) = some R := hh
        obtain ⟨n, hh⟩ := en_inc (x := i) (c := 1) (j := 6) rfl rfl (by decide) hh
        have hh : pm_run PT n fr lo 210 (121, [some (.ref 162), some (.int t1), some (.int t2), some (.int t3), some (.int t4), some (.int (x5 + t4)), some (.int (nI (i + 1))), some (.int ((x5).toInt8.toInt32))], [], aset h 170 96 (upd (Ar h 170) i (nI 0)), 198, sl) = some R := hh
        obtain ⟨n, hh⟩ := rn_i rfl rfl rfl rfl hh
        have ed : v210_43b q cc gc h t1 t2 t3 t4 i x5 = (x5 + t4, aset h 170 96 (upd (Ar h 170) i (nI 0))) := (cf z5).trans ((cf z17).trans ((cf z19).trans rfl))
        rw [ed]
        exact ⟨n, some (.int ((x5).toInt8.toInt32)), (hc_a rfl rfl hw), (fr_a rfl rfl fr_0), hh⟩
theorem v210_43_ok {fr lo sl cc gc : Nat} {q : QT} {R : pm_Rs} {t1 : Int32} {t2 : Int32} {t3 : Int32} {t4 : Int32} : ∀ {j i : Nat} {x5 : Int32} {o7 : Option Value} {h : pm_H} {n : Nat}, cc - i = j → i + j < 1000000 → HC q cc gc h → pm_run PT n fr lo 210 (43, [some (.ref 162), some (.int t1), some (.int t2), some (.int t3), some (.int t4), some (.int x5), some (.int (nI i)), o7], [], h, 198, sl) = some R → ∃ m wc w7, HC q cc gc ((v210_43 q cc gc t1 t2 t3 t4 j i (x5, h)).2) ∧ frm [170] [] h ((v210_43 q cc gc t1 t2 t3 t4 j i (x5, h)).2) ∧ pm_run PT m fr lo 210 (124, [some (.ref 162), some (.int t1), some (.int t2), some (.int t3), some (.int t4), some (.int ((v210_43 q cc gc t1 t2 t3 t4 j i (x5, h)).1)), wc, w7], [], (v210_43 q cc gc t1 t2 t3 t4 j i (x5, h)).2, 198, sl) = some R := by
  intro j
  induction j with
  | zero =>
    intro i x5 o7 h n e eI hw hh
    obtain ⟨n, hh⟩ := v210_43_e hw (by omega) (by omega) hh
    exact ⟨n, _, o7, hw, fr_0, hh⟩
  | succ j ih =>
    intro i x5 o7 h n e eI hw hh
    obtain ⟨n, w7, hc, hf, hh⟩ := v210_43_s hw (by omega) (by omega) hh
    obtain ⟨n, wc, v7, hc2, hf2, hh⟩ := ih (by omega) (by omega) hc hh
    exact ⟨n, wc, v7, hc2, fr_t hf2 hf, hh⟩
theorem v210_43_fb {cc gc : Nat} {q : QT} {h : pm_H} {t1 : Int32} {t2 : Int32} {t3 : Int32} {t4 : Int32} {i : Nat} {x5 : Int32} (hw : HC q cc gc h) : HC q cc gc ((v210_43b q cc gc h t1 t2 t3 t4 i x5).2) ∧ frm [170] [] h ((v210_43b q cc gc h t1 t2 t3 t4 i x5).2) := by
  unfold v210_43b
  refine cd_s (P := fun (p : Int32 × pm_H) => HC q cc gc ((p).2) ∧ frm [170] [] h ((p).2)) (b := pm_cmp .ne t1 0) (fun _ => ?_) (fun _ => ?_)
  · refine cd_s (P := fun (p : Int32 × pm_H) => HC q cc gc ((p).2) ∧ frm [170] [] h ((p).2)) (b := pm_cmp .ne t1 (nI 1)) (fun _ => ?_) (fun _ => ?_)
    · refine cd_s (P := fun (p : Int32 × pm_H) => HC q cc gc ((p).2) ∧ frm [170] [] h ((p).2)) (b := pm_cmp .eq t1 (nI 3)) (fun _ => ?_) (fun _ => ?_)
      · show HC q cc gc (aset h 170 96 (upd (Ar h 170) i (nI 0))) ∧ frm [170] [] h (aset h 170 96 (upd (Ar h 170) i (nI 0)))
        exact ⟨(hc_a rfl rfl hw), (fr_a rfl rfl fr_0)⟩
      · refine cd_s (P := fun (p : Int32 × pm_H) => HC q cc gc ((p).2) ∧ frm [170] [] h ((p).2)) (b := pm_cmp .lt (nI i) t2) (fun _ => ?_) (fun _ => ?_)
        · show HC q cc gc (aset h 170 96 (upd (Ar h 170) i (imax (nI 0) (imin (nI 999) x5)))) ∧ frm [170] [] h (aset h 170 96 (upd (Ar h 170) i (imax (nI 0) (imin (nI 999) x5))))
          exact ⟨(hc_a rfl rfl hw), (fr_a rfl rfl fr_0)⟩
        · show HC q cc gc (aset h 170 96 (upd (Ar h 170) i (nI 0))) ∧ frm [170] [] h (aset h 170 96 (upd (Ar h 170) i (nI 0)))
          exact ⟨(hc_a rfl rfl hw), (fr_a rfl rfl fr_0)⟩
    · refine cd_s (P := fun (p : Int32 × pm_H) => HC q cc gc ((p).2) ∧ frm [170] [] h ((p).2)) (b := pm_cmp .eq t1 (nI 3)) (fun _ => ?_) (fun _ => ?_)
      · show HC q cc gc (aset h 170 96 (upd (Ar h 170) i (nI 0))) ∧ frm [170] [] h (aset h 170 96 (upd (Ar h 170) i (nI 0)))
        exact ⟨(hc_a rfl rfl hw), (fr_a rfl rfl fr_0)⟩
      · refine cd_s (P := fun (p : Int32 × pm_H) => HC q cc gc ((p).2) ∧ frm [170] [] h ((p).2)) (b := pm_cmp .lt (nI i) t2) (fun _ => ?_) (fun _ => ?_)
        · show HC q cc gc (aset h 170 96 (upd (Ar h 170) i (imax (nI 0) (imin (nI 999) ((x5).toInt16.toInt32))))) ∧ frm [170] [] h (aset h 170 96 (upd (Ar h 170) i (imax (nI 0) (imin (nI 999) ((x5).toInt16.toInt32)))))
          exact ⟨(hc_a rfl rfl hw), (fr_a rfl rfl fr_0)⟩
        · show HC q cc gc (aset h 170 96 (upd (Ar h 170) i (nI 0))) ∧ frm [170] [] h (aset h 170 96 (upd (Ar h 170) i (nI 0)))
          exact ⟨(hc_a rfl rfl hw), (fr_a rfl rfl fr_0)⟩
  · refine cd_s (P := fun (p : Int32 × pm_H) => HC q cc gc ((p).2) ∧ frm [170] [] h ((p).2)) (b := pm_cmp .eq t1 (nI 3)) (fun _ => ?_) (fun _ => ?_)
    · show HC q cc gc (aset h 170 96 (upd (Ar h 170) i (nI 0))) ∧ frm [170] [] h (aset h 170 96 (upd (Ar h 170) i (nI 0)))
      exact ⟨(hc_a rfl rfl hw), (fr_a rfl rfl fr_0)⟩
    · refine cd_s (P := fun (p : Int32 × pm_H) => HC q cc gc ((p).2) ∧ frm [170] [] h ((p).2)) (b := pm_cmp .lt (nI i) t2) (fun _ => ?_) (fun _ => ?_)
      · show HC q cc gc (aset h 170 96 (upd (Ar h 170) i (imax (nI 0) (imin (nI 999) ((x5).toInt8.toInt32))))) ∧ frm [170] [] h (aset h 170 96 (upd (Ar h 170) i (imax (nI 0) (imin (nI 999) ((x5).toInt8.toInt32)))))
        exact ⟨(hc_a rfl rfl hw), (fr_a rfl rfl fr_0)⟩
      · show HC q cc gc (aset h 170 96 (upd (Ar h 170) i (nI 0))) ∧ frm [170] [] h (aset h 170 96 (upd (Ar h 170) i (nI 0)))
        exact ⟨(hc_a rfl rfl hw), (fr_a rfl rfl fr_0)⟩
theorem v210_43_fr {cc gc : Nat} {q : QT} {t1 : Int32} {t2 : Int32} {t3 : Int32} {t4 : Int32} : ∀ {j i : Nat} {x5 : Int32} {h : pm_H}, HC q cc gc h → HC q cc gc ((v210_43 q cc gc t1 t2 t3 t4 j i (x5, h)).2) ∧ frm [170] [] h ((v210_43 q cc gc t1 t2 t3 t4 j i (x5, h)).2) := by
  intro j
  induction j with
  | zero =>
    intro i x5 h hw
    exact ⟨hw, fr_0⟩
  | succ j ih =>
    intro i x5 h hw
    obtain ⟨a1, a2⟩ := v210_43_fb (i := i) (t1 := t1) (t2 := t2) (t3 := t3) (t4 := t4) (x5 := x5) hw
    obtain ⟨b1, b2⟩ := ih (i := i + 1) a1
    exact ⟨b1, fr_t b2 a2⟩
def v210 (q : QT) (cc gc : Nat) (h : pm_H) (k : Int32) (m : Int32) (e : Int32) (s : Int32) : Int32 × pm_H := cond (in_b ((k).toInt64) (Int64.ofNat 0) (3 : Int64)) (cond (pm_cmp .le m (nI 6)) (cond (pm_cmp .eq k (nI 3)) (cond (pm_cmp .ne k (nI 3)) (v177 q cc gc (Ar ((v210_43 q cc gc k m e s cc 0 (e, fset h 162 0 (.int (nI 0)))).2) 170), (v210_43 q cc gc k m e s cc 0 (e, fset h 162 0 (.int (nI 0)))).2) ((Int32.ofInt (-3)), (v210_43 q cc gc k m e s cc 0 (e, fset h 162 0 (.int (nI 0)))).2)) (cond (pm_cmp .ge m 0) (cond (pm_cmp .ne k (nI 3)) (v177 q cc gc (Ar ((v210_43 q cc gc k m e s cc 0 (e, fset h 162 0 (.int (nI 0)))).2) 170), (v210_43 q cc gc k m e s cc 0 (e, fset h 162 0 (.int (nI 0)))).2) ((Int32.ofInt (-3)), (v210_43 q cc gc k m e s cc 0 (e, fset h 162 0 (.int (nI 0)))).2)) ((Int32.ofInt (-2)), fset h 162 0 (.int (nI 0))))) ((Int32.ofInt (-1)), fset h 162 0 (.int (nI 0)))) ((Int32.ofInt (-1)), fset h 162 0 (.int (nI 0)))
theorem v210_ok {n fr lo sl cc gc : Nat} {q : QT} {h : pm_H} {R : pm_Rs} {k : Int32} {m : Int32} {e : Int32} {s : Int32} (hw : HC q cc gc h) (hh : pm_run PT n fr lo 210 (0, pm_l0 [.ref 162, .int k, .int m, .int e, .int s] 8, [], h, 198, sl) = some R) : R = (some (.int ((v210 q cc gc h k m e s).1)), (v210 q cc gc h k m e s).2, 198, sl) ∧ HC q cc gc ((v210 q cc gc h k m e s).2) ∧ frm [162, 170] [(162, 0)] h ((v210 q cc gc h k m e s).2) := by
  have hcc := hw.cb
  have hgc := hw.gb
  have hzr := hw.zr
  obtain ⟨n, hh⟩ := rn_i rfl rfl rfl rfl hh
  obtain ⟨n, hh⟩ := rn_i rfl rfl rfl rfl hh
  have hh : pm_run PT n fr lo 210 (2, [some (.ref 162), some (.int k), some (.int m), some (.int e), some (.int s), none, none, none], [.int (nI 0), .ref 162], h, 198, sl) = some R := hh
  obtain ⟨n, hh⟩ := rn_pi hw.wt rfl rfl (by decide) rfl (by decide) rfl hh
  obtain ⟨n, hh⟩ := rn_i rfl rfl rfl rfl hh
  obtain ⟨n, hh⟩ := rn_i rfl rfl rfl rfl hh
  obtain ⟨n, hh⟩ := rn_i rfl rfl rfl rfl hh
  obtain ⟨n, hh⟩ := rn_i rfl rfl rfl rfl hh
  have hh : pm_run PT n fr lo 210 (11, [some (.ref 162), some (.int k), some (.int m), some (.int e), some (.int s), none, none, none], [.long (3 : Int64), .long (Int64.ofNat 0), .long ((k).toInt64)], fset h 162 0 (.int (nI 0)), 198, sl) = some R := hh
  obtain ⟨n, fr1, lo1, r1, hh1, hh⟩ := rn_call (w := 2) (t := 163) rfl rfl hh
  have er1 := rn_dt (F := 10) (Lo := 1000) (hd_in (fr := 10) (lo := 1000) (h := fset h 162 0 (.int (nI 0))) (sl := sl) ((k).toInt64) (Int64.ofNat 0) (3 : Int64)) hh1
  subst er1
  have hh : pm_run PT n fr lo 210 (14, [some (.ref 162), some (.int k), some (.int m), some (.int e), some (.int s), none, none, none], [.int (cond (in_b ((k).toInt64) (Int64.ofNat 0) (3 : Int64)) 1 0)], fset h 162 0 (.int (nI 0)), 198, sl) = some R := hh
  obtain ⟨n, hh⟩ := en_zn (cc := .eq) (off := 9) (t := 23) (b := !(in_b ((k).toInt64) (Int64.ofNat 0) (3 : Int64))) eb_eq rfl rfl hh
  cases z2 : in_b ((k).toInt64) (Int64.ofNat 0) (3 : Int64) with
  | true =>
    have hh := en_nt z2 hh
    have hh : pm_run PT n fr lo 210 (17, [some (.ref 162), some (.int k), some (.int m), some (.int e), some (.int s), none, none, none], [], fset h 162 0 (.int (nI 0)), 198, sl) = some R := hh
    obtain ⟨n, hh⟩ := rn_i rfl rfl rfl rfl hh
    obtain ⟨n, hh⟩ := rn_i rfl rfl rfl rfl hh
    have hh : pm_run PT n fr lo 210 (20, [some (.ref 162), some (.int k), some (.int m), some (.int e), some (.int s), none, none, none], [.int (nI 6), .int m], fset h 162 0 (.int (nI 0)), 198, sl) = some R := hh
    obtain ⟨n, hh⟩ := en_cn (cc := .le) (off := 5) (t := 25) (b := pm_cmp .le m (nI 6)) rfl rfl rfl hh
    cases z3 : pm_cmp .le m (nI 6) with
    | true =>
      have hh := en_t z3 hh
      have hh : pm_run PT n fr lo 210 (25, [some (.ref 162), some (.int k), some (.int m), some (.int e), some (.int s), none, none, none], [], fset h 162 0 (.int (nI 0)), 198, sl) = some R := hh
      obtain ⟨n, hh⟩ := rn_i rfl rfl rfl rfl hh
      obtain ⟨n, hh⟩ := rn_i rfl rfl rfl rfl hh
      have hh : pm_run PT n fr lo 210 (27, [some (.ref 162), some (.int k), some (.int m), some (.int e), some (.int s), none, none, none], [.int (nI 3), .int k], fset h 162 0 (.int (nI 0)), 198, sl) = some R := hh
      obtain ⟨n, hh⟩ := en_cn (cc := .eq) (off := 10) (t := 37) (b := pm_cmp .eq k (nI 3)) rfl rfl rfl hh
      cases z4 : pm_cmp .eq k (nI 3) with
      | true =>
        have hh := en_t z4 hh
        have hh : pm_run PT n fr lo 210 (37, [some (.ref 162), some (.int k), some (.int m), some (.int e), some (.int s), none, none, none], [], fset h 162 0 (.int (nI 0)), 198, sl) = some R := hh
        obtain ⟨n, hh⟩ := rn_i rfl rfl rfl rfl hh
        obtain ⟨n, hh⟩ := rn_i rfl rfl rfl rfl hh
        obtain ⟨n, hh⟩ := rn_i rfl rfl rfl rfl hh
        obtain ⟨n, hh⟩ := rn_i rfl rfl rfl rfl hh
        have hh : pm_run PT n fr lo 210 (43, [some (.ref 162), some (.int k), some (.int m), some (.int e), some (.int s), some (.int e), some (.int (nI 0)), none], [], fset h 162 0 (.int (nI 0)), 198, sl) = some R := hh
        obtain ⟨n, u6, u5, hc7, hf8, hh⟩ := v210_43_ok (t1 := k) (t2 := m) (t3 := e) (t4 := s)  (i := 0) (x5 := e) (o7 := none) (j := cc) (by omega) (by omega) (hc_f rfl rfl (by decide) rfl hw) hh
        have hh : pm_run PT n fr lo 210 (124, [some (.ref 162), some (.int k), some (.int m), some (.int e), some (.int s), some (.int ((v210_43 q cc gc k m e s cc 0 (e, fset h 162 0 (.int (nI 0)))).1)), u6, u5], [], (v210_43 q cc gc k m e s cc 0 (e, fset h 162 0 (.int (nI 0)))).2, 198, sl) = some R := hh
        obtain ⟨n, hh⟩ := rn_i rfl rfl rfl rfl hh
        obtain ⟨n, hh⟩ := rn_i rfl rfl rfl rfl hh
        have hh : pm_run PT n fr lo 210 (126, [some (.ref 162), some (.int k), some (.int m), some (.int e), some (.int s), some (.int ((v210_43 q cc gc k m e s cc 0 (e, fset h 162 0 (.int (nI 0)))).1)), u6, u5], [.int (nI 3), .int k], (v210_43 q cc gc k m e s cc 0 (e, fset h 162 0 (.int (nI 0)))).2, 198, sl) = some R := hh
        obtain ⟨n, hh⟩ := en_cn (cc := .ne) (off := 8) (t := 134) (b := pm_cmp .ne k (nI 3)) rfl rfl rfl hh
        cases z9 : pm_cmp .ne k (nI 3) with
        | true =>
          have hh := en_t z9 hh
          have hh : pm_run PT n fr lo 210 (134, [some (.ref 162), some (.int k), some (.int m), some (.int e), some (.int s), some (.int ((v210_43 q cc gc k m e s cc 0 (e, fset h 162 0 (.int (nI 0)))).1)), u6, u5], [], (v210_43 q cc gc k m e s cc 0 (e, fset h 162 0 (.int (nI 0)))).2, 198, sl) = some R := hh
          obtain ⟨n, hh⟩ := rn_i rfl rfl rfl rfl hh
          obtain ⟨n, hh⟩ := rn_i rfl rfl rfl rfl hh
          have hh : pm_run PT n fr lo 210 (136, [some (.ref 162), some (.int k), some (.int m), some (.int e), some (.int s), some (.int ((v210_43 q cc gc k m e s cc 0 (e, fset h 162 0 (.int (nI 0)))).1)), u6, u5], [.ref 162, .ref 162], (v210_43 q cc gc k m e s cc 0 (e, fset h 162 0 (.int (nI 0)))).2, 198, sl) = some R := hh
          obtain ⟨n, hh⟩ := rn_gr hc7.wt rfl rfl (by decide) rfl (by decide) (show _ = some (2, ((170 : Nat) : Int), 1) from rfl) rfl hh
          have hh : pm_run PT n fr lo 210 (139, [some (.ref 162), some (.int k), some (.int m), some (.int e), some (.int s), some (.int ((v210_43 q cc gc k m e s cc 0 (e, fset h 162 0 (.int (nI 0)))).1)), u6, u5], [.ref 170, .ref 162], (v210_43 q cc gc k m e s cc 0 (e, fset h 162 0 (.int (nI 0)))).2, 198, sl) = some R := hh
          obtain ⟨n, fr1, lo1, r1, hh1, hh⟩ := rn_call (w := 0) (t := 177) rfl rfl hh
          have er10 := v177_ok hc7 hh1
          subst er10
          have hh : pm_run PT n fr lo 210 (142, [some (.ref 162), some (.int k), some (.int m), some (.int e), some (.int s), some (.int ((v210_43 q cc gc k m e s cc 0 (e, fset h 162 0 (.int (nI 0)))).1)), u6, u5], [.int (v177 q cc gc (Ar ((v210_43 q cc gc k m e s cc 0 (e, fset h 162 0 (.int (nI 0)))).2) 170))], (v210_43 q cc gc k m e s cc 0 (e, fset h 162 0 (.int (nI 0)))).2, 198, sl) = some R := hh
          have er11 : R = (some (.int (v177 q cc gc (Ar ((v210_43 q cc gc k m e s cc 0 (e, fset h 162 0 (.int (nI 0)))).2) 170))), (v210_43 q cc gc k m e s cc 0 (e, fset h 162 0 (.int (nI 0)))).2, 198, sl) := (rn_ret rfl (Or.inl rfl) hh).2
          have ed : v210 q cc gc h k m e s = (v177 q cc gc (Ar ((v210_43 q cc gc k m e s cc 0 (e, fset h 162 0 (.int (nI 0)))).2) 170), (v210_43 q cc gc k m e s cc 0 (e, fset h 162 0 (.int (nI 0)))).2) := (ct z2).trans ((ct z3).trans ((ct z4).trans ((ct z9).trans rfl)))
          refine ⟨?_, ?_, ?_⟩ <;> rw [ed]
          · exact er11
          · exact hc7
          · exact (fr_g rfl rfl hf8 (fr_f rfl rfl fr_0))
        | false =>
          have hh := en_f z9 hh
          have hh : pm_run PT n fr lo 210 (129, [some (.ref 162), some (.int k), some (.int m), some (.int e), some (.int s), some (.int ((v210_43 q cc gc k m e s cc 0 (e, fset h 162 0 (.int (nI 0)))).1)), u6, u5], [], (v210_43 q cc gc k m e s cc 0 (e, fset h 162 0 (.int (nI 0)))).2, 198, sl) = some R := hh
          obtain ⟨n, hh⟩ := rn_i rfl rfl rfl rfl hh
          obtain ⟨n, hh⟩ := rn_i rfl rfl rfl rfl hh
          have hh : pm_run PT n fr lo 210 (142, [some (.ref 162), some (.int k), some (.int m), some (.int e), some (.int s), some (.int ((v210_43 q cc gc k m e s cc 0 (e, fset h 162 0 (.int (nI 0)))).1)), u6, u5], [.int (Int32.ofInt (-3))], (v210_43 q cc gc k m e s cc 0 (e, fset h 162 0 (.int (nI 0)))).2, 198, sl) = some R := hh
          have er12 : R = (some (.int (Int32.ofInt (-3))), (v210_43 q cc gc k m e s cc 0 (e, fset h 162 0 (.int (nI 0)))).2, 198, sl) := (rn_ret rfl (Or.inl rfl) hh).2
          have ed : v210 q cc gc h k m e s = ((Int32.ofInt (-3)), (v210_43 q cc gc k m e s cc 0 (e, fset h 162 0 (.int (nI 0)))).2) := (ct z2).trans ((ct z3).trans ((ct z4).trans ((cf z9).trans rfl)))
          refine ⟨?_, ?_, ?_⟩ <;> rw [ed]
          · exact er12
          · exact hc7
          · exact (fr_g rfl rfl hf8 (fr_f rfl rfl fr_0))
      | false =>
        have hh := en_f z4 hh
        have hh : pm_run PT n fr lo 210 (30, [some (.ref 162), some (.int k), some (.int m), some (.int e), some (.int s), none, none, none], [], fset h 162 0 (.int (nI 0)), 198, sl) = some R := hh
        obtain ⟨n, hh⟩ := rn_i rfl rfl rfl rfl hh
        have hh : pm_run PT n fr lo 210 (31, [some (.ref 162), some (.int k), some (.int m), some (.int e), some (.int s), none, none, none], [.int m], fset h 162 0 (.int (nI 0)), 198, sl) = some R := hh
        obtain ⟨n, hh⟩ := en_zn (cc := .ge) (off := 6) (t := 37) (b := pm_cmp .ge m 0) rfl rfl rfl hh
        cases z13 : pm_cmp .ge m 0 with
        | true =>
          have hh := en_t z13 hh
          have hh : pm_run PT n fr lo 210 (37, [some (.ref 162), some (.int k), some (.int m), some (.int e), some (.int s), none, none, none], [], fset h 162 0 (.int (nI 0)), 198, sl) = some R := hh
          obtain ⟨n, hh⟩ := rn_i rfl rfl rfl rfl hh
          obtain ⟨n, hh⟩ := rn_i rfl rfl rfl rfl hh
          obtain ⟨n, hh⟩ := rn_i rfl rfl rfl rfl hh
          obtain ⟨n, hh⟩ := rn_i rfl rfl rfl rfl hh
          have hh : pm_run PT n fr lo 210 (43, [some (.ref 162), some (.int k), some (.int m), some (.int e), some (.int s), some (.int e), some (.int (nI 0)), none], [], fset h 162 0 (.int (nI 0)), 198, sl) = some R := hh
          obtain ⟨n, u15, u14, hc16, hf17, hh⟩ := v210_43_ok (t1 := k) (t2 := m) (t3 := e) (t4 := s)  (i := 0) (x5 := e) (o7 := none) (j := cc) (by omega) (by omega) (hc_f rfl rfl (by decide) rfl hw) hh
          have hh : pm_run PT n fr lo 210 (124, [some (.ref 162), some (.int k), some (.int m), some (.int e), some (.int s), some (.int ((v210_43 q cc gc k m e s cc 0 (e, fset h 162 0 (.int (nI 0)))).1)), u15, u14], [], (v210_43 q cc gc k m e s cc 0 (e, fset h 162 0 (.int (nI 0)))).2, 198, sl) = some R := hh
          obtain ⟨n, hh⟩ := rn_i rfl rfl rfl rfl hh
          obtain ⟨n, hh⟩ := rn_i rfl rfl rfl rfl hh
          have hh : pm_run PT n fr lo 210 (126, [some (.ref 162), some (.int k), some (.int m), some (.int e), some (.int s), some (.int ((v210_43 q cc gc k m e s cc 0 (e, fset h 162 0 (.int (nI 0)))).1)), u15, u14], [.int (nI 3), .int k], (v210_43 q cc gc k m e s cc 0 (e, fset h 162 0 (.int (nI 0)))).2, 198, sl) = some R := hh
          obtain ⟨n, hh⟩ := en_cn (cc := .ne) (off := 8) (t := 134) (b := pm_cmp .ne k (nI 3)) rfl rfl rfl hh
          cases z18 : pm_cmp .ne k (nI 3) with
          | true =>
            have hh := en_t z18 hh
            have hh : pm_run PT n fr lo 210 (134, [some (.ref 162), some (.int k), some (.int m), some (.int e), some (.int s), some (.int ((v210_43 q cc gc k m e s cc 0 (e, fset h 162 0 (.int (nI 0)))).1)), u15, u14], [], (v210_43 q cc gc k m e s cc 0 (e, fset h 162 0 (.int (nI 0)))).2, 198, sl) = some R := hh
            obtain ⟨n, hh⟩ := rn_i rfl rfl rfl rfl hh
            obtain ⟨n, hh⟩ := rn_i rfl rfl rfl rfl hh
            have hh : pm_run PT n fr lo 210 (136, [some (.ref 162), some (.int k), some (.int m), some (.int e), some (.int s), some (.int ((v210_43 q cc gc k m e s cc 0 (e, fset h 162 0 (.int (nI 0)))).1)), u15, u14], [.ref 162, .ref 162], (v210_43 q cc gc k m e s cc 0 (e, fset h 162 0 (.int (nI 0)))).2, 198, sl) = some R := hh
            obtain ⟨n, hh⟩ := rn_gr hc16.wt rfl rfl (by decide) rfl (by decide) (show _ = some (2, ((170 : Nat) : Int), 1) from rfl) rfl hh
            have hh : pm_run PT n fr lo 210 (139, [some (.ref 162), some (.int k), some (.int m), some (.int e), some (.int s), some (.int ((v210_43 q cc gc k m e s cc 0 (e, fset h 162 0 (.int (nI 0)))).1)), u15, u14], [.ref 170, .ref 162], (v210_43 q cc gc k m e s cc 0 (e, fset h 162 0 (.int (nI 0)))).2, 198, sl) = some R := hh
            obtain ⟨n, fr1, lo1, r1, hh1, hh⟩ := rn_call (w := 0) (t := 177) rfl rfl hh
            have er19 := v177_ok hc16 hh1
            subst er19
            have hh : pm_run PT n fr lo 210 (142, [some (.ref 162), some (.int k), some (.int m), some (.int e), some (.int s), some (.int ((v210_43 q cc gc k m e s cc 0 (e, fset h 162 0 (.int (nI 0)))).1)), u15, u14], [.int (v177 q cc gc (Ar ((v210_43 q cc gc k m e s cc 0 (e, fset h 162 0 (.int (nI 0)))).2) 170))], (v210_43 q cc gc k m e s cc 0 (e, fset h 162 0 (.int (nI 0)))).2, 198, sl) = some R := hh
            have er20 : R = (some (.int (v177 q cc gc (Ar ((v210_43 q cc gc k m e s cc 0 (e, fset h 162 0 (.int (nI 0)))).2) 170))), (v210_43 q cc gc k m e s cc 0 (e, fset h 162 0 (.int (nI 0)))).2, 198, sl) := (rn_ret rfl (Or.inl rfl) hh).2
            have ed : v210 q cc gc h k m e s = (v177 q cc gc (Ar ((v210_43 q cc gc k m e s cc 0 (e, fset h 162 0 (.int (nI 0)))).2) 170), (v210_43 q cc gc k m e s cc 0 (e, fset h 162 0 (.int (nI 0)))).2) := (ct z2).trans ((ct z3).trans ((cf z4).trans ((ct z13).trans ((ct z18).trans rfl))))
            refine ⟨?_, ?_, ?_⟩ <;> rw [ed]
            · exact er20
            · exact hc16
            · exact (fr_g rfl rfl hf17 (fr_f rfl rfl fr_0))
          | false =>
            have hh := en_f z18 hh
            have hh : pm_run PT n fr lo 210 (129, [some (.ref 162), some (.int k), some (.int m), some (.int e), some (.int s), some (.int ((v210_43 q cc gc k m e s cc 0 (e, fset h 162 0 (.int (nI 0)))).1)), u15, u14], [], (v210_43 q cc gc k m e s cc 0 (e, fset h 162 0 (.int (nI 0)))).2, 198, sl) = some R := hh
            obtain ⟨n, hh⟩ := rn_i rfl rfl rfl rfl hh
            obtain ⟨n, hh⟩ := rn_i rfl rfl rfl rfl hh
            have hh : pm_run PT n fr lo 210 (142, [some (.ref 162), some (.int k), some (.int m), some (.int e), some (.int s), some (.int ((v210_43 q cc gc k m e s cc 0 (e, fset h 162 0 (.int (nI 0)))).1)), u15, u14], [.int (Int32.ofInt (-3))], (v210_43 q cc gc k m e s cc 0 (e, fset h 162 0 (.int (nI 0)))).2, 198, sl) = some R := hh
            have er21 : R = (some (.int (Int32.ofInt (-3))), (v210_43 q cc gc k m e s cc 0 (e, fset h 162 0 (.int (nI 0)))).2, 198, sl) := (rn_ret rfl (Or.inl rfl) hh).2
            have ed : v210 q cc gc h k m e s = ((Int32.ofInt (-3)), (v210_43 q cc gc k m e s cc 0 (e, fset h 162 0 (.int (nI 0)))).2) := (ct z2).trans ((ct z3).trans ((cf z4).trans ((ct z13).trans ((cf z18).trans rfl))))
            refine ⟨?_, ?_, ?_⟩ <;> rw [ed]
            · exact er21
            · exact hc16
            · exact (fr_g rfl rfl hf17 (fr_f rfl rfl fr_0))
        | false =>
          have hh := en_f z13 hh
          have hh : pm_run PT n fr lo 210 (34, [some (.ref 162), some (.int k), some (.int m), some (.int e), some (.int s), none, none, none], [], fset h 162 0 (.int (nI 0)), 198, sl) = some R := hh
          obtain ⟨n, hh⟩ := rn_i rfl rfl rfl rfl hh
          have hh : pm_run PT n fr lo 210 (36, [some (.ref 162), some (.int k), some (.int m), some (.int e), some (.int s), none, none, none], [.int (Int32.ofInt (-2))], fset h 162 0 (.int (nI 0)), 198, sl) = some R := hh
          have er22 : R = (some (.int (Int32.ofInt (-2))), fset h 162 0 (.int (nI 0)), 198, sl) := (rn_ret rfl (Or.inl rfl) hh).2
          have ed : v210 q cc gc h k m e s = ((Int32.ofInt (-2)), fset h 162 0 (.int (nI 0))) := (ct z2).trans ((ct z3).trans ((cf z4).trans ((cf z13).trans rfl)))
          refine ⟨?_, ?_, ?_⟩ <;> rw [ed]
          · exact er22
          · exact (hc_f rfl rfl (by decide) rfl hw)
          · exact (fr_f rfl rfl fr_0)
    | false =>
      have hh := en_f z3 hh
      have hh : pm_run PT n fr lo 210 (23, [some (.ref 162), some (.int k), some (.int m), some (.int e), some (.int s), none, none, none], [], fset h 162 0 (.int (nI 0)), 198, sl) = some R := hh
      obtain ⟨n, hh⟩ := rn_i rfl rfl rfl rfl hh
      have hh : pm_run PT n fr lo 210 (24, [some (.ref 162), some (.int k), some (.int m), some (.int e), some (.int s), none, none, none], [.int (Int32.ofInt (-1))], fset h 162 0 (.int (nI 0)), 198, sl) = some R := hh
      have er23 : R = (some (.int (Int32.ofInt (-1))), fset h 162 0 (.int (nI 0)), 198, sl) := (rn_ret rfl (Or.inl rfl) hh).2
      have ed : v210 q cc gc h k m e s = ((Int32.ofInt (-1)), fset h 162 0 (.int (nI 0))) := (ct z2).trans ((cf z3).trans rfl)
      refine ⟨?_, ?_, ?_⟩ <;> rw [ed]
      · exact er23
      · exact (hc_f rfl rfl (by decide) rfl hw)
      · exact (fr_f rfl rfl fr_0)
  | false =>
    have hh := en_nf z2 hh
    have hh : pm_run PT n fr lo 210 (23, [some (.ref 162), some (.int k), some (.int m), some (.int e), some (.int s), none, none, none], [], fset h 162 0 (.int (nI 0)), 198, sl) = some R := hh
    obtain ⟨n, hh⟩ := rn_i rfl rfl rfl rfl hh
    have hh : pm_run PT n fr lo 210 (24, [some (.ref 162), some (.int k), some (.int m), some (.int e), some (.int s), none, none, none], [.int (Int32.ofInt (-1))], fset h 162 0 (.int (nI 0)), 198, sl) = some R := hh
    have er24 : R = (some (.int (Int32.ofInt (-1))), fset h 162 0 (.int (nI 0)), 198, sl) := (rn_ret rfl (Or.inl rfl) hh).2
    have ed : v210 q cc gc h k m e s = ((Int32.ofInt (-1)), fset h 162 0 (.int (nI 0))) := (cf z2).trans rfl
    refine ⟨?_, ?_, ?_⟩ <;> rw [ed]
    · exact er24
    · exact (hc_f rfl rfl (by decide) rfl hw)
    · exact (fr_f rfl rfl fr_0)
theorem v210_fr {cc gc : Nat} {q : QT} {h : pm_H} {k : Int32} {m : Int32} {e : Int32} {s : Int32} (hw : HC q cc gc h) : HC q cc gc ((v210 q cc gc h k m e s).2) ∧ frm [162, 170] [(162, 0)] h ((v210 q cc gc h k m e s).2) := by
  unfold v210
  refine cd_s (P := fun (p : Int32 × pm_H) => HC q cc gc ((p).2) ∧ frm [162, 170] [(162, 0)] h ((p).2)) (b := in_b ((k).toInt64) (Int64.ofNat 0) (3 : Int64)) (fun _ => ?_) (fun _ => ?_)
  · refine cd_s (P := fun (p : Int32 × pm_H) => HC q cc gc ((p).2) ∧ frm [162, 170] [(162, 0)] h ((p).2)) (b := pm_cmp .le m (nI 6)) (fun _ => ?_) (fun _ => ?_)
    · refine cd_s (P := fun (p : Int32 × pm_H) => HC q cc gc ((p).2) ∧ frm [162, 170] [(162, 0)] h ((p).2)) (b := pm_cmp .eq k (nI 3)) (fun _ => ?_) (fun _ => ?_)
      · refine cd_s (P := fun (p : Int32 × pm_H) => HC q cc gc ((p).2) ∧ frm [162, 170] [(162, 0)] h ((p).2)) (b := pm_cmp .ne k (nI 3)) (fun _ => ?_) (fun _ => ?_)
        · show HC q cc gc ((v210_43 q cc gc k m e s cc 0 (e, fset h 162 0 (.int (nI 0)))).2) ∧ frm [162, 170] [(162, 0)] h ((v210_43 q cc gc k m e s cc 0 (e, fset h 162 0 (.int (nI 0)))).2)
          exact ⟨(v210_43_fr (t1 := k) (t2 := m) (t3 := e) (t4 := s) (j := cc) (i := 0) (x5 := e) (hc_f rfl rfl (by decide) rfl hw)).1, (fr_g rfl rfl (v210_43_fr (t1 := k) (t2 := m) (t3 := e) (t4 := s) (j := cc) (i := 0) (x5 := e) (hc_f rfl rfl (by decide) rfl hw)).2 (fr_f rfl rfl fr_0))⟩
        · show HC q cc gc ((v210_43 q cc gc k m e s cc 0 (e, fset h 162 0 (.int (nI 0)))).2) ∧ frm [162, 170] [(162, 0)] h ((v210_43 q cc gc k m e s cc 0 (e, fset h 162 0 (.int (nI 0)))).2)
          exact ⟨(v210_43_fr (t1 := k) (t2 := m) (t3 := e) (t4 := s) (j := cc) (i := 0) (x5 := e) (hc_f rfl rfl (by decide) rfl hw)).1, (fr_g rfl rfl (v210_43_fr (t1 := k) (t2 := m) (t3 := e) (t4 := s) (j := cc) (i := 0) (x5 := e) (hc_f rfl rfl (by decide) rfl hw)).2 (fr_f rfl rfl fr_0))⟩
      · refine cd_s (P := fun (p : Int32 × pm_H) => HC q cc gc ((p).2) ∧ frm [162, 170] [(162, 0)] h ((p).2)) (b := pm_cmp .ge m 0) (fun _ => ?_) (fun _ => ?_)
        · refine cd_s (P := fun (p : Int32 × pm_H) => HC q cc gc ((p).2) ∧ frm [162, 170] [(162, 0)] h ((p).2)) (b := pm_cmp .ne k (nI 3)) (fun _ => ?_) (fun _ => ?_)
          · show HC q cc gc ((v210_43 q cc gc k m e s cc 0 (e, fset h 162 0 (.int (nI 0)))).2) ∧ frm [162, 170] [(162, 0)] h ((v210_43 q cc gc k m e s cc 0 (e, fset h 162 0 (.int (nI 0)))).2)
            exact ⟨(v210_43_fr (t1 := k) (t2 := m) (t3 := e) (t4 := s) (j := cc) (i := 0) (x5 := e) (hc_f rfl rfl (by decide) rfl hw)).1, (fr_g rfl rfl (v210_43_fr (t1 := k) (t2 := m) (t3 := e) (t4 := s) (j := cc) (i := 0) (x5 := e) (hc_f rfl rfl (by decide) rfl hw)).2 (fr_f rfl rfl fr_0))⟩
          · show HC q cc gc ((v210_43 q cc gc k m e s cc 0 (e, fset h 162 0 (.int (nI 0)))).2) ∧ frm [162, 170] [(162, 0)] h ((v210_43 q cc gc k m e s cc 0 (e, fset h 162 0 (.int (nI 0)))).2)
            exact ⟨(v210_43_fr (t1 := k) (t2 := m) (t3 := e) (t4 := s) (j := cc) (i := 0) (x5 := e) (hc_f rfl rfl (by decide) rfl hw)).1, (fr_g rfl rfl (v210_43_fr (t1 := k) (t2 := m) (t3 := e) (t4 := s) (j := cc) (i := 0) (x5 := e) (hc_f rfl rfl (by decide) rfl hw)).2 (fr_f rfl rfl fr_0))⟩
        · show HC q cc gc (fset h 162 0 (.int (nI 0))) ∧ frm [162, 170] [(162, 0)] h (fset h 162 0 (.int (nI 0)))
          exact ⟨(hc_f rfl rfl (by decide) rfl hw), (fr_f rfl rfl fr_0)⟩
    · show HC q cc gc (fset h 162 0 (.int (nI 0))) ∧ frm [162, 170] [(162, 0)] h (fset h 162 0 (.int (nI 0)))
      exact ⟨(hc_f rfl rfl (by decide) rfl hw), (fr_f rfl rfl fr_0)⟩
  · show HC q cc gc (fset h 162 0 (.int (nI 0))) ∧ frm [162, 170] [(162, 0)] h (fset h 162 0 (.int (nI 0)))
    exact ⟨(hc_f rfl rfl (by decide) rfl hw), (fr_f rfl rfl fr_0)⟩
def v230 (q : QT) (cc gc : Nat) (h : pm_H) (g : Nat) (c : Nat) : Int32 × pm_H := cond (decide (g < gc)) (cond (decide (c < cc)) ((v201 q cc gc (fset h 162 0 (.int (nI 0))) g c).1, (v201 q cc gc (fset h 162 0 (.int (nI 0))) g c).2) ((Int32.ofInt (-1)), fset h 162 0 (.int (nI 0)))) ((Int32.ofInt (-1)), fset h 162 0 (.int (nI 0)))
theorem v230_ok {n fr lo sl cc gc : Nat} {q : QT} {h : pm_H} {R : pm_Rs} {g : Nat} {c : Nat} (hw : HC q cc gc h) (h_g : g < 10000) (h_c : c < 10000) (hh : pm_run PT n fr lo 230 (0, pm_l0 [.ref 162, .int (nI g), .int (nI c)] 3, [], h, 198, sl) = some R) : R = (some (.int ((v230 q cc gc h g c).1)), (v230 q cc gc h g c).2, 198, sl) ∧ HC q cc gc ((v230 q cc gc h g c).2) ∧ frm [162, 176, 177] [(162, 0)] h ((v230 q cc gc h g c).2) := by
  have hcc := hw.cb
  have hgc := hw.gb
  have hzr := hw.zr
  obtain ⟨n, hh⟩ := rn_i rfl rfl rfl rfl hh
  obtain ⟨n, hh⟩ := rn_i rfl rfl rfl rfl hh
  have hh : pm_run PT n fr lo 230 (2, [some (.ref 162), some (.int (nI g)), some (.int (nI c))], [.int (nI 0), .ref 162], h, 198, sl) = some R := hh
  obtain ⟨n, hh⟩ := rn_pi hw.wt rfl rfl (by decide) rfl (by decide) rfl hh
  obtain ⟨n, hh⟩ := rn_i rfl rfl rfl rfl hh
  obtain ⟨n, hh⟩ := rn_i rfl rfl rfl rfl hh
  have hh : pm_run PT n fr lo 230 (7, [some (.ref 162), some (.int (nI g)), some (.int (nI c))], [.int (nI g), .ref 162], fset h 162 0 (.int (nI 0)), 198, sl) = some R := hh
  obtain ⟨n, fr1, lo1, r1, hh1, hh⟩ := rn_call (w := 0) (t := 169) rfl rfl hh
  have er1 := en_mg hgc (hc_m4 (hc_f rfl rfl (by decide) rfl hw)) hh1
  rw [cB_n (by omega)] at er1
  subst er1
  have hh : pm_run PT n fr lo 230 (10, [some (.ref 162), some (.int (nI g)), some (.int (nI c))], [.int (cond (decide (g < gc)) 1 0)], fset h 162 0 (.int (nI 0)), 198, sl) = some R := hh
  obtain ⟨n, hh⟩ := en_zn (cc := .eq) (off := 24) (t := 34) (b := !(decide (g < gc))) eb_eq rfl rfl hh
  cases z2 : decide (g < gc) with
  | true =>
    have hh := en_nt z2 hh
    have hh : pm_run PT n fr lo 230 (13, [some (.ref 162), some (.int (nI g)), some (.int (nI c))], [], fset h 162 0 (.int (nI 0)), 198, sl) = some R := hh
    have y3 := of_decide_eq_true z2
    obtain ⟨n, hh⟩ := rn_i rfl rfl rfl rfl hh
    obtain ⟨n, hh⟩ := rn_i rfl rfl rfl rfl hh
    have hh : pm_run PT n fr lo 230 (15, [some (.ref 162), some (.int (nI g)), some (.int (nI c))], [.int (nI c), .ref 162], fset h 162 0 (.int (nI 0)), 198, sl) = some R := hh
    obtain ⟨n, fr1, lo1, r1, hh1, hh⟩ := rn_call (w := 0) (t := 168) rfl rfl hh
    have er4 := mi_run hcc (hc_m3 (hc_f rfl rfl (by decide) rfl hw)) hh1
    rw [cB_n (by omega)] at er4
    subst er4
    have hh : pm_run PT n fr lo 230 (18, [some (.ref 162), some (.int (nI g)), some (.int (nI c))], [.int (cond (decide (c < cc)) 1 0)], fset h 162 0 (.int (nI 0)), 198, sl) = some R := hh
    obtain ⟨n, hh⟩ := en_zn (cc := .eq) (off := 16) (t := 34) (b := !(decide (c < cc))) eb_eq rfl rfl hh
    cases z5 : decide (c < cc) with
    | true =>
      have hh := en_nt z5 hh
      have hh : pm_run PT n fr lo 230 (21, [some (.ref 162), some (.int (nI g)), some (.int (nI c))], [], fset h 162 0 (.int (nI 0)), 198, sl) = some R := hh
      have y6 := of_decide_eq_true z5
      obtain ⟨n, hh⟩ := rn_i rfl rfl rfl rfl hh
      obtain ⟨n, hh⟩ := rn_i rfl rfl rfl rfl hh
      have hh : pm_run PT n fr lo 230 (23, [some (.ref 162), some (.int (nI g)), some (.int (nI c))], [.ref 162, .ref 162], fset h 162 0 (.int (nI 0)), 198, sl) = some R := hh
      obtain ⟨n, hh⟩ := rn_gr (hc_f rfl rfl (by decide) rfl hw).wt rfl rfl (by decide) rfl (by decide) (show _ = some (2, ((170 : Nat) : Int), 1) from rfl) rfl hh
      obtain ⟨n, hh⟩ := rn_i rfl rfl rfl rfl hh
      obtain ⟨n, hh⟩ := rn_i rfl rfl rfl rfl hh
      have hh : pm_run PT n fr lo 230 (28, [some (.ref 162), some (.int (nI g)), some (.int (nI c))], [.int (nI c), .int (nI g), .ref 170, .ref 162], fset h 162 0 (.int (nI 0)), 198, sl) = some R := hh
      obtain ⟨n, fr1, lo1, r1, hh1, hh⟩ := rn_call (w := 0) (t := 201) rfl rfl hh
      obtain ⟨er7, hc8, hf9⟩ := v201_ok (g := g) (c := c) (hc_f rfl rfl (by decide) rfl hw) (by omega) (by omega) hh1
      subst er7
      obtain ⟨n, hh⟩ := rn_i rfl rfl rfl rfl hh
      have hh : pm_run PT n fr lo 230 (35, [some (.ref 162), some (.int (nI g)), some (.int (nI c))], [.int ((v201 q cc gc (fset h 162 0 (.int (nI 0))) g c).1)], (v201 q cc gc (fset h 162 0 (.int (nI 0))) g c).2, 198, sl) = some R := hh
      have er10 : R = (some (.int ((v201 q cc gc (fset h 162 0 (.int (nI 0))) g c).1)), (v201 q cc gc (fset h 162 0 (.int (nI 0))) g c).2, 198, sl) := (rn_ret rfl (Or.inl rfl) hh).2
      have ed : v230 q cc gc h g c = ((v201 q cc gc (fset h 162 0 (.int (nI 0))) g c).1, (v201 q cc gc (fset h 162 0 (.int (nI 0))) g c).2) := (ct z2).trans ((ct z5).trans rfl)
      refine ⟨?_, ?_, ?_⟩ <;> rw [ed]
      · exact er10
      · exact hc8
      · exact (fr_g rfl rfl hf9 (fr_f rfl rfl fr_0))
    | false =>
      have hh := en_nf z5 hh
      have hh : pm_run PT n fr lo 230 (34, [some (.ref 162), some (.int (nI g)), some (.int (nI c))], [], fset h 162 0 (.int (nI 0)), 198, sl) = some R := hh
      have y11 := of_decide_eq_false z5
      obtain ⟨n, hh⟩ := rn_i rfl rfl rfl rfl hh
      have hh : pm_run PT n fr lo 230 (35, [some (.ref 162), some (.int (nI g)), some (.int (nI c))], [.int (Int32.ofInt (-1))], fset h 162 0 (.int (nI 0)), 198, sl) = some R := hh
      have er12 : R = (some (.int (Int32.ofInt (-1))), fset h 162 0 (.int (nI 0)), 198, sl) := (rn_ret rfl (Or.inl rfl) hh).2
      have ed : v230 q cc gc h g c = ((Int32.ofInt (-1)), fset h 162 0 (.int (nI 0))) := (ct z2).trans ((cf z5).trans rfl)
      refine ⟨?_, ?_, ?_⟩ <;> rw [ed]
      · exact er12
      · exact (hc_f rfl rfl (by decide) rfl hw)
      · exact (fr_f rfl rfl fr_0)
  | false =>
    have hh := en_nf z2 hh
    have hh : pm_run PT n fr lo 230 (34, [some (.ref 162), some (.int (nI g)), some (.int (nI c))], [], fset h 162 0 (.int (nI 0)), 198, sl) = some R := hh
    have y13 := of_decide_eq_false z2
    obtain ⟨n, hh⟩ := rn_i rfl rfl rfl rfl hh
    have hh : pm_run PT n fr lo 230 (35, [some (.ref 162), some (.int (nI g)), some (.int (nI c))], [.int (Int32.ofInt (-1))], fset h 162 0 (.int (nI 0)), 198, sl) = some R := hh
    have er14 : R = (some (.int (Int32.ofInt (-1))), fset h 162 0 (.int (nI 0)), 198, sl) := (rn_ret rfl (Or.inl rfl) hh).2
    have ed : v230 q cc gc h g c = ((Int32.ofInt (-1)), fset h 162 0 (.int (nI 0))) := (cf z2).trans rfl
    refine ⟨?_, ?_, ?_⟩ <;> rw [ed]
    · exact er14
    · exact (hc_f rfl rfl (by decide) rfl hw)
    · exact (fr_f rfl rfl fr_0)
theorem v230_fr {cc gc : Nat} {q : QT} {h : pm_H} {g : Nat} {c : Nat} (hw : HC q cc gc h) : HC q cc gc ((v230 q cc gc h g c).2) ∧ frm [162, 176, 177] [(162, 0)] h ((v230 q cc gc h g c).2) := by
  unfold v230
  refine cd_s (P := fun (p : Int32 × pm_H) => HC q cc gc ((p).2) ∧ frm [162, 176, 177] [(162, 0)] h ((p).2)) (b := decide (g < gc)) (fun _ => ?_) (fun _ => ?_)
  · refine cd_s (P := fun (p : Int32 × pm_H) => HC q cc gc ((p).2) ∧ frm [162, 176, 177] [(162, 0)] h ((p).2)) (b := decide (c < cc)) (fun _ => ?_) (fun _ => ?_)
    · show HC q cc gc ((v201 q cc gc (fset h 162 0 (.int (nI 0))) g c).2) ∧ frm [162, 176, 177] [(162, 0)] h ((v201 q cc gc (fset h 162 0 (.int (nI 0))) g c).2)
      exact ⟨(v201_fr (g := g) (c := c) (hc_f rfl rfl (by decide) rfl hw)).1, (fr_g rfl rfl (v201_fr (g := g) (c := c) (hc_f rfl rfl (by decide) rfl hw)).2 (fr_f rfl rfl fr_0))⟩
    · show HC q cc gc (fset h 162 0 (.int (nI 0))) ∧ frm [162, 176, 177] [(162, 0)] h (fset h 162 0 (.int (nI 0)))
      exact ⟨(hc_f rfl rfl (by decide) rfl hw), (fr_f rfl rfl fr_0)⟩
  · show HC q cc gc (fset h 162 0 (.int (nI 0))) ∧ frm [162, 176, 177] [(162, 0)] h (fset h 162 0 (.int (nI 0)))
    exact ⟨(hc_f rfl rfl (by decide) rfl hw), (fr_f rfl rfl fr_0)⟩
def v231_28b (q : QT) (cc gc : Nat) (h : pm_H) (m1 : Nat) (i : Nat) (x2 : Int32) (x3 : Int32) (x4 : Int32) : Int32 × Int32 × Int32 × pm_H := cond (pm_cmp .eq (nI i) ((Ar h 170) (78 + m1))) (x2, x3, x4, h) (cond (pm_cmp .le ((v201 q cc gc h m1 i).1) x3) x2 (nI i), imax x3 ((v201 q cc gc h m1 i).1), imin x4 ((v201 q cc gc h m1 i).1), (v201 q cc gc h m1 i).2)
def v231_28 (q : QT) (cc gc : Nat) (m1 : Nat) (j i : Nat) (a : Int32 × Int32 × Int32 × pm_H) : Int32 × Int32 × Int32 × pm_H := lp (fun i a => v231_28b q cc gc a.2.2.2 m1 i a.1 a.2.1 a.2.2.1) j i a
theorem v231_28_e {n fr lo sl cc gc : Nat} {q : QT} {h : pm_H} {R : pm_Rs} {m1 : Nat} {i : Nat} {x2 : Int32} {x3 : Int32} {x4 : Int32} {o6 : Option Value} (hw : HC q cc gc h) (h_m1 : m1 < 10000) (hi : cc ≤ i) (hI : i < 1000000) (hh : pm_run PT n fr lo 231 (28, [some (.ref 162), some (.int (nI m1)), some (.int x2), some (.int x3), some (.int x4), some (.int (nI i)), o6], [], h, 198, sl) = some R) : ∃ m, pm_run PT m fr lo 231 (99, [some (.ref 162), some (.int (nI m1)), some (.int x2), some (.int x3), some (.int x4), some (.int (nI i)), o6], [], h, 198, sl) = some R := by
  have hcc := hw.cb
  have hgc := hw.gb
  have hzr := hw.zr
  obtain ⟨n, hh⟩ := rn_i rfl rfl rfl rfl hh
  obtain ⟨n, hh⟩ := rn_i rfl rfl rfl rfl hh
  have hh : pm_run PT n fr lo 231 (31, [some (.ref 162), some (.int (nI m1)), some (.int x2), some (.int x3), some (.int x4), some (.int (nI i)), o6], [.ref 162, .int (nI i)], h, 198, sl) = some R := hh
  obtain ⟨n, hh⟩ := rn_gi (x := nI cc) hw.wt rfl rfl (by decide) rfl (by decide) rfl hw.m3 hh
  have hh : pm_run PT n fr lo 231 (34, [some (.ref 162), some (.int (nI m1)), some (.int x2), some (.int x3), some (.int x4), some (.int (nI i)), o6], [.int (nI cc), .int (nI i)], h, 198, sl) = some R := hh
  obtain ⟨n, hh⟩ := en_cn (cc := .ge) (off := 65) (t := 99) (b := decide (cc ≤ i)) (hI_ge (by omega) (by omega)) rfl rfl hh
  have hh := en_t (show decide (cc ≤ i) = true from decide_eq_true (by omega)) hh
  have hh : pm_run PT n fr lo 231 (99, [some (.ref 162), some (.int (nI m1)), some (.int x2), some (.int x3), some (.int x4), some (.int (nI i)), o6], [], h, 198, sl) = some R := hh
  exact ⟨n, hh⟩
theorem v231_28_s {n fr lo sl cc gc : Nat} {q : QT} {h : pm_H} {R : pm_Rs} {m1 : Nat} {i : Nat} {x2 : Int32} {x3 : Int32} {x4 : Int32} {o6 : Option Value} (hw : HC q cc gc h) (h_m1 : m1 < 10000) (hi : i < cc) (hI : i < 1000000) (hh : pm_run PT n fr lo 231 (28, [some (.ref 162), some (.int (nI m1)), some (.int x2), some (.int x3), some (.int x4), some (.int (nI i)), o6], [], h, 198, sl) = some R) : ∃ m w6, HC q cc gc ((v231_28b q cc gc h m1 i x2 x3 x4).2.2.2) ∧ frm [176, 177] [] h ((v231_28b q cc gc h m1 i x2 x3 x4).2.2.2) ∧ pm_run PT m fr lo 231 (28, [some (.ref 162), some (.int (nI m1)), some (.int ((v231_28b q cc gc h m1 i x2 x3 x4).1)), some (.int ((v231_28b q cc gc h m1 i x2 x3 x4).2.1)), some (.int ((v231_28b q cc gc h m1 i x2 x3 x4).2.2.1)), some (.int (nI (i + 1))), w6], [], (v231_28b q cc gc h m1 i x2 x3 x4).2.2.2, 198, sl) = some R := by
  have hcc := hw.cb
  have hgc := hw.gb
  have hzr := hw.zr
  obtain ⟨n, hh⟩ := rn_i rfl rfl rfl rfl hh
  obtain ⟨n, hh⟩ := rn_i rfl rfl rfl rfl hh
  have hh : pm_run PT n fr lo 231 (31, [some (.ref 162), some (.int (nI m1)), some (.int x2), some (.int x3), some (.int x4), some (.int (nI i)), o6], [.ref 162, .int (nI i)], h, 198, sl) = some R := hh
  obtain ⟨n, hh⟩ := rn_gi (x := nI cc) hw.wt rfl rfl (by decide) rfl (by decide) rfl hw.m3 hh
  have hh : pm_run PT n fr lo 231 (34, [some (.ref 162), some (.int (nI m1)), some (.int x2), some (.int x3), some (.int x4), some (.int (nI i)), o6], [.int (nI cc), .int (nI i)], h, 198, sl) = some R := hh
  obtain ⟨n, hh⟩ := en_cn (cc := .ge) (off := 65) (t := 99) (b := decide (cc ≤ i)) (hI_ge (by omega) (by omega)) rfl rfl hh
  have hh := en_f (show decide (cc ≤ i) = false from decide_eq_false (by omega)) hh
  have hh : pm_run PT n fr lo 231 (37, [some (.ref 162), some (.int (nI m1)), some (.int x2), some (.int x3), some (.int x4), some (.int (nI i)), o6], [], h, 198, sl) = some R := hh
  obtain ⟨n, hh⟩ := rn_i rfl rfl rfl rfl hh
  obtain ⟨n, hh⟩ := rn_i rfl rfl rfl rfl hh
  have hh : pm_run PT n fr lo 231 (40, [some (.ref 162), some (.int (nI m1)), some (.int x2), some (.int x3), some (.int x4), some (.int (nI i)), o6], [.ref 162, .int (nI i)], h, 198, sl) = some R := hh
  obtain ⟨n, hh⟩ := rn_gr hw.wt rfl rfl (by decide) rfl (by decide) (show _ = some (2, ((170 : Nat) : Int), 1) from rfl) rfl hh
  obtain ⟨n, hh⟩ := rn_i rfl rfl rfl rfl hh
  obtain ⟨n, hh⟩ := rn_i rfl rfl rfl rfl hh
  have hh : pm_run PT n fr lo 231 (46, [some (.ref 162), some (.int (nI m1)), some (.int x2), some (.int x3), some (.int x4), some (.int (nI i)), o6], [.int (nI m1), .int (nI 78), .ref 170, .int (nI i)], h, 198, sl) = some R := hh
  obtain ⟨n, hh⟩ := en_add rfl hh
  have hh : pm_run PT n fr lo 231 (47, [some (.ref 162), some (.int (nI m1)), some (.int x2), some (.int x3), some (.int x4), some (.int (nI i)), o6], [.int (nI (78 + m1)), .ref 170, .int (nI i)], h, 198, sl) = some R := hh
  have hh : pm_run PT n fr lo 231 (47, [some (.ref 162), some (.int (nI m1)), some (.int x2), some (.int x3), some (.int x4), some (.int (nI i)), o6], [.int (nI (78 + m1)), .ref 170, .int (nI i)], h, 198, sl) = some R := hh
  obtain ⟨n, hx4, hh⟩ := en_lu (t := 78 + m1) (f := Ar h 170) (w := (Ar h 170) (78 + m1)) (nI_clamp (by omega)) hw.wt rfl (by decide) rfl (by decide) rfl (fun _ => rfl) hh
  have hh : pm_run PT n fr lo 231 (48, [some (.ref 162), some (.int (nI m1)), some (.int x2), some (.int x3), some (.int x4), some (.int (nI i)), o6], [.int ((Ar h 170) (78 + m1)), .int (nI i)], h, 198, sl) = some R := hh
  obtain ⟨n, hh⟩ := en_cn (cc := .eq) (off := 45) (t := 93) (b := pm_cmp .eq (nI i) ((Ar h 170) (78 + m1))) rfl rfl rfl hh
  cases z5 : pm_cmp .eq (nI i) ((Ar h 170) (78 + m1)) with
  | true =>
    have hh := en_t z5 hh
    have hh : pm_run PT n fr lo 231 (93, [some (.ref 162), some (.int (nI m1)), some (.int x2), some (.int x3), some (.int x4), some (.int (nI i)), o6], [], h, 198, sl) = some R := hh
    have hh : pm_run PT n fr lo 231 (93, [some (.ref 162), some (.int (nI m1)), some (.int x2), some (.int x3), some (.int x4), some (.int (nI i)), o6], [], h, 198, sl) = some R := hh
    obtain ⟨n, hh⟩ := en_inc (x := i) (c := 1) (j := 5) rfl rfl (by decide) hh
    have hh : pm_run PT n fr lo 231 (96, [some (.ref 162), some (.int (nI m1)), some (.int x2), some (.int x3), some (.int x4), some (.int (nI (i + 1))), o6], [], h, 198, sl) = some R := hh
    obtain ⟨n, hh⟩ := rn_i rfl rfl rfl rfl hh
    have ed : v231_28b q cc gc h m1 i x2 x3 x4 = (x2, x3, x4, h) := (ct z5).trans rfl
    rw [ed]
    exact ⟨n, o6, hw, fr_0, hh⟩
  | false =>
    have hh := en_f z5 hh
    have hh : pm_run PT n fr lo 231 (51, [some (.ref 162), some (.int (nI m1)), some (.int x2), some (.int x3), some (.int x4), some (.int (nI i)), o6], [], h, 198, sl) = some R := hh
    obtain ⟨n, hh⟩ := rn_i rfl rfl rfl rfl hh
    obtain ⟨n, hh⟩ := rn_i rfl rfl rfl rfl hh
    have hh : pm_run PT n fr lo 231 (53, [some (.ref 162), some (.int (nI m1)), some (.int x2), some (.int x3), some (.int x4), some (.int (nI i)), o6], [.ref 162, .ref 162], h, 198, sl) = some R := hh
    obtain ⟨n, hh⟩ := rn_gr hw.wt rfl rfl (by decide) rfl (by decide) (show _ = some (2, ((170 : Nat) : Int), 1) from rfl) rfl hh
    obtain ⟨n, hh⟩ := rn_i rfl rfl rfl rfl hh
    obtain ⟨n, hh⟩ := rn_i rfl rfl rfl rfl hh
    have hh : pm_run PT n fr lo 231 (59, [some (.ref 162), some (.int (nI m1)), some (.int x2), some (.int x3), some (.int x4), some (.int (nI i)), o6], [.int (nI i), .int (nI m1), .ref 170, .ref 162], h, 198, sl) = some R := hh
    obtain ⟨n, fr1, lo1, r1, hh1, hh⟩ := rn_call (w := 0) (t := 201) rfl rfl hh
    obtain ⟨er6, hc7, hf8⟩ := v201_ok (g := m1) (c := i) hw (by omega) (by omega) hh1
    subst er6
    obtain ⟨n, hh⟩ := rn_i rfl rfl rfl rfl hh
    obtain ⟨n, hh⟩ := rn_i rfl rfl rfl rfl hh
    obtain ⟨n, hh⟩ := rn_i rfl rfl rfl rfl hh
    have hh : pm_run PT n fr lo 231 (67, [some (.ref 162), some (.int (nI m1)), some (.int x2), some (.int x3), some (.int x4), some (.int (nI i)), some (.int ((v201 q cc gc h m1 i).1))], [.int x3, .int ((v201 q cc gc h m1 i).1)], (v201 q cc gc h m1 i).2, 198, sl) = some R := hh
    obtain ⟨n, hh⟩ := en_cn (cc := .le) (off := 8) (t := 75) (b := pm_cmp .le ((v201 q cc gc h m1 i).1) x3) rfl rfl rfl hh
    have hj10 : ∃ mJ, pm_run PT mJ fr lo 231 (cond (pm_cmp .le ((v201 q cc gc h m1 i).1) x3) (76, [some (.ref 162), some (.int (nI m1)), some (.int x2), some (.int x3), some (.int x4), some (.int (nI i)), some (.int ((v201 q cc gc h m1 i).1))], [.int x2], (v201 q cc gc h m1 i).2, 198, sl) (76, [some (.ref 162), some (.int (nI m1)), some (.int x2), some (.int x3), some (.int x4), some (.int (nI i)), some (.int ((v201 q cc gc h m1 i).1))], [.int (nI i)], (v201 q cc gc h m1 i).2, 198, sl)) = some R := en_J (fun z9 => by
        have hh := en_t z9 hh
        have hh : pm_run PT n fr lo 231 (75, [some (.ref 162), some (.int (nI m1)), some (.int x2), some (.int x3), some (.int x4), some (.int (nI i)), some (.int ((v201 q cc gc h m1 i).1))], [], (v201 q cc gc h m1 i).2, 198, sl) = some R := hh
        obtain ⟨n, hh⟩ := rn_i rfl rfl rfl rfl hh
        exact ⟨n, hh⟩) (fun z9 => by
        have hh := en_f z9 hh
        have hh : pm_run PT n fr lo 231 (70, [some (.ref 162), some (.int (nI m1)), some (.int x2), some (.int x3), some (.int x4), some (.int (nI i)), some (.int ((v201 q cc gc h m1 i).1))], [], (v201 q cc gc h m1 i).2, 198, sl) = some R := hh
        obtain ⟨n, hh⟩ := rn_i rfl rfl rfl rfl hh
        obtain ⟨n, hh⟩ := rn_i rfl rfl rfl rfl hh
        exact ⟨n, hh⟩)
    obtain ⟨n, hh⟩ := hj10
    rw [show (cond (pm_cmp .le ((v201 q cc gc h m1 i).1) x3) (76, [some (.ref 162), some (.int (nI m1)), some (.int x2), some (.int x3), some (.int x4), some (.int (nI i)), some (.int ((v201 q cc gc h m1 i).1))], [.int x2], (v201 q cc gc h m1 i).2, 198, sl) (76, [some (.ref 162), some (.int (nI m1)), some (.int x2), some (.int x3), some (.int x4), some (.int (nI i)), some (.int ((v201 q cc gc h m1 i).1))], [.int (nI i)], (v201 q cc gc h m1 i).2, 198, sl) : pm_St) = (76, [some (.ref 162), some (.int (nI m1)), some (.int x2), some (.int x3), some (.int x4), some (.int (nI i)), some (.int ((v201 q cc gc h m1 i).1))], [.int (cond (pm_cmp .le ((v201 q cc gc h m1 i).1) x3) x2 (nI i))], (v201 q cc gc h m1 i).2, 198, sl) from by cases (pm_cmp .le ((v201 q cc gc h m1 i).1) x3) <;> rfl] at hh
    obtain ⟨n, hh⟩ := rn_i rfl rfl rfl rfl hh
    obtain ⟨n, hh⟩ := rn_i rfl rfl rfl rfl hh
    obtain ⟨n, hh⟩ := rn_i rfl rfl rfl rfl hh
    have hh : pm_run PT n fr lo 231 (80, [some (.ref 162), some (.int (nI m1)), some (.int (cond (pm_cmp .le ((v201 q cc gc h m1 i).1) x3) x2 (nI i))), some (.int x3), some (.int x4), some (.int (nI i)), some (.int ((v201 q cc gc h m1 i).1))], [.int ((v201 q cc gc h m1 i).1), .int x3], (v201 q cc gc h m1 i).2, 198, sl) = some R := hh
    obtain ⟨n, hh⟩ := en_max rfl rfl rfl hh
    obtain ⟨n, hh⟩ := rn_i rfl rfl rfl rfl hh
    obtain ⟨n, hh⟩ := rn_i rfl rfl rfl rfl hh
    obtain ⟨n, hh⟩ := rn_i rfl rfl rfl rfl hh
    have hh : pm_run PT n fr lo 231 (88, [some (.ref 162), some (.int (nI m1)), some (.int (cond (pm_cmp .le ((v201 q cc gc h m1 i).1) x3) x2 (nI i))), some (.int (imax x3 ((v201 q cc gc h m1 i).1))), some (.int x4), some (.int (nI i)), some (.int ((v201 q cc gc h m1 i).1))], [.int ((v201 q cc gc h m1 i).1), .int x4], (v201 q cc gc h m1 i).2, 198, sl) = some R := hh
    obtain ⟨n, hh⟩ := en_min rfl rfl rfl hh
    obtain ⟨n, hh⟩ := rn_i rfl rfl rfl rfl hh
    have hh : pm_run PT n fr lo 231 (93, [some (.ref 162), some (.int (nI m1)), some (.int (cond (pm_cmp .le ((v201 q cc gc h m1 i).1) x3) x2 (nI i))), some (.int (imax x3 ((v201 q cc gc h m1 i).1))), some (.int (imin x4 ((v201 q cc gc h m1 i).1))), some (.int (nI i)), some (.int ((v201 q cc gc h m1 i).1))], [], (v201 q cc gc h m1 i).2, 198, sl) = some R := hh
    obtain ⟨n, hh⟩ := en_inc (x := i) (c := 1) (j := 5) rfl rfl (by decide) hh
    have hh : pm_run PT n fr lo 231 (96, [some (.ref 162), some (.int (nI m1)), some (.int (cond (pm_cmp .le ((v201 q cc gc h m1 i).1) x3) x2 (nI i))), some (.int (imax x3 ((v201 q cc gc h m1 i).1))), some (.int (imin x4 ((v201 q cc gc h m1 i).1))), some (.int (nI (i + 1))), some (.int ((v201 q cc gc h m1 i).1))], [], (v201 q cc gc h m1 i).2, 198, sl) = some R := hh
    obtain ⟨n, hh⟩ := rn_i rfl rfl rfl rfl hh
    have ed : v231_28b q cc gc h m1 i x2 x3 x4 = (cond (pm_cmp .le ((v201 q cc gc h m1 i).1) x3) x2 (nI i), imax x3 ((v201 q cc gc h m1 i).1), imin x4 ((v201 q cc gc h m1 i).1), (v201 q cc gc h m1 i).2) := (cf z5).trans rfl
    rw [ed]
    exact ⟨n, some (.int ((v201 q cc gc h m1 i).1)), hc7, (fr_g rfl rfl hf8 fr_0), hh⟩
theorem v231_28_ok {fr lo sl cc gc : Nat} {q : QT} {R : pm_Rs} {m1 : Nat} : ∀ {j i : Nat} {x2 : Int32} {x3 : Int32} {x4 : Int32} {o6 : Option Value} {h : pm_H} {n : Nat}, cc - i = j → i + j < 1000000 → HC q cc gc h → m1 < 10000 → pm_run PT n fr lo 231 (28, [some (.ref 162), some (.int (nI m1)), some (.int x2), some (.int x3), some (.int x4), some (.int (nI i)), o6], [], h, 198, sl) = some R → ∃ m wc w6, HC q cc gc ((v231_28 q cc gc m1 j i (x2, x3, x4, h)).2.2.2) ∧ frm [176, 177] [] h ((v231_28 q cc gc m1 j i (x2, x3, x4, h)).2.2.2) ∧ pm_run PT m fr lo 231 (99, [some (.ref 162), some (.int (nI m1)), some (.int ((v231_28 q cc gc m1 j i (x2, x3, x4, h)).1)), some (.int ((v231_28 q cc gc m1 j i (x2, x3, x4, h)).2.1)), some (.int ((v231_28 q cc gc m1 j i (x2, x3, x4, h)).2.2.1)), wc, w6], [], (v231_28 q cc gc m1 j i (x2, x3, x4, h)).2.2.2, 198, sl) = some R := by
  intro j
  induction j with
  | zero =>
    intro i x2 x3 x4 o6 h n e eI hw h_m1 hh
    obtain ⟨n, hh⟩ := v231_28_e hw h_m1 (by omega) (by omega) hh
    exact ⟨n, _, o6, hw, fr_0, hh⟩
  | succ j ih =>
    intro i x2 x3 x4 o6 h n e eI hw h_m1 hh
    obtain ⟨n, w6, hc, hf, hh⟩ := v231_28_s hw h_m1 (by omega) (by omega) hh
    obtain ⟨n, wc, v6, hc2, hf2, hh⟩ := ih (by omega) (by omega) hc h_m1 hh
    exact ⟨n, wc, v6, hc2, fr_t hf2 hf, hh⟩
theorem v231_28_fb {cc gc : Nat} {q : QT} {h : pm_H} {m1 : Nat} {i : Nat} {x2 : Int32} {x3 : Int32} {x4 : Int32} (hw : HC q cc gc h) : HC q cc gc ((v231_28b q cc gc h m1 i x2 x3 x4).2.2.2) ∧ frm [176, 177] [] h ((v231_28b q cc gc h m1 i x2 x3 x4).2.2.2) := by
  unfold v231_28b
  refine cd_s (P := fun (p : Int32 × Int32 × Int32 × pm_H) => HC q cc gc ((p).2.2.2) ∧ frm [176, 177] [] h ((p).2.2.2)) (b := pm_cmp .eq (nI i) ((Ar h 170) (78 + m1))) (fun _ => ?_) (fun _ => ?_)
  · show HC q cc gc (h) ∧ frm [176, 177] [] h (h)
    exact ⟨hw, fr_0⟩
  · show HC q cc gc ((v201 q cc gc h m1 i).2) ∧ frm [176, 177] [] h ((v201 q cc gc h m1 i).2)
    exact ⟨(v201_fr (g := m1) (c := i) hw).1, (fr_g rfl rfl (v201_fr (g := m1) (c := i) hw).2 fr_0)⟩
theorem v231_28_fr {cc gc : Nat} {q : QT} {m1 : Nat} : ∀ {j i : Nat} {x2 : Int32} {x3 : Int32} {x4 : Int32} {h : pm_H}, HC q cc gc h → HC q cc gc ((v231_28 q cc gc m1 j i (x2, x3, x4, h)).2.2.2) ∧ frm [176, 177] [] h ((v231_28 q cc gc m1 j i (x2, x3, x4, h)).2.2.2) := by
  intro j
  induction j with
  | zero =>
    intro i x2 x3 x4 h hw
    exact ⟨hw, fr_0⟩
  | succ j ih =>
    intro i x2 x3 x4 h hw
    obtain ⟨a1, a2⟩ := v231_28_fb (i := i) (m1 := m1) (x2 := x2) (x3 := x3) (x4 := x4) hw
    obtain ⟨b1, b2⟩ := ih (i := i + 1) a1
    exact ⟨b1, fr_t b2 a2⟩
def v231 (q : QT) (cc gc : Nat) (h : pm_H) (g : Nat) : Int32 × pm_H := cond (decide (g < gc)) (cond (pm_cmp .lt ((v231_28 q cc gc g cc 0 ((Int32.ofInt (-2)), (Int32.ofInt (-1)), (nI 1000000), fset h 162 0 (.int (nI 0)))).1) 0) ((v231_28 q cc gc g cc 0 ((Int32.ofInt (-2)), (Int32.ofInt (-1)), (nI 1000000), fset h 162 0 (.int (nI 0)))).1, (v231_28 q cc gc g cc 0 ((Int32.ofInt (-2)), (Int32.ofInt (-1)), (nI 1000000), fset h 162 0 (.int (nI 0)))).2.2.2) ((v231_28 q cc gc g cc 0 ((Int32.ofInt (-2)), (Int32.ofInt (-1)), (nI 1000000), fset h 162 0 (.int (nI 0)))).1, v167 q cc gc (v167 q cc gc (fset ((v231_28 q cc gc g cc 0 ((Int32.ofInt (-2)), (Int32.ofInt (-1)), (nI 1000000), fset h 162 0 (.int (nI 0)))).2.2.2) 162 1 (.int (nI 0))) (((v231_28 q cc gc g cc 0 ((Int32.ofInt (-2)), (Int32.ofInt (-1)), (nI 1000000), fset h 162 0 (.int (nI 0)))).2.1).toInt64)) (((v231_28 q cc gc g cc 0 ((Int32.ofInt (-2)), (Int32.ofInt (-1)), (nI 1000000), fset h 162 0 (.int (nI 0)))).2.2.1).toInt64))) ((Int32.ofInt (-1)), fset h 162 0 (.int (nI 0)))
theorem v231_ok {n fr lo sl cc gc : Nat} {q : QT} {h : pm_H} {R : pm_Rs} {g : Nat} (hw : HC q cc gc h) (h_g : g < 10000) (hh : pm_run PT n fr lo 231 (0, pm_l0 [.ref 162, .int (nI g)] 7, [], h, 198, sl) = some R) : R = (some (.int ((v231 q cc gc h g).1)), (v231 q cc gc h g).2, 198, sl) ∧ HC q cc gc ((v231 q cc gc h g).2) ∧ frm [162, 163, 176, 177] [(162, 0), (162, 1)] h ((v231 q cc gc h g).2) := by
  have hcc := hw.cb
  have hgc := hw.gb
  have hzr := hw.zr
  obtain ⟨n, hh⟩ := rn_i rfl rfl rfl rfl hh
  obtain ⟨n, hh⟩ := rn_i rfl rfl rfl rfl hh
  have hh : pm_run PT n fr lo 231 (2, [some (.ref 162), some (.int (nI g)), none, none, none, none, none], [.int (nI 0), .ref 162], h, 198, sl) = some R := hh
  obtain ⟨n, hh⟩ := rn_pi hw.wt rfl rfl (by decide) rfl (by decide) rfl hh
  obtain ⟨n, hh⟩ := rn_i rfl rfl rfl rfl hh
  obtain ⟨n, hh⟩ := rn_i rfl rfl rfl rfl hh
  have hh : pm_run PT n fr lo 231 (7, [some (.ref 162), some (.int (nI g)), none, none, none, none, none], [.int (nI g), .ref 162], fset h 162 0 (.int (nI 0)), 198, sl) = some R := hh
  obtain ⟨n, fr1, lo1, r1, hh1, hh⟩ := rn_call (w := 0) (t := 169) rfl rfl hh
  have er1 := en_mg hgc (hc_m4 (hc_f rfl rfl (by decide) rfl hw)) hh1
  rw [cB_n (by omega)] at er1
  subst er1
  have hh : pm_run PT n fr lo 231 (10, [some (.ref 162), some (.int (nI g)), none, none, none, none, none], [.int (cond (decide (g < gc)) 1 0)], fset h 162 0 (.int (nI 0)), 198, sl) = some R := hh
  obtain ⟨n, hh⟩ := en_zn (cc := .ne) (off := 5) (t := 15) (b := decide (g < gc)) eb_ne rfl rfl hh
  cases z2 : decide (g < gc) with
  | true =>
    have hh := en_t z2 hh
    have hh : pm_run PT n fr lo 231 (15, [some (.ref 162), some (.int (nI g)), none, none, none, none, none], [], fset h 162 0 (.int (nI 0)), 198, sl) = some R := hh
    have y3 := of_decide_eq_true z2
    obtain ⟨n, hh⟩ := rn_i rfl rfl rfl rfl hh
    obtain ⟨n, hh⟩ := rn_i rfl rfl rfl rfl hh
    obtain ⟨n, hh⟩ := rn_i rfl rfl rfl rfl hh
    obtain ⟨n, hh⟩ := rn_i rfl rfl rfl rfl hh
    obtain ⟨n, hh⟩ := rn_i rfl rfl rfl rfl hh
    obtain ⟨n, hh⟩ := rn_i rfl rfl rfl rfl hh
    obtain ⟨n, hh⟩ := rn_i rfl rfl rfl rfl hh
    obtain ⟨n, hh⟩ := rn_i rfl rfl rfl rfl hh
    have hh : pm_run PT n fr lo 231 (28, [some (.ref 162), some (.int (nI g)), some (.int (Int32.ofInt (-2))), some (.int (Int32.ofInt (-1))), some (.int (nI 1000000)), some (.int (nI 0)), none], [], fset h 162 0 (.int (nI 0)), 198, sl) = some R := hh
    obtain ⟨n, u5, u4, hc6, hf7, hh⟩ := v231_28_ok (m1 := g)  (i := 0) (x2 := (Int32.ofInt (-2))) (x3 := (Int32.ofInt (-1))) (x4 := (nI 1000000)) (o6 := none) (j := cc) (by omega) (by omega) (hc_f rfl rfl (by decide) rfl hw) (by omega) hh
    have hh : pm_run PT n fr lo 231 (99, [some (.ref 162), some (.int (nI g)), some (.int ((v231_28 q cc gc g cc 0 ((Int32.ofInt (-2)), (Int32.ofInt (-1)), (nI 1000000), fset h 162 0 (.int (nI 0)))).1)), some (.int ((v231_28 q cc gc g cc 0 ((Int32.ofInt (-2)), (Int32.ofInt (-1)), (nI 1000000), fset h 162 0 (.int (nI 0)))).2.1)), some (.int ((v231_28 q cc gc g cc 0 ((Int32.ofInt (-2)), (Int32.ofInt (-1)), (nI 1000000), fset h 162 0 (.int (nI 0)))).2.2.1)), u5, u4], [], (v231_28 q cc gc g cc 0 ((Int32.ofInt (-2)), (Int32.ofInt (-1)), (nI 1000000), fset h 162 0 (.int (nI 0)))).2.2.2, 198, sl) = some R := hh
    obtain ⟨n, hh⟩ := rn_i rfl rfl rfl rfl hh
    have hh : pm_run PT n fr lo 231 (100, [some (.ref 162), some (.int (nI g)), some (.int ((v231_28 q cc gc g cc 0 ((Int32.ofInt (-2)), (Int32.ofInt (-1)), (nI 1000000), fset h 162 0 (.int (nI 0)))).1)), some (.int ((v231_28 q cc gc g cc 0 ((Int32.ofInt (-2)), (Int32.ofInt (-1)), (nI 1000000), fset h 162 0 (.int (nI 0)))).2.1)), some (.int ((v231_28 q cc gc g cc 0 ((Int32.ofInt (-2)), (Int32.ofInt (-1)), (nI 1000000), fset h 162 0 (.int (nI 0)))).2.2.1)), u5, u4], [.int ((v231_28 q cc gc g cc 0 ((Int32.ofInt (-2)), (Int32.ofInt (-1)), (nI 1000000), fset h 162 0 (.int (nI 0)))).1)], (v231_28 q cc gc g cc 0 ((Int32.ofInt (-2)), (Int32.ofInt (-1)), (nI 1000000), fset h 162 0 (.int (nI 0)))).2.2.2, 198, sl) = some R := hh
    obtain ⟨n, hh⟩ := en_zn (cc := .lt) (off := 21) (t := 121) (b := pm_cmp .lt ((v231_28 q cc gc g cc 0 ((Int32.ofInt (-2)), (Int32.ofInt (-1)), (nI 1000000), fset h 162 0 (.int (nI 0)))).1) 0) rfl rfl rfl hh
    cases z8 : pm_cmp .lt ((v231_28 q cc gc g cc 0 ((Int32.ofInt (-2)), (Int32.ofInt (-1)), (nI 1000000), fset h 162 0 (.int (nI 0)))).1) 0 with
    | true =>
      have hh := en_t z8 hh
      have hh : pm_run PT n fr lo 231 (121, [some (.ref 162), some (.int (nI g)), some (.int ((v231_28 q cc gc g cc 0 ((Int32.ofInt (-2)), (Int32.ofInt (-1)), (nI 1000000), fset h 162 0 (.int (nI 0)))).1)), some (.int ((v231_28 q cc gc g cc 0 ((Int32.ofInt (-2)), (Int32.ofInt (-1)), (nI 1000000), fset h 162 0 (.int (nI 0)))).2.1)), some (.int ((v231_28 q cc gc g cc 0 ((Int32.ofInt (-2)), (Int32.ofInt (-1)), (nI 1000000), fset h 162 0 (.int (nI 0)))).2.2.1)), u5, u4], [], (v231_28 q cc gc g cc 0 ((Int32.ofInt (-2)), (Int32.ofInt (-1)), (nI 1000000), fset h 162 0 (.int (nI 0)))).2.2.2, 198, sl) = some R := hh
      obtain ⟨n, hh⟩ := rn_i rfl rfl rfl rfl hh
      have hh : pm_run PT n fr lo 231 (122, [some (.ref 162), some (.int (nI g)), some (.int ((v231_28 q cc gc g cc 0 ((Int32.ofInt (-2)), (Int32.ofInt (-1)), (nI 1000000), fset h 162 0 (.int (nI 0)))).1)), some (.int ((v231_28 q cc gc g cc 0 ((Int32.ofInt (-2)), (Int32.ofInt (-1)), (nI 1000000), fset h 162 0 (.int (nI 0)))).2.1)), some (.int ((v231_28 q cc gc g cc 0 ((Int32.ofInt (-2)), (Int32.ofInt (-1)), (nI 1000000), fset h 162 0 (.int (nI 0)))).2.2.1)), u5, u4], [.int ((v231_28 q cc gc g cc 0 ((Int32.ofInt (-2)), (Int32.ofInt (-1)), (nI 1000000), fset h 162 0 (.int (nI 0)))).1)], (v231_28 q cc gc g cc 0 ((Int32.ofInt (-2)), (Int32.ofInt (-1)), (nI 1000000), fset h 162 0 (.int (nI 0)))).2.2.2, 198, sl) = some R := hh
      have er9 : R = (some (.int ((v231_28 q cc gc g cc 0 ((Int32.ofInt (-2)), (Int32.ofInt (-1)), (nI 1000000), fset h 162 0 (.int (nI 0)))).1)), (v231_28 q cc gc g cc 0 ((Int32.ofInt (-2)), (Int32.ofInt (-1)), (nI 1000000), fset h 162 0 (.int (nI 0)))).2.2.2, 198, sl) := (rn_ret rfl (Or.inl rfl) hh).2
      have ed : v231 q cc gc h g = ((v231_28 q cc gc g cc 0 ((Int32.ofInt (-2)), (Int32.ofInt (-1)), (nI 1000000), fset h 162 0 (.int (nI 0)))).1, (v231_28 q cc gc g cc 0 ((Int32.ofInt (-2)), (Int32.ofInt (-1)), (nI 1000000), fset h 162 0 (.int (nI 0)))).2.2.2) := (ct z2).trans ((ct z8).trans rfl)
      refine ⟨?_, ?_, ?_⟩ <;> rw [ed]
      · exact er9
      · exact hc6
      · exact (fr_g rfl rfl hf7 (fr_f rfl rfl fr_0))
    | false =>
      have hh := en_f z8 hh
      have hh : pm_run PT n fr lo 231 (103, [some (.ref 162), some (.int (nI g)), some (.int ((v231_28 q cc gc g cc 0 ((Int32.ofInt (-2)), (Int32.ofInt (-1)), (nI 1000000), fset h 162 0 (.int (nI 0)))).1)), some (.int ((v231_28 q cc gc g cc 0 ((Int32.ofInt (-2)), (Int32.ofInt (-1)), (nI 1000000), fset h 162 0 (.int (nI 0)))).2.1)), some (.int ((v231_28 q cc gc g cc 0 ((Int32.ofInt (-2)), (Int32.ofInt (-1)), (nI 1000000), fset h 162 0 (.int (nI 0)))).2.2.1)), u5, u4], [], (v231_28 q cc gc g cc 0 ((Int32.ofInt (-2)), (Int32.ofInt (-1)), (nI 1000000), fset h 162 0 (.int (nI 0)))).2.2.2, 198, sl) = some R := hh
      obtain ⟨n, hh⟩ := rn_i rfl rfl rfl rfl hh
      obtain ⟨n, hh⟩ := rn_i rfl rfl rfl rfl hh
      have hh : pm_run PT n fr lo 231 (105, [some (.ref 162), some (.int (nI g)), some (.int ((v231_28 q cc gc g cc 0 ((Int32.ofInt (-2)), (Int32.ofInt (-1)), (nI 1000000), fset h 162 0 (.int (nI 0)))).1)), some (.int ((v231_28 q cc gc g cc 0 ((Int32.ofInt (-2)), (Int32.ofInt (-1)), (nI 1000000), fset h 162 0 (.int (nI 0)))).2.1)), some (.int ((v231_28 q cc gc g cc 0 ((Int32.ofInt (-2)), (Int32.ofInt (-1)), (nI 1000000), fset h 162 0 (.int (nI 0)))).2.2.1)), u5, u4], [.int (nI 0), .ref 162], (v231_28 q cc gc g cc 0 ((Int32.ofInt (-2)), (Int32.ofInt (-1)), (nI 1000000), fset h 162 0 (.int (nI 0)))).2.2.2, 198, sl) = some R := hh
      obtain ⟨n, hh⟩ := rn_pi hc6.wt rfl rfl (by decide) rfl (by decide) rfl hh
      obtain ⟨n, hh⟩ := rn_i rfl rfl rfl rfl hh
      obtain ⟨n, hh⟩ := rn_i rfl rfl rfl rfl hh
      obtain ⟨n, hh⟩ := rn_i rfl rfl rfl rfl hh
      have hh : pm_run PT n fr lo 231 (111, [some (.ref 162), some (.int (nI g)), some (.int ((v231_28 q cc gc g cc 0 ((Int32.ofInt (-2)), (Int32.ofInt (-1)), (nI 1000000), fset h 162 0 (.int (nI 0)))).1)), some (.int ((v231_28 q cc gc g cc 0 ((Int32.ofInt (-2)), (Int32.ofInt (-1)), (nI 1000000), fset h 162 0 (.int (nI 0)))).2.1)), some (.int ((v231_28 q cc gc g cc 0 ((Int32.ofInt (-2)), (Int32.ofInt (-1)), (nI 1000000), fset h 162 0 (.int (nI 0)))).2.2.1)), u5, u4], [.long (((v231_28 q cc gc g cc 0 ((Int32.ofInt (-2)), (Int32.ofInt (-1)), (nI 1000000), fset h 162 0 (.int (nI 0)))).2.1).toInt64), .ref 162], fset ((v231_28 q cc gc g cc 0 ((Int32.ofInt (-2)), (Int32.ofInt (-1)), (nI 1000000), fset h 162 0 (.int (nI 0)))).2.2.2) 162 1 (.int (nI 0)), 198, sl) = some R := hh
      obtain ⟨n, fr1, lo1, r1, hh1, hh⟩ := rn_call (w := 0) (t := 167) rfl rfl hh
      obtain ⟨er10, hc11, hf12⟩ := v167_ok (v := (((v231_28 q cc gc g cc 0 ((Int32.ofInt (-2)), (Int32.ofInt (-1)), (nI 1000000), fset h 162 0 (.int (nI 0)))).2.1).toInt64)) (hc_f rfl rfl (by decide) rfl hc6) hh1
      subst er10
      obtain ⟨n, hh⟩ := rn_i rfl rfl rfl rfl hh
      obtain ⟨n, hh⟩ := rn_i rfl rfl rfl rfl hh
      obtain ⟨n, hh⟩ := rn_i rfl rfl rfl rfl hh
      have hh : pm_run PT n fr lo 231 (118, [some (.ref 162), some (.int (nI g)), some (.int ((v231_28 q cc gc g cc 0 ((Int32.ofInt (-2)), (Int32.ofInt (-1)), (nI 1000000), fset h 162 0 (.int (nI 0)))).1)), some (.int ((v231_28 q cc gc g cc 0 ((Int32.ofInt (-2)), (Int32.ofInt (-1)), (nI 1000000), fset h 162 0 (.int (nI 0)))).2.1)), some (.int ((v231_28 q cc gc g cc 0 ((Int32.ofInt (-2)), (Int32.ofInt (-1)), (nI 1000000), fset h 162 0 (.int (nI 0)))).2.2.1)), u5, u4], [.long (((v231_28 q cc gc g cc 0 ((Int32.ofInt (-2)), (Int32.ofInt (-1)), (nI 1000000), fset h 162 0 (.int (nI 0)))).2.2.1).toInt64), .ref 162], v167 q cc gc (fset ((v231_28 q cc gc g cc 0 ((Int32.ofInt (-2)), (Int32.ofInt (-1)), (nI 1000000), fset h 162 0 (.int (nI 0)))).2.2.2) 162 1 (.int (nI 0))) (((v231_28 q cc gc g cc 0 ((Int32.ofInt (-2)), (Int32.ofInt (-1)), (nI 1000000), fset h 162 0 (.int (nI 0)))).2.1).toInt64), 198, sl) = some R := hh
      obtain ⟨n, fr1, lo1, r1, hh1, hh⟩ := rn_call (w := 0) (t := 167) rfl rfl hh
      obtain ⟨er13, hc14, hf15⟩ := v167_ok (v := (((v231_28 q cc gc g cc 0 ((Int32.ofInt (-2)), (Int32.ofInt (-1)), (nI 1000000), fset h 162 0 (.int (nI 0)))).2.2.1).toInt64)) hc11 hh1
      subst er13
      obtain ⟨n, hh⟩ := rn_i rfl rfl rfl rfl hh
      have hh : pm_run PT n fr lo 231 (122, [some (.ref 162), some (.int (nI g)), some (.int ((v231_28 q cc gc g cc 0 ((Int32.ofInt (-2)), (Int32.ofInt (-1)), (nI 1000000), fset h 162 0 (.int (nI 0)))).1)), some (.int ((v231_28 q cc gc g cc 0 ((Int32.ofInt (-2)), (Int32.ofInt (-1)), (nI 1000000), fset h 162 0 (.int (nI 0)))).2.1)), some (.int ((v231_28 q cc gc g cc 0 ((Int32.ofInt (-2)), (Int32.ofInt (-1)), (nI 1000000), fset h 162 0 (.int (nI 0)))).2.2.1)), u5, u4], [.int ((v231_28 q cc gc g cc 0 ((Int32.ofInt (-2)), (Int32.ofInt (-1)), (nI 1000000), fset h 162 0 (.int (nI 0)))).1)], v167 q cc gc (v167 q cc gc (fset ((v231_28 q cc gc g cc 0 ((Int32.ofInt (-2)), (Int32.ofInt (-1)), (nI 1000000), fset h 162 0 (.int (nI 0)))).2.2.2) 162 1 (.int (nI 0))) (((v231_28 q cc gc g cc 0 ((Int32.ofInt (-2)), (Int32.ofInt (-1)), (nI 1000000), fset h 162 0 (.int (nI 0)))).2.1).toInt64)) (((v231_28 q cc gc g cc 0 ((Int32.ofInt (-2)), (Int32.ofInt (-1)), (nI 1000000), fset h 162 0 (.int (nI 0)))).2.2.1).toInt64), 198, sl) = some R := hh
      have er16 : R = (some (.int ((v231_28 q cc gc g cc 0 ((Int32.ofInt (-2)), (Int32.ofInt (-1)), (nI 1000000), fset h 162 0 (.int (nI 0)))).1)), v167 q cc gc (v167 q cc gc (fset ((v231_28 q cc gc g cc 0 ((Int32.ofInt (-2)), (Int32.ofInt (-1)), (nI 1000000), fset h 162 0 (.int (nI 0)))).2.2.2) 162 1 (.int (nI 0))) (((v231_28 q cc gc g cc 0 ((Int32.ofInt (-2)), (Int32.ofInt (-1)), (nI 1000000), fset h 162 0 (.int (nI 0)))).2.1).toInt64)) (((v231_28 q cc gc g cc 0 ((Int32.ofInt (-2)), (Int32.ofInt (-1)), (nI 1000000), fset h 162 0 (.int (nI 0)))).2.2.1).toInt64), 198, sl) := (rn_ret rfl (Or.inl rfl) hh).2
      have ed : v231 q cc gc h g = ((v231_28 q cc gc g cc 0 ((Int32.ofInt (-2)), (Int32.ofInt (-1)), (nI 1000000), fset h 162 0 (.int (nI 0)))).1, v167 q cc gc (v167 q cc gc (fset ((v231_28 q cc gc g cc 0 ((Int32.ofInt (-2)), (Int32.ofInt (-1)), (nI 1000000), fset h 162 0 (.int (nI 0)))).2.2.2) 162 1 (.int (nI 0))) (((v231_28 q cc gc g cc 0 ((Int32.ofInt (-2)), (Int32.ofInt (-1)), (nI 1000000), fset h 162 0 (.int (nI 0)))).2.1).toInt64)) (((v231_28 q cc gc g cc 0 ((Int32.ofInt (-2)), (Int32.ofInt (-1)), (nI 1000000), fset h 162 0 (.int (nI 0)))).2.2.1).toInt64)) := (ct z2).trans ((cf z8).trans rfl)
      refine ⟨?_, ?_, ?_⟩ <;> rw [ed]
      · exact er16
      · exact hc14
      · exact (fr_g rfl rfl hf15 (fr_g rfl rfl hf12 (fr_f rfl rfl (fr_g rfl rfl hf7 (fr_f rfl rfl fr_0)))))
  | false =>
    have hh := en_f z2 hh
    have hh : pm_run PT n fr lo 231 (13, [some (.ref 162), some (.int (nI g)), none, none, none, none, none], [], fset h 162 0 (.int (nI 0)), 198, sl) = some R := hh
    have y17 := of_decide_eq_false z2
    obtain ⟨n, hh⟩ := rn_i rfl rfl rfl rfl hh
    have hh : pm_run PT n fr lo 231 (14, [some (.ref 162), some (.int (nI g)), none, none, none, none, none], [.int (Int32.ofInt (-1))], fset h 162 0 (.int (nI 0)), 198, sl) = some R := hh
    have er18 : R = (some (.int (Int32.ofInt (-1))), fset h 162 0 (.int (nI 0)), 198, sl) := (rn_ret rfl (Or.inl rfl) hh).2
    have ed : v231 q cc gc h g = ((Int32.ofInt (-1)), fset h 162 0 (.int (nI 0))) := (cf z2).trans rfl
    refine ⟨?_, ?_, ?_⟩ <;> rw [ed]
    · exact er18
    · exact (hc_f rfl rfl (by decide) rfl hw)
    · exact (fr_f rfl rfl fr_0)
theorem v231_fr {cc gc : Nat} {q : QT} {h : pm_H} {g : Nat} (hw : HC q cc gc h) : HC q cc gc ((v231 q cc gc h g).2) ∧ frm [162, 163, 176, 177] [(162, 0), (162, 1)] h ((v231 q cc gc h g).2) := by
  unfold v231
  refine cd_s (P := fun (p : Int32 × pm_H) => HC q cc gc ((p).2) ∧ frm [162, 163, 176, 177] [(162, 0), (162, 1)] h ((p).2)) (b := decide (g < gc)) (fun _ => ?_) (fun _ => ?_)
  · refine cd_s (P := fun (p : Int32 × pm_H) => HC q cc gc ((p).2) ∧ frm [162, 163, 176, 177] [(162, 0), (162, 1)] h ((p).2)) (b := pm_cmp .lt ((v231_28 q cc gc g cc 0 ((Int32.ofInt (-2)), (Int32.ofInt (-1)), (nI 1000000), fset h 162 0 (.int (nI 0)))).1) 0) (fun _ => ?_) (fun _ => ?_)
    · show HC q cc gc ((v231_28 q cc gc g cc 0 ((Int32.ofInt (-2)), (Int32.ofInt (-1)), (nI 1000000), fset h 162 0 (.int (nI 0)))).2.2.2) ∧ frm [162, 163, 176, 177] [(162, 0), (162, 1)] h ((v231_28 q cc gc g cc 0 ((Int32.ofInt (-2)), (Int32.ofInt (-1)), (nI 1000000), fset h 162 0 (.int (nI 0)))).2.2.2)
      exact ⟨(v231_28_fr (m1 := g) (j := cc) (i := 0) (x2 := (Int32.ofInt (-2))) (x3 := (Int32.ofInt (-1))) (x4 := (nI 1000000)) (hc_f rfl rfl (by decide) rfl hw)).1, (fr_g rfl rfl (v231_28_fr (m1 := g) (j := cc) (i := 0) (x2 := (Int32.ofInt (-2))) (x3 := (Int32.ofInt (-1))) (x4 := (nI 1000000)) (hc_f rfl rfl (by decide) rfl hw)).2 (fr_f rfl rfl fr_0))⟩
    · show HC q cc gc (v167 q cc gc (v167 q cc gc (fset ((v231_28 q cc gc g cc 0 ((Int32.ofInt (-2)), (Int32.ofInt (-1)), (nI 1000000), fset h 162 0 (.int (nI 0)))).2.2.2) 162 1 (.int (nI 0))) (((v231_28 q cc gc g cc 0 ((Int32.ofInt (-2)), (Int32.ofInt (-1)), (nI 1000000), fset h 162 0 (.int (nI 0)))).2.1).toInt64)) (((v231_28 q cc gc g cc 0 ((Int32.ofInt (-2)), (Int32.ofInt (-1)), (nI 1000000), fset h 162 0 (.int (nI 0)))).2.2.1).toInt64)) ∧ frm [162, 163, 176, 177] [(162, 0), (162, 1)] h (v167 q cc gc (v167 q cc gc (fset ((v231_28 q cc gc g cc 0 ((Int32.ofInt (-2)), (Int32.ofInt (-1)), (nI 1000000), fset h 162 0 (.int (nI 0)))).2.2.2) 162 1 (.int (nI 0))) (((v231_28 q cc gc g cc 0 ((Int32.ofInt (-2)), (Int32.ofInt (-1)), (nI 1000000), fset h 162 0 (.int (nI 0)))).2.1).toInt64)) (((v231_28 q cc gc g cc 0 ((Int32.ofInt (-2)), (Int32.ofInt (-1)), (nI 1000000), fset h 162 0 (.int (nI 0)))).2.2.1).toInt64))
      exact ⟨(v167_fr (v := (((v231_28 q cc gc g cc 0 ((Int32.ofInt (-2)), (Int32.ofInt (-1)), (nI 1000000), fset h 162 0 (.int (nI 0)))).2.2.1).toInt64)) (v167_fr (v := (((v231_28 q cc gc g cc 0 ((Int32.ofInt (-2)), (Int32.ofInt (-1)), (nI 1000000), fset h 162 0 (.int (nI 0)))).2.1).toInt64)) (hc_f rfl rfl (by decide) rfl (v231_28_fr (m1 := g) (j := cc) (i := 0) (x2 := (Int32.ofInt (-2))) (x3 := (Int32.ofInt (-1))) (x4 := (nI 1000000)) (hc_f rfl rfl (by decide) rfl hw)).1)).1).1, (fr_g rfl rfl (v167_fr (v := (((v231_28 q cc gc g cc 0 ((Int32.ofInt (-2)), (Int32.ofInt (-1)), (nI 1000000), fset h 162 0 (.int (nI 0)))).2.2.1).toInt64)) (v167_fr (v := (((v231_28 q cc gc g cc 0 ((Int32.ofInt (-2)), (Int32.ofInt (-1)), (nI 1000000), fset h 162 0 (.int (nI 0)))).2.1).toInt64)) (hc_f rfl rfl (by decide) rfl (v231_28_fr (m1 := g) (j := cc) (i := 0) (x2 := (Int32.ofInt (-2))) (x3 := (Int32.ofInt (-1))) (x4 := (nI 1000000)) (hc_f rfl rfl (by decide) rfl hw)).1)).1).2 (fr_g rfl rfl (v167_fr (v := (((v231_28 q cc gc g cc 0 ((Int32.ofInt (-2)), (Int32.ofInt (-1)), (nI 1000000), fset h 162 0 (.int (nI 0)))).2.1).toInt64)) (hc_f rfl rfl (by decide) rfl (v231_28_fr (m1 := g) (j := cc) (i := 0) (x2 := (Int32.ofInt (-2))) (x3 := (Int32.ofInt (-1))) (x4 := (nI 1000000)) (hc_f rfl rfl (by decide) rfl hw)).1)).2 (fr_f rfl rfl (fr_g rfl rfl (v231_28_fr (m1 := g) (j := cc) (i := 0) (x2 := (Int32.ofInt (-2))) (x3 := (Int32.ofInt (-1))) (x4 := (nI 1000000)) (hc_f rfl rfl (by decide) rfl hw)).2 (fr_f rfl rfl fr_0)))))⟩
  · show HC q cc gc (fset h 162 0 (.int (nI 0))) ∧ frm [162, 163, 176, 177] [(162, 0), (162, 1)] h (fset h 162 0 (.int (nI 0)))
    exact ⟨(hc_f rfl rfl (by decide) rfl hw), (fr_f rfl rfl fr_0)⟩
def v235_53b (q : QT) (cc gc : Nat) (d0 : Nat → Int32) (m1 : Nat) (t2 : Int32) (m3 : Nat) (i : Nat) (x4 : Int32) : Int32 := cond (cond (pm_cmp .eq x4 0) false (cond (v164 q cc gc ((d0) (86 + m1)) (nI i)) (cond (pm_cmp .eq (nI i) ((d0) (78 + m1))) true (cond (v175 q cc gc (d0) m3 i) false true)) true)) 1 0
def v235_53 (q : QT) (cc gc : Nat) (d0 : Nat → Int32) (m1 : Nat) (t2 : Int32) (m3 : Nat) (j i : Nat) (a : Int32) : Int32 := lp (fun i a => v235_53b q cc gc d0 m1 t2 m3 i a) j i a
theorem v235_53_e {n fr lo sl cc gc : Nat} {q : QT} {h : pm_H} {R : pm_Rs} {m1 : Nat} {t2 : Int32} {m3 : Nat} {i : Nat} {x4 : Int32} (hw : HC q cc gc h) (h_m1 : m1 < 10000) (h_m3 : m3 < 10000) (hi : cc ≤ i) (hI : i < 1000000) (hh : pm_run PT n fr lo 235 (53, [some (.ref 162), some (.int (nI m1)), some (.int t2), some (.int (nI m3)), some (.int x4), some (.int (nI i))], [], h, 198, sl) = some R) : ∃ m, pm_run PT m fr lo 235 (124, [some (.ref 162), some (.int (nI m1)), some (.int t2), some (.int (nI m3)), some (.int x4), some (.int (nI i))], [], h, 198, sl) = some R := by
  have hcc := hw.cb
  have hgc := hw.gb
  have hzr := hw.zr
  obtain ⟨n, hh⟩ := rn_i rfl rfl rfl rfl hh
  obtain ⟨n, hh⟩ := rn_i rfl rfl rfl rfl hh
  have hh : pm_run PT n fr lo 235 (56, [some (.ref 162), some (.int (nI m1)), some (.int t2), some (.int (nI m3)), some (.int x4), some (.int (nI i))], [.ref 162, .int (nI i)], h, 198, sl) = some R := hh
  obtain ⟨n, hh⟩ := rn_gi (x := nI cc) hw.wt rfl rfl (by decide) rfl (by decide) rfl hw.m3 hh
  have hh : pm_run PT n fr lo 235 (59, [some (.ref 162), some (.int (nI m1)), some (.int t2), some (.int (nI m3)), some (.int x4), some (.int (nI i))], [.int (nI cc), .int (nI i)], h, 198, sl) = some R := hh
  obtain ⟨n, hh⟩ := en_cn (cc := .ge) (off := 65) (t := 124) (b := decide (cc ≤ i)) (hI_ge (by omega) (by omega)) rfl rfl hh
  have hh := en_t (show decide (cc ≤ i) = true from decide_eq_true (by omega)) hh
  have hh : pm_run PT n fr lo 235 (124, [some (.ref 162), some (.int (nI m1)), some (.int t2), some (.int (nI m3)), some (.int x4), some (.int (nI i))], [], h, 198, sl) = some R := hh
  exact ⟨n, hh⟩
theorem v235_53_s {n fr lo sl cc gc : Nat} {q : QT} {h : pm_H} {R : pm_Rs} {m1 : Nat} {t2 : Int32} {m3 : Nat} {i : Nat} {x4 : Int32} (hw : HC q cc gc h) (h_m1 : m1 < 10000) (h_m3 : m3 < 10000) (hi : i < cc) (hI : i < 1000000) (hh : pm_run PT n fr lo 235 (53, [some (.ref 162), some (.int (nI m1)), some (.int t2), some (.int (nI m3)), some (.int x4), some (.int (nI i))], [], h, 198, sl) = some R) : ∃ m, pm_run PT m fr lo 235 (53, [some (.ref 162), some (.int (nI m1)), some (.int t2), some (.int (nI m3)), some (.int (v235_53b q cc gc (Ar h 170) m1 t2 m3 i x4)), some (.int (nI (i + 1)))], [], h, 198, sl) = some R := by
  have hcc := hw.cb
  have hgc := hw.gb
  have hzr := hw.zr
  obtain ⟨n, hh⟩ := rn_i rfl rfl rfl rfl hh
  obtain ⟨n, hh⟩ := rn_i rfl rfl rfl rfl hh
  have hh : pm_run PT n fr lo 235 (56, [some (.ref 162), some (.int (nI m1)), some (.int t2), some (.int (nI m3)), some (.int x4), some (.int (nI i))], [.ref 162, .int (nI i)], h, 198, sl) = some R := hh
  obtain ⟨n, hh⟩ := rn_gi (x := nI cc) hw.wt rfl rfl (by decide) rfl (by decide) rfl hw.m3 hh
  have hh : pm_run PT n fr lo 235 (59, [some (.ref 162), some (.int (nI m1)), some (.int t2), some (.int (nI m3)), some (.int x4), some (.int (nI i))], [.int (nI cc), .int (nI i)], h, 198, sl) = some R := hh
  obtain ⟨n, hh⟩ := en_cn (cc := .ge) (off := 65) (t := 124) (b := decide (cc ≤ i)) (hI_ge (by omega) (by omega)) rfl rfl hh
  have hh := en_f (show decide (cc ≤ i) = false from decide_eq_false (by omega)) hh
  have hh : pm_run PT n fr lo 235 (62, [some (.ref 162), some (.int (nI m1)), some (.int t2), some (.int (nI m3)), some (.int x4), some (.int (nI i))], [], h, 198, sl) = some R := hh
  obtain ⟨n, hh⟩ := rn_i rfl rfl rfl rfl hh
  have hh : pm_run PT n fr lo 235 (64, [some (.ref 162), some (.int (nI m1)), some (.int t2), some (.int (nI m3)), some (.int x4), some (.int (nI i))], [.int x4], h, 198, sl) = some R := hh
  obtain ⟨n, hh⟩ := en_zn (cc := .eq) (off := 51) (t := 115) (b := pm_cmp .eq x4 0) rfl rfl rfl hh
  have hj19 : ∃ mJ, pm_run PT mJ fr lo 235 (cond (pm_cmp .eq x4 0) (116, [some (.ref 162), some (.int (nI m1)), some (.int t2), some (.int (nI m3)), some (.int x4), some (.int (nI i))], [.int (nI 0)], h, 198, sl) (116, [some (.ref 162), some (.int (nI m1)), some (.int t2), some (.int (nI m3)), some (.int x4), some (.int (nI i))], [.int (cond (cond (v164 q cc gc ((Ar h 170) (86 + m1)) (nI i)) (cond (pm_cmp .eq (nI i) ((Ar h 170) (78 + m1))) true (cond (v175 q cc gc (Ar h 170) m3 i) false true)) true) 1 0)], h, 198, sl)) = some R := en_J (fun z8 => by
      have hh := en_t z8 hh
      have hh : pm_run PT n fr lo 235 (115, [some (.ref 162), some (.int (nI m1)), some (.int t2), some (.int (nI m3)), some (.int x4), some (.int (nI i))], [], h, 198, sl) = some R := hh
      obtain ⟨n, hh⟩ := rn_i rfl rfl rfl rfl hh
      exact ⟨n, hh⟩) (fun z8 => by
      have hh := en_f z8 hh
      have hh : pm_run PT n fr lo 235 (67, [some (.ref 162), some (.int (nI m1)), some (.int t2), some (.int (nI m3)), some (.int x4), some (.int (nI i))], [], h, 198, sl) = some R := hh
      obtain ⟨n, hh⟩ := rn_i rfl rfl rfl rfl hh
      have hh : pm_run PT n fr lo 235 (68, [some (.ref 162), some (.int (nI m1)), some (.int t2), some (.int (nI m3)), some (.int x4), some (.int (nI i))], [.ref 162], h, 198, sl) = some R := hh
      obtain ⟨n, hh⟩ := rn_gr hw.wt rfl rfl (by decide) rfl (by decide) (show _ = some (2, ((170 : Nat) : Int), 1) from rfl) rfl hh
      obtain ⟨n, hh⟩ := rn_i rfl rfl rfl rfl hh
      obtain ⟨n, hh⟩ := rn_i rfl rfl rfl rfl hh
      have hh : pm_run PT n fr lo 235 (74, [some (.ref 162), some (.int (nI m1)), some (.int t2), some (.int (nI m3)), some (.int x4), some (.int (nI i))], [.int (nI m1), .int (nI 86), .ref 170], h, 198, sl) = some R := hh
      obtain ⟨n, hh⟩ := en_add rfl hh
      have hh : pm_run PT n fr lo 235 (75, [some (.ref 162), some (.int (nI m1)), some (.int t2), some (.int (nI m3)), some (.int x4), some (.int (nI i))], [.int (nI (86 + m1)), .ref 170], h, 198, sl) = some R := hh
      have hh : pm_run PT n fr lo 235 (75, [some (.ref 162), some (.int (nI m1)), some (.int t2), some (.int (nI m3)), some (.int x4), some (.int (nI i))], [.int (nI (86 + m1)), .ref 170], h, 198, sl) = some R := hh
      obtain ⟨n, hx9, hh⟩ := en_lu (t := 86 + m1) (f := Ar h 170) (w := (Ar h 170) (86 + m1)) (nI_clamp (by omega)) hw.wt rfl (by decide) rfl (by decide) rfl (fun _ => rfl) hh
      obtain ⟨n, hh⟩ := rn_i rfl rfl rfl rfl hh
      have hh : pm_run PT n fr lo 235 (78, [some (.ref 162), some (.int (nI m1)), some (.int t2), some (.int (nI m3)), some (.int x4), some (.int (nI i))], [.int (nI i), .int ((Ar h 170) (86 + m1))], h, 198, sl) = some R := hh
      obtain ⟨n, fr1, lo1, r1, hh1, hh⟩ := rn_call (w := 2) (t := 164) rfl rfl hh
      have er10 := v164_ok (a := ((Ar h 170) (86 + m1))) (b := (nI i)) hw hh1
      subst er10
      have hh : pm_run PT n fr lo 235 (81, [some (.ref 162), some (.int (nI m1)), some (.int t2), some (.int (nI m3)), some (.int x4), some (.int (nI i))], [.int (cond (v164 q cc gc ((Ar h 170) (86 + m1)) (nI i)) 1 0)], h, 198, sl) = some R := hh
      obtain ⟨n, hh⟩ := en_zn (cc := .eq) (off := 30) (t := 111) (b := !(v164 q cc gc ((Ar h 170) (86 + m1)) (nI i))) eb_eq rfl rfl hh
      have hj18 : ∃ mJ, pm_run PT mJ fr lo 235 (cond (v164 q cc gc ((Ar h 170) (86 + m1)) (nI i)) (116, [some (.ref 162), some (.int (nI m1)), some (.int t2), some (.int (nI m3)), some (.int x4), some (.int (nI i))], [.int (cond (cond (pm_cmp .eq (nI i) ((Ar h 170) (78 + m1))) true (cond (v175 q cc gc (Ar h 170) m3 i) false true)) 1 0)], h, 198, sl) (116, [some (.ref 162), some (.int (nI m1)), some (.int t2), some (.int (nI m3)), some (.int x4), some (.int (nI i))], [.int (nI 1)], h, 198, sl)) = some R := en_J (fun z11 => by
          have hh := en_nt z11 hh
          have hh : pm_run PT n fr lo 235 (84, [some (.ref 162), some (.int (nI m1)), some (.int t2), some (.int (nI m3)), some (.int x4), some (.int (nI i))], [], h, 198, sl) = some R := hh
          obtain ⟨n, hh⟩ := rn_i rfl rfl rfl rfl hh
          obtain ⟨n, hh⟩ := rn_i rfl rfl rfl rfl hh
          have hh : pm_run PT n fr lo 235 (87, [some (.ref 162), some (.int (nI m1)), some (.int t2), some (.int (nI m3)), some (.int x4), some (.int (nI i))], [.ref 162, .int (nI i)], h, 198, sl) = some R := hh
          obtain ⟨n, hh⟩ := rn_gr hw.wt rfl rfl (by decide) rfl (by decide) (show _ = some (2, ((170 : Nat) : Int), 1) from rfl) rfl hh
          obtain ⟨n, hh⟩ := rn_i rfl rfl rfl rfl hh
          obtain ⟨n, hh⟩ := rn_i rfl rfl rfl rfl hh
          have hh : pm_run PT n fr lo 235 (93, [some (.ref 162), some (.int (nI m1)), some (.int t2), some (.int (nI m3)), some (.int x4), some (.int (nI i))], [.int (nI m1), .int (nI 78), .ref 170, .int (nI i)], h, 198, sl) = some R := hh
          obtain ⟨n, hh⟩ := en_add rfl hh
          have hh : pm_run PT n fr lo 235 (94, [some (.ref 162), some (.int (nI m1)), some (.int t2), some (.int (nI m3)), some (.int x4), some (.int (nI i))], [.int (nI (78 + m1)), .ref 170, .int (nI i)], h, 198, sl) = some R := hh
          have hh : pm_run PT n fr lo 235 (94, [some (.ref 162), some (.int (nI m1)), some (.int t2), some (.int (nI m3)), some (.int x4), some (.int (nI i))], [.int (nI (78 + m1)), .ref 170, .int (nI i)], h, 198, sl) = some R := hh
          obtain ⟨n, hx12, hh⟩ := en_lu (t := 78 + m1) (f := Ar h 170) (w := (Ar h 170) (78 + m1)) (nI_clamp (by omega)) hw.wt rfl (by decide) rfl (by decide) rfl (fun _ => rfl) hh
          have hh : pm_run PT n fr lo 235 (95, [some (.ref 162), some (.int (nI m1)), some (.int t2), some (.int (nI m3)), some (.int x4), some (.int (nI i))], [.int ((Ar h 170) (78 + m1)), .int (nI i)], h, 198, sl) = some R := hh
          obtain ⟨n, hh⟩ := en_cn (cc := .eq) (off := 16) (t := 111) (b := pm_cmp .eq (nI i) ((Ar h 170) (78 + m1))) rfl rfl rfl hh
          have hj17 : ∃ mJ, pm_run PT mJ fr lo 235 (cond (pm_cmp .eq (nI i) ((Ar h 170) (78 + m1))) (116, [some (.ref 162), some (.int (nI m1)), some (.int t2), some (.int (nI m3)), some (.int x4), some (.int (nI i))], [.int (nI 1)], h, 198, sl) (116, [some (.ref 162), some (.int (nI m1)), some (.int t2), some (.int (nI m3)), some (.int x4), some (.int (nI i))], [.int (cond (cond (v175 q cc gc (Ar h 170) m3 i) false true) 1 0)], h, 198, sl)) = some R := en_J (fun z13 => by
              have hh := en_t z13 hh
              have hh : pm_run PT n fr lo 235 (111, [some (.ref 162), some (.int (nI m1)), some (.int t2), some (.int (nI m3)), some (.int x4), some (.int (nI i))], [], h, 198, sl) = some R := hh
              obtain ⟨n, hh⟩ := rn_i rfl rfl rfl rfl hh
              obtain ⟨n, hh⟩ := rn_i rfl rfl rfl rfl hh
              exact ⟨n, hh⟩) (fun z13 => by
              have hh := en_f z13 hh
              have hh : pm_run PT n fr lo 235 (98, [some (.ref 162), some (.int (nI m1)), some (.int t2), some (.int (nI m3)), some (.int x4), some (.int (nI i))], [], h, 198, sl) = some R := hh
              obtain ⟨n, hh⟩ := rn_i rfl rfl rfl rfl hh
              have hh : pm_run PT n fr lo 235 (99, [some (.ref 162), some (.int (nI m1)), some (.int t2), some (.int (nI m3)), some (.int x4), some (.int (nI i))], [.ref 162], h, 198, sl) = some R := hh
              obtain ⟨n, hh⟩ := rn_gr hw.wt rfl rfl (by decide) rfl (by decide) (show _ = some (2, ((170 : Nat) : Int), 1) from rfl) rfl hh
              obtain ⟨n, hh⟩ := rn_i rfl rfl rfl rfl hh
              obtain ⟨n, hh⟩ := rn_i rfl rfl rfl rfl hh
              have hh : pm_run PT n fr lo 235 (105, [some (.ref 162), some (.int (nI m1)), some (.int t2), some (.int (nI m3)), some (.int x4), some (.int (nI i))], [.int (nI i), .int (nI m3), .ref 170], h, 198, sl) = some R := hh
              obtain ⟨n, fr1, lo1, r1, hh1, hh⟩ := rn_call (w := 2) (t := 175) rfl rfl hh
              have er14 := v175_ok (a := m3) (b := i) hw (by omega) (by omega) hh1
              subst er14
              have hh : pm_run PT n fr lo 235 (108, [some (.ref 162), some (.int (nI m1)), some (.int t2), some (.int (nI m3)), some (.int x4), some (.int (nI i))], [.int (cond (v175 q cc gc (Ar h 170) m3 i) 1 0)], h, 198, sl) = some R := hh
              obtain ⟨n, hh⟩ := en_zn (cc := .ne) (off := 7) (t := 115) (b := v175 q cc gc (Ar h 170) m3 i) eb_ne rfl rfl hh
              have hj16 : ∃ mJ, pm_run PT mJ fr lo 235 (cond (v175 q cc gc (Ar h 170) m3 i) (116, [some (.ref 162), some (.int (nI m1)), some (.int t2), some (.int (nI m3)), some (.int x4), some (.int (nI i))], [.int (nI 0)], h, 198, sl) (116, [some (.ref 162), some (.int (nI m1)), some (.int t2), some (.int (nI m3)), some (.int x4), some (.int (nI i))], [.int (nI 1)], h, 198, sl)) = some R := en_J (fun z15 => by
                  have hh := en_t z15 hh
                  have hh : pm_run PT n fr lo 235 (115, [some (.ref 162), some (.int (nI m1)), some (.int t2), some (.int (nI m3)), some (.int x4), some (.int (nI i))], [], h, 198, sl) = some R := hh
                  obtain ⟨n, hh⟩ := rn_i rfl rfl rfl rfl hh
                  exact ⟨n, hh⟩) (fun z15 => by
                  have hh := en_f z15 hh
                  have hh : pm_run PT n fr lo 235 (111, [some (.ref 162), some (.int (nI m1)), some (.int t2), some (.int (nI m3)), some (.int x4), some (.int (nI i))], [], h, 198, sl) = some R := hh
                  obtain ⟨n, hh⟩ := rn_i rfl rfl rfl rfl hh
                  obtain ⟨n, hh⟩ := rn_i rfl rfl rfl rfl hh
                  exact ⟨n, hh⟩)
              obtain ⟨n, hh⟩ := hj16
              rw [show (cond (v175 q cc gc (Ar h 170) m3 i) (116, [some (.ref 162), some (.int (nI m1)), some (.int t2), some (.int (nI m3)), some (.int x4), some (.int (nI i))], [.int (nI 0)], h, 198, sl) (116, [some (.ref 162), some (.int (nI m1)), some (.int t2), some (.int (nI m3)), some (.int x4), some (.int (nI i))], [.int (nI 1)], h, 198, sl) : pm_St) = (116, [some (.ref 162), some (.int (nI m1)), some (.int t2), some (.int (nI m3)), some (.int x4), some (.int (nI i))], [.int (cond (cond (v175 q cc gc (Ar h 170) m3 i) false true) 1 0)], h, 198, sl) from by cases (v175 q cc gc (Ar h 170) m3 i) <;> rfl] at hh
              exact ⟨n, hh⟩)
          obtain ⟨n, hh⟩ := hj17
          rw [show (cond (pm_cmp .eq (nI i) ((Ar h 170) (78 + m1))) (116, [some (.ref 162), some (.int (nI m1)), some (.int t2), some (.int (nI m3)), some (.int x4), some (.int (nI i))], [.int (nI 1)], h, 198, sl) (116, [some (.ref 162), some (.int (nI m1)), some (.int t2), some (.int (nI m3)), some (.int x4), some (.int (nI i))], [.int (cond (cond (v175 q cc gc (Ar h 170) m3 i) false true) 1 0)], h, 198, sl) : pm_St) = (116, [some (.ref 162), some (.int (nI m1)), some (.int t2), some (.int (nI m3)), some (.int x4), some (.int (nI i))], [.int (cond (cond (pm_cmp .eq (nI i) ((Ar h 170) (78 + m1))) true (cond (v175 q cc gc (Ar h 170) m3 i) false true)) 1 0)], h, 198, sl) from by cases (pm_cmp .eq (nI i) ((Ar h 170) (78 + m1))) <;> rfl] at hh
          exact ⟨n, hh⟩) (fun z11 => by
          have hh := en_nf z11 hh
          have hh : pm_run PT n fr lo 235 (111, [some (.ref 162), some (.int (nI m1)), some (.int t2), some (.int (nI m3)), some (.int x4), some (.int (nI i))], [], h, 198, sl) = some R := hh
          obtain ⟨n, hh⟩ := rn_i rfl rfl rfl rfl hh
          obtain ⟨n, hh⟩ := rn_i rfl rfl rfl rfl hh
          exact ⟨n, hh⟩)
      obtain ⟨n, hh⟩ := hj18
      rw [show (cond (v164 q cc gc ((Ar h 170) (86 + m1)) (nI i)) (116, [some (.ref 162), some (.int (nI m1)), some (.int t2), some (.int (nI m3)), some (.int x4), some (.int (nI i))], [.int (cond (cond (pm_cmp .eq (nI i) ((Ar h 170) (78 + m1))) true (cond (v175 q cc gc (Ar h 170) m3 i) false true)) 1 0)], h, 198, sl) (116, [some (.ref 162), some (.int (nI m1)), some (.int t2), some (.int (nI m3)), some (.int x4), some (.int (nI i))], [.int (nI 1)], h, 198, sl) : pm_St) = (116, [some (.ref 162), some (.int (nI m1)), some (.int t2), some (.int (nI m3)), some (.int x4), some (.int (nI i))], [.int (cond (cond (v164 q cc gc ((Ar h 170) (86 + m1)) (nI i)) (cond (pm_cmp .eq (nI i) ((Ar h 170) (78 + m1))) true (cond (v175 q cc gc (Ar h 170) m3 i) false true)) true) 1 0)], h, 198, sl) from by cases (v164 q cc gc ((Ar h 170) (86 + m1)) (nI i)) <;> rfl] at hh
      exact ⟨n, hh⟩)
  obtain ⟨n, hh⟩ := hj19
  rw [show (cond (pm_cmp .eq x4 0) (116, [some (.ref 162), some (.int (nI m1)), some (.int t2), some (.int (nI m3)), some (.int x4), some (.int (nI i))], [.int (nI 0)], h, 198, sl) (116, [some (.ref 162), some (.int (nI m1)), some (.int t2), some (.int (nI m3)), some (.int x4), some (.int (nI i))], [.int (cond (cond (v164 q cc gc ((Ar h 170) (86 + m1)) (nI i)) (cond (pm_cmp .eq (nI i) ((Ar h 170) (78 + m1))) true (cond (v175 q cc gc (Ar h 170) m3 i) false true)) true) 1 0)], h, 198, sl) : pm_St) = (116, [some (.ref 162), some (.int (nI m1)), some (.int t2), some (.int (nI m3)), some (.int x4), some (.int (nI i))], [.int (cond (cond (pm_cmp .eq x4 0) false (cond (v164 q cc gc ((Ar h 170) (86 + m1)) (nI i)) (cond (pm_cmp .eq (nI i) ((Ar h 170) (78 + m1))) true (cond (v175 q cc gc (Ar h 170) m3 i) false true)) true)) 1 0)], h, 198, sl) from by cases (pm_cmp .eq x4 0) <;> rfl] at hh
  obtain ⟨n, hh⟩ := rn_i rfl rfl rfl rfl hh
  have hh : pm_run PT n fr lo 235 (118, [some (.ref 162), some (.int (nI m1)), some (.int t2), some (.int (nI m3)), some (.int (cond (cond (pm_cmp .eq x4 0) false (cond (v164 q cc gc ((Ar h 170) (86 + m1)) (nI i)) (cond (pm_cmp .eq (nI i) ((Ar h 170) (78 + m1))) true (cond (v175 q cc gc (Ar h 170) m3 i) false true)) true)) 1 0)), some (.int (nI i))], [], h, 198, sl) = some R := hh
  obtain ⟨n, hh⟩ := en_inc (x := i) (c := 1) (j := 5) rfl rfl (by decide) hh
  have hh : pm_run PT n fr lo 235 (121, [some (.ref 162), some (.int (nI m1)), some (.int t2), some (.int (nI m3)), some (.int (cond (cond (pm_cmp .eq x4 0) false (cond (v164 q cc gc ((Ar h 170) (86 + m1)) (nI i)) (cond (pm_cmp .eq (nI i) ((Ar h 170) (78 + m1))) true (cond (v175 q cc gc (Ar h 170) m3 i) false true)) true)) 1 0)), some (.int (nI (i + 1)))], [], h, 198, sl) = some R := hh
  obtain ⟨n, hh⟩ := rn_i rfl rfl rfl rfl hh
  have ed : v235_53b q cc gc (Ar h 170) m1 t2 m3 i x4 = cond (cond (pm_cmp .eq x4 0) false (cond (v164 q cc gc ((Ar h 170) (86 + m1)) (nI i)) (cond (pm_cmp .eq (nI i) ((Ar h 170) (78 + m1))) true (cond (v175 q cc gc (Ar h 170) m3 i) false true)) true)) 1 0 := rfl
  rw [ed]
  exact ⟨n, hh⟩
theorem v235_53_ok {fr lo sl cc gc : Nat} {q : QT} {R : pm_Rs} {m1 : Nat} {t2 : Int32} {m3 : Nat} : ∀ {j i : Nat} {x4 : Int32} {h : pm_H} {n : Nat}, cc - i = j → i + j < 1000000 → HC q cc gc h → m1 < 10000 → m3 < 10000 → pm_run PT n fr lo 235 (53, [some (.ref 162), some (.int (nI m1)), some (.int t2), some (.int (nI m3)), some (.int x4), some (.int (nI i))], [], h, 198, sl) = some R → ∃ m wc, pm_run PT m fr lo 235 (124, [some (.ref 162), some (.int (nI m1)), some (.int t2), some (.int (nI m3)), some (.int (v235_53 q cc gc (Ar h 170) m1 t2 m3 j i x4)), wc], [], h, 198, sl) = some R := by
  intro j
  induction j with
  | zero =>
    intro i x4 h n e eI hw h_m1 h_m3 hh
    obtain ⟨n, hh⟩ := v235_53_e hw h_m1 h_m3 (by omega) (by omega) hh
    exact ⟨n, _, hh⟩
  | succ j ih =>
    intro i x4 h n e eI hw h_m1 h_m3 hh
    obtain ⟨n, hh⟩ := v235_53_s hw h_m1 h_m3 (by omega) (by omega) hh
    obtain ⟨n, wc, hh⟩ := ih (by omega) (by omega) hw h_m1 h_m3 hh
    exact ⟨n, wc, hh⟩
def v235_19b (q : QT) (cc gc : Nat) (d0 : Nat → Int32) (m1 : Nat) (i : Nat) (x2 : Int32) : Int32 := x2 ||| (cond (pm_cmp .eq (v235_53 q cc gc (d0) m1 x2 i cc 0 (cond (cond (v164 q cc gc ((d0) (86 + m1)) (nI i)) false true) 1 0)) 0) (nI 0) (shl (nI 1) (nI i)))
def v235_19 (q : QT) (cc gc : Nat) (d0 : Nat → Int32) (m1 : Nat) (j i : Nat) (a : Int32) : Int32 := lp (fun i a => v235_19b q cc gc d0 m1 i a) j i a
theorem v235_19_e {n fr lo sl cc gc : Nat} {q : QT} {h : pm_H} {R : pm_Rs} {m1 : Nat} {i : Nat} {x2 : Int32} {o4 : Option Value} {o5 : Option Value} (hw : HC q cc gc h) (h_m1 : m1 < 10000) (hi : cc ≤ i) (hI : i < 1000000) (hh : pm_run PT n fr lo 235 (19, [some (.ref 162), some (.int (nI m1)), some (.int x2), some (.int (nI i)), o4, o5], [], h, 198, sl) = some R) : ∃ m, pm_run PT m fr lo 235 (145, [some (.ref 162), some (.int (nI m1)), some (.int x2), some (.int (nI i)), o4, o5], [], h, 198, sl) = some R := by
  have hcc := hw.cb
  have hgc := hw.gb
  have hzr := hw.zr
  obtain ⟨n, hh⟩ := rn_i rfl rfl rfl rfl hh
  obtain ⟨n, hh⟩ := rn_i rfl rfl rfl rfl hh
  have hh : pm_run PT n fr lo 235 (21, [some (.ref 162), some (.int (nI m1)), some (.int x2), some (.int (nI i)), o4, o5], [.ref 162, .int (nI i)], h, 198, sl) = some R := hh
  obtain ⟨n, hh⟩ := rn_gi (x := nI cc) hw.wt rfl rfl (by decide) rfl (by decide) rfl hw.m3 hh
  have hh : pm_run PT n fr lo 235 (24, [some (.ref 162), some (.int (nI m1)), some (.int x2), some (.int (nI i)), o4, o5], [.int (nI cc), .int (nI i)], h, 198, sl) = some R := hh
  obtain ⟨n, hh⟩ := en_cn (cc := .ge) (off := 121) (t := 145) (b := decide (cc ≤ i)) (hI_ge (by omega) (by omega)) rfl rfl hh
  have hh := en_t (show decide (cc ≤ i) = true from decide_eq_true (by omega)) hh
  have hh : pm_run PT n fr lo 235 (145, [some (.ref 162), some (.int (nI m1)), some (.int x2), some (.int (nI i)), o4, o5], [], h, 198, sl) = some R := hh
  exact ⟨n, hh⟩
theorem v235_19_s {n fr lo sl cc gc : Nat} {q : QT} {h : pm_H} {R : pm_Rs} {m1 : Nat} {i : Nat} {x2 : Int32} {o4 : Option Value} {o5 : Option Value} (hw : HC q cc gc h) (h_m1 : m1 < 10000) (hi : i < cc) (hI : i < 1000000) (hh : pm_run PT n fr lo 235 (19, [some (.ref 162), some (.int (nI m1)), some (.int x2), some (.int (nI i)), o4, o5], [], h, 198, sl) = some R) : ∃ m w4 w5, pm_run PT m fr lo 235 (19, [some (.ref 162), some (.int (nI m1)), some (.int (v235_19b q cc gc (Ar h 170) m1 i x2)), some (.int (nI (i + 1))), w4, w5], [], h, 198, sl) = some R := by
  have hcc := hw.cb
  have hgc := hw.gb
  have hzr := hw.zr
  obtain ⟨n, hh⟩ := rn_i rfl rfl rfl rfl hh
  obtain ⟨n, hh⟩ := rn_i rfl rfl rfl rfl hh
  have hh : pm_run PT n fr lo 235 (21, [some (.ref 162), some (.int (nI m1)), some (.int x2), some (.int (nI i)), o4, o5], [.ref 162, .int (nI i)], h, 198, sl) = some R := hh
  obtain ⟨n, hh⟩ := rn_gi (x := nI cc) hw.wt rfl rfl (by decide) rfl (by decide) rfl hw.m3 hh
  have hh : pm_run PT n fr lo 235 (24, [some (.ref 162), some (.int (nI m1)), some (.int x2), some (.int (nI i)), o4, o5], [.int (nI cc), .int (nI i)], h, 198, sl) = some R := hh
  obtain ⟨n, hh⟩ := en_cn (cc := .ge) (off := 121) (t := 145) (b := decide (cc ≤ i)) (hI_ge (by omega) (by omega)) rfl rfl hh
  have hh := en_f (show decide (cc ≤ i) = false from decide_eq_false (by omega)) hh
  have hh : pm_run PT n fr lo 235 (27, [some (.ref 162), some (.int (nI m1)), some (.int x2), some (.int (nI i)), o4, o5], [], h, 198, sl) = some R := hh
  obtain ⟨n, hh⟩ := rn_i rfl rfl rfl rfl hh
  have hh : pm_run PT n fr lo 235 (28, [some (.ref 162), some (.int (nI m1)), some (.int x2), some (.int (nI i)), o4, o5], [.ref 162], h, 198, sl) = some R := hh
  obtain ⟨n, hh⟩ := rn_gr hw.wt rfl rfl (by decide) rfl (by decide) (show _ = some (2, ((170 : Nat) : Int), 1) from rfl) rfl hh
  obtain ⟨n, hh⟩ := rn_i rfl rfl rfl rfl hh
  obtain ⟨n, hh⟩ := rn_i rfl rfl rfl rfl hh
  have hh : pm_run PT n fr lo 235 (34, [some (.ref 162), some (.int (nI m1)), some (.int x2), some (.int (nI i)), o4, o5], [.int (nI m1), .int (nI 86), .ref 170], h, 198, sl) = some R := hh
  obtain ⟨n, hh⟩ := en_add rfl hh
  have hh : pm_run PT n fr lo 235 (35, [some (.ref 162), some (.int (nI m1)), some (.int x2), some (.int (nI i)), o4, o5], [.int (nI (86 + m1)), .ref 170], h, 198, sl) = some R := hh
  have hh : pm_run PT n fr lo 235 (35, [some (.ref 162), some (.int (nI m1)), some (.int x2), some (.int (nI i)), o4, o5], [.int (nI (86 + m1)), .ref 170], h, 198, sl) = some R := hh
  obtain ⟨n, hx4, hh⟩ := en_lu (t := 86 + m1) (f := Ar h 170) (w := (Ar h 170) (86 + m1)) (nI_clamp (by omega)) hw.wt rfl (by decide) rfl (by decide) rfl (fun _ => rfl) hh
  obtain ⟨n, hh⟩ := rn_i rfl rfl rfl rfl hh
  have hh : pm_run PT n fr lo 235 (37, [some (.ref 162), some (.int (nI m1)), some (.int x2), some (.int (nI i)), o4, o5], [.int (nI i), .int ((Ar h 170) (86 + m1))], h, 198, sl) = some R := hh
  obtain ⟨n, fr1, lo1, r1, hh1, hh⟩ := rn_call (w := 2) (t := 164) rfl rfl hh
  have er5 := v164_ok (a := ((Ar h 170) (86 + m1))) (b := (nI i)) hw hh1
  subst er5
  have hh : pm_run PT n fr lo 235 (40, [some (.ref 162), some (.int (nI m1)), some (.int x2), some (.int (nI i)), o4, o5], [.int (cond (v164 q cc gc ((Ar h 170) (86 + m1)) (nI i)) 1 0)], h, 198, sl) = some R := hh
  obtain ⟨n, hh⟩ := en_zn (cc := .ne) (off := 7) (t := 47) (b := v164 q cc gc ((Ar h 170) (86 + m1)) (nI i)) eb_ne rfl rfl hh
  have hj7 : ∃ mJ, pm_run PT mJ fr lo 235 (cond (v164 q cc gc ((Ar h 170) (86 + m1)) (nI i)) (48, [some (.ref 162), some (.int (nI m1)), some (.int x2), some (.int (nI i)), o4, o5], [.int (nI 0)], h, 198, sl) (48, [some (.ref 162), some (.int (nI m1)), some (.int x2), some (.int (nI i)), o4, o5], [.int (nI 1)], h, 198, sl)) = some R := en_J (fun z6 => by
      have hh := en_t z6 hh
      have hh : pm_run PT n fr lo 235 (47, [some (.ref 162), some (.int (nI m1)), some (.int x2), some (.int (nI i)), o4, o5], [], h, 198, sl) = some R := hh
      obtain ⟨n, hh⟩ := rn_i rfl rfl rfl rfl hh
      exact ⟨n, hh⟩) (fun z6 => by
      have hh := en_f z6 hh
      have hh : pm_run PT n fr lo 235 (43, [some (.ref 162), some (.int (nI m1)), some (.int x2), some (.int (nI i)), o4, o5], [], h, 198, sl) = some R := hh
      obtain ⟨n, hh⟩ := rn_i rfl rfl rfl rfl hh
      obtain ⟨n, hh⟩ := rn_i rfl rfl rfl rfl hh
      exact ⟨n, hh⟩)
  obtain ⟨n, hh⟩ := hj7
  rw [show (cond (v164 q cc gc ((Ar h 170) (86 + m1)) (nI i)) (48, [some (.ref 162), some (.int (nI m1)), some (.int x2), some (.int (nI i)), o4, o5], [.int (nI 0)], h, 198, sl) (48, [some (.ref 162), some (.int (nI m1)), some (.int x2), some (.int (nI i)), o4, o5], [.int (nI 1)], h, 198, sl) : pm_St) = (48, [some (.ref 162), some (.int (nI m1)), some (.int x2), some (.int (nI i)), o4, o5], [.int (cond (cond (v164 q cc gc ((Ar h 170) (86 + m1)) (nI i)) false true) 1 0)], h, 198, sl) from by cases (v164 q cc gc ((Ar h 170) (86 + m1)) (nI i)) <;> rfl] at hh
  obtain ⟨n, hh⟩ := rn_i rfl rfl rfl rfl hh
  obtain ⟨n, hh⟩ := rn_i rfl rfl rfl rfl hh
  obtain ⟨n, hh⟩ := rn_i rfl rfl rfl rfl hh
  have hh : pm_run PT n fr lo 235 (53, [some (.ref 162), some (.int (nI m1)), some (.int x2), some (.int (nI i)), some (.int (cond (cond (v164 q cc gc ((Ar h 170) (86 + m1)) (nI i)) false true) 1 0)), some (.int (nI 0))], [], h, 198, sl) = some R := hh
  obtain ⟨n, u8, hh⟩ := v235_53_ok (m1 := m1) (t2 := x2) (m3 := i)  (i := 0) (x4 := (cond (cond (v164 q cc gc ((Ar h 170) (86 + m1)) (nI i)) false true) 1 0)) (j := cc) (by omega) (by omega) hw (by omega) (by omega) hh
  have hh : pm_run PT n fr lo 235 (124, [some (.ref 162), some (.int (nI m1)), some (.int x2), some (.int (nI i)), some (.int (v235_53 q cc gc (Ar h 170) m1 x2 i cc 0 (cond (cond (v164 q cc gc ((Ar h 170) (86 + m1)) (nI i)) false true) 1 0))), u8], [], h, 198, sl) = some R := hh
  obtain ⟨n, hh⟩ := rn_i rfl rfl rfl rfl hh
  obtain ⟨n, hh⟩ := rn_i rfl rfl rfl rfl hh
  have hh : pm_run PT n fr lo 235 (127, [some (.ref 162), some (.int (nI m1)), some (.int x2), some (.int (nI i)), some (.int (v235_53 q cc gc (Ar h 170) m1 x2 i cc 0 (cond (cond (v164 q cc gc ((Ar h 170) (86 + m1)) (nI i)) false true) 1 0))), u8], [.int (v235_53 q cc gc (Ar h 170) m1 x2 i cc 0 (cond (cond (v164 q cc gc ((Ar h 170) (86 + m1)) (nI i)) false true) 1 0)), .int x2], h, 198, sl) = some R := hh
  obtain ⟨n, hh⟩ := en_zn (cc := .eq) (off := 9) (t := 136) (b := pm_cmp .eq (v235_53 q cc gc (Ar h 170) m1 x2 i cc 0 (cond (cond (v164 q cc gc ((Ar h 170) (86 + m1)) (nI i)) false true) 1 0)) 0) rfl rfl rfl hh
  have hj10 : ∃ mJ, pm_run PT mJ fr lo 235 (cond (pm_cmp .eq (v235_53 q cc gc (Ar h 170) m1 x2 i cc 0 (cond (cond (v164 q cc gc ((Ar h 170) (86 + m1)) (nI i)) false true) 1 0)) 0) (137, [some (.ref 162), some (.int (nI m1)), some (.int x2), some (.int (nI i)), some (.int (v235_53 q cc gc (Ar h 170) m1 x2 i cc 0 (cond (cond (v164 q cc gc ((Ar h 170) (86 + m1)) (nI i)) false true) 1 0))), u8], [.int (nI 0), .int x2], h, 198, sl) (137, [some (.ref 162), some (.int (nI m1)), some (.int x2), some (.int (nI i)), some (.int (v235_53 q cc gc (Ar h 170) m1 x2 i cc 0 (cond (cond (v164 q cc gc ((Ar h 170) (86 + m1)) (nI i)) false true) 1 0))), u8], [.int (shl (nI 1) (nI i)), .int x2], h, 198, sl)) = some R := en_J (fun z9 => by
      have hh := en_t z9 hh
      have hh : pm_run PT n fr lo 235 (136, [some (.ref 162), some (.int (nI m1)), some (.int x2), some (.int (nI i)), some (.int (v235_53 q cc gc (Ar h 170) m1 x2 i cc 0 (cond (cond (v164 q cc gc ((Ar h 170) (86 + m1)) (nI i)) false true) 1 0))), u8], [.int x2], h, 198, sl) = some R := hh
      obtain ⟨n, hh⟩ := rn_i rfl rfl rfl rfl hh
      exact ⟨n, hh⟩) (fun z9 => by
      have hh := en_f z9 hh
      have hh : pm_run PT n fr lo 235 (130, [some (.ref 162), some (.int (nI m1)), some (.int x2), some (.int (nI i)), some (.int (v235_53 q cc gc (Ar h 170) m1 x2 i cc 0 (cond (cond (v164 q cc gc ((Ar h 170) (86 + m1)) (nI i)) false true) 1 0))), u8], [.int x2], h, 198, sl) = some R := hh
      obtain ⟨n, hh⟩ := rn_i rfl rfl rfl rfl hh
      obtain ⟨n, hh⟩ := rn_i rfl rfl rfl rfl hh
      obtain ⟨n, hh⟩ := rn_i rfl rfl rfl rfl hh
      obtain ⟨n, hh⟩ := rn_i rfl rfl rfl rfl hh
      exact ⟨n, hh⟩)
  obtain ⟨n, hh⟩ := hj10
  rw [show (cond (pm_cmp .eq (v235_53 q cc gc (Ar h 170) m1 x2 i cc 0 (cond (cond (v164 q cc gc ((Ar h 170) (86 + m1)) (nI i)) false true) 1 0)) 0) (137, [some (.ref 162), some (.int (nI m1)), some (.int x2), some (.int (nI i)), some (.int (v235_53 q cc gc (Ar h 170) m1 x2 i cc 0 (cond (cond (v164 q cc gc ((Ar h 170) (86 + m1)) (nI i)) false true) 1 0))), u8], [.int (nI 0), .int x2], h, 198, sl) (137, [some (.ref 162), some (.int (nI m1)), some (.int x2), some (.int (nI i)), some (.int (v235_53 q cc gc (Ar h 170) m1 x2 i cc 0 (cond (cond (v164 q cc gc ((Ar h 170) (86 + m1)) (nI i)) false true) 1 0))), u8], [.int (shl (nI 1) (nI i)), .int x2], h, 198, sl) : pm_St) = (137, [some (.ref 162), some (.int (nI m1)), some (.int x2), some (.int (nI i)), some (.int (v235_53 q cc gc (Ar h 170) m1 x2 i cc 0 (cond (cond (v164 q cc gc ((Ar h 170) (86 + m1)) (nI i)) false true) 1 0))), u8], [.int (cond (pm_cmp .eq (v235_53 q cc gc (Ar h 170) m1 x2 i cc 0 (cond (cond (v164 q cc gc ((Ar h 170) (86 + m1)) (nI i)) false true) 1 0)) 0) (nI 0) (shl (nI 1) (nI i))), .int x2], h, 198, sl) from by cases (pm_cmp .eq (v235_53 q cc gc (Ar h 170) m1 x2 i cc 0 (cond (cond (v164 q cc gc ((Ar h 170) (86 + m1)) (nI i)) false true) 1 0)) 0) <;> rfl] at hh
  obtain ⟨n, hh⟩ := rn_i rfl rfl rfl rfl hh
  obtain ⟨n, hh⟩ := rn_i rfl rfl rfl rfl hh
  have hh : pm_run PT n fr lo 235 (139, [some (.ref 162), some (.int (nI m1)), some (.int (x2 ||| (cond (pm_cmp .eq (v235_53 q cc gc (Ar h 170) m1 x2 i cc 0 (cond (cond (v164 q cc gc ((Ar h 170) (86 + m1)) (nI i)) false true) 1 0)) 0) (nI 0) (shl (nI 1) (nI i))))), some (.int (nI i)), some (.int (v235_53 q cc gc (Ar h 170) m1 x2 i cc 0 (cond (cond (v164 q cc gc ((Ar h 170) (86 + m1)) (nI i)) false true) 1 0))), u8], [], h, 198, sl) = some R := hh
  obtain ⟨n, hh⟩ := en_inc (x := i) (c := 1) (j := 3) rfl rfl (by decide) hh
  have hh : pm_run PT n fr lo 235 (142, [some (.ref 162), some (.int (nI m1)), some (.int (x2 ||| (cond (pm_cmp .eq (v235_53 q cc gc (Ar h 170) m1 x2 i cc 0 (cond (cond (v164 q cc gc ((Ar h 170) (86 + m1)) (nI i)) false true) 1 0)) 0) (nI 0) (shl (nI 1) (nI i))))), some (.int (nI (i + 1))), some (.int (v235_53 q cc gc (Ar h 170) m1 x2 i cc 0 (cond (cond (v164 q cc gc ((Ar h 170) (86 + m1)) (nI i)) false true) 1 0))), u8], [], h, 198, sl) = some R := hh
  obtain ⟨n, hh⟩ := rn_i rfl rfl rfl rfl hh
  have ed : v235_19b q cc gc (Ar h 170) m1 i x2 = x2 ||| (cond (pm_cmp .eq (v235_53 q cc gc (Ar h 170) m1 x2 i cc 0 (cond (cond (v164 q cc gc ((Ar h 170) (86 + m1)) (nI i)) false true) 1 0)) 0) (nI 0) (shl (nI 1) (nI i))) := rfl
  rw [ed]
  exact ⟨n, some (.int (v235_53 q cc gc (Ar h 170) m1 x2 i cc 0 (cond (cond (v164 q cc gc ((Ar h 170) (86 + m1)) (nI i)) false true) 1 0))), u8, hh⟩
theorem v235_19_ok {fr lo sl cc gc : Nat} {q : QT} {R : pm_Rs} {m1 : Nat} : ∀ {j i : Nat} {x2 : Int32} {o4 : Option Value} {o5 : Option Value} {h : pm_H} {n : Nat}, cc - i = j → i + j < 1000000 → HC q cc gc h → m1 < 10000 → pm_run PT n fr lo 235 (19, [some (.ref 162), some (.int (nI m1)), some (.int x2), some (.int (nI i)), o4, o5], [], h, 198, sl) = some R → ∃ m wc w4 w5, pm_run PT m fr lo 235 (145, [some (.ref 162), some (.int (nI m1)), some (.int (v235_19 q cc gc (Ar h 170) m1 j i x2)), wc, w4, w5], [], h, 198, sl) = some R := by
  intro j
  induction j with
  | zero =>
    intro i x2 o4 o5 h n e eI hw h_m1 hh
    obtain ⟨n, hh⟩ := v235_19_e hw h_m1 (by omega) (by omega) hh
    exact ⟨n, _, o4, o5, hh⟩
  | succ j ih =>
    intro i x2 o4 o5 h n e eI hw h_m1 hh
    obtain ⟨n, w4, w5, hh⟩ := v235_19_s hw h_m1 (by omega) (by omega) hh
    obtain ⟨n, wc, v4, v5, hh⟩ := ih (by omega) (by omega) hw h_m1 hh
    exact ⟨n, wc, v4, v5, hh⟩
def v235 (q : QT) (cc gc : Nat) (h : pm_H) (g : Nat) : Int32 × pm_H := cond (decide (g < gc)) ((v235_19 q cc gc (Ar h 170) g cc 0 (nI 0)), v167 q cc gc (fset (fset h 162 0 (.int (nI 0))) 162 1 (.int (nI 0))) ((v270 q cc gc (v235_19 q cc gc (Ar h 170) g cc 0 (nI 0))).toInt64)) ((Int32.ofInt (-1)), fset h 162 0 (.int (nI 0)))
theorem v235_ok {n fr lo sl cc gc : Nat} {q : QT} {h : pm_H} {R : pm_Rs} {g : Nat} (hw : HC q cc gc h) (h_g : g < 10000) (hh : pm_run PT n fr lo 235 (0, pm_l0 [.ref 162, .int (nI g)] 6, [], h, 198, sl) = some R) : R = (some (.int ((v235 q cc gc h g).1)), (v235 q cc gc h g).2, 198, sl) ∧ HC q cc gc ((v235 q cc gc h g).2) ∧ frm [162, 163] [(162, 0), (162, 1)] h ((v235 q cc gc h g).2) := by
  have hcc := hw.cb
  have hgc := hw.gb
  have hzr := hw.zr
  obtain ⟨n, hh⟩ := rn_i rfl rfl rfl rfl hh
  obtain ⟨n, hh⟩ := rn_i rfl rfl rfl rfl hh
  have hh : pm_run PT n fr lo 235 (2, [some (.ref 162), some (.int (nI g)), none, none, none, none], [.int (nI 0), .ref 162], h, 198, sl) = some R := hh
  obtain ⟨n, hh⟩ := rn_pi hw.wt rfl rfl (by decide) rfl (by decide) rfl hh
  obtain ⟨n, hh⟩ := rn_i rfl rfl rfl rfl hh
  obtain ⟨n, hh⟩ := rn_i rfl rfl rfl rfl hh
  have hh : pm_run PT n fr lo 235 (7, [some (.ref 162), some (.int (nI g)), none, none, none, none], [.int (nI g), .ref 162], fset h 162 0 (.int (nI 0)), 198, sl) = some R := hh
  obtain ⟨n, fr1, lo1, r1, hh1, hh⟩ := rn_call (w := 0) (t := 169) rfl rfl hh
  have er1 := en_mg hgc (hc_m4 (hc_f rfl rfl (by decide) rfl hw)) hh1
  rw [cB_n (by omega)] at er1
  subst er1
  have hh : pm_run PT n fr lo 235 (10, [some (.ref 162), some (.int (nI g)), none, none, none, none], [.int (cond (decide (g < gc)) 1 0)], fset h 162 0 (.int (nI 0)), 198, sl) = some R := hh
  obtain ⟨n, hh⟩ := en_zn (cc := .ne) (off := 5) (t := 15) (b := decide (g < gc)) eb_ne rfl rfl hh
  cases z2 : decide (g < gc) with
  | true =>
    have hh := en_t z2 hh
    have hh : pm_run PT n fr lo 235 (15, [some (.ref 162), some (.int (nI g)), none, none, none, none], [], fset h 162 0 (.int (nI 0)), 198, sl) = some R := hh
    have y3 := of_decide_eq_true z2
    obtain ⟨n, hh⟩ := rn_i rfl rfl rfl rfl hh
    obtain ⟨n, hh⟩ := rn_i rfl rfl rfl rfl hh
    obtain ⟨n, hh⟩ := rn_i rfl rfl rfl rfl hh
    obtain ⟨n, hh⟩ := rn_i rfl rfl rfl rfl hh
    have hh : pm_run PT n fr lo 235 (19, [some (.ref 162), some (.int (nI g)), some (.int (nI 0)), some (.int (nI 0)), none, none], [], fset h 162 0 (.int (nI 0)), 198, sl) = some R := hh
    have hl7 := v235_19_ok (m1 := g)  (i := 0) (x2 := (nI 0)) (o4 := none) (o5 := none) (j := cc) (by omega) (by omega) (hc_f rfl rfl (by decide) rfl hw) (by omega) hh
    rw [show Ar (fset h 162 0 (.int (nI 0))) 170 = Ar h 170 from (Ar_f.trans rfl)] at hl7
    obtain ⟨n, u6, u4, u5, hh⟩ := hl7
    have hh : pm_run PT n fr lo 235 (145, [some (.ref 162), some (.int (nI g)), some (.int (v235_19 q cc gc (Ar h 170) g cc 0 (nI 0))), u6, u4, u5], [], fset h 162 0 (.int (nI 0)), 198, sl) = some R := hh
    obtain ⟨n, hh⟩ := rn_i rfl rfl rfl rfl hh
    obtain ⟨n, hh⟩ := rn_i rfl rfl rfl rfl hh
    have hh : pm_run PT n fr lo 235 (147, [some (.ref 162), some (.int (nI g)), some (.int (v235_19 q cc gc (Ar h 170) g cc 0 (nI 0))), u6, u4, u5], [.int (nI 0), .ref 162], fset h 162 0 (.int (nI 0)), 198, sl) = some R := hh
    obtain ⟨n, hh⟩ := rn_pi (hc_f rfl rfl (by decide) rfl hw).wt rfl rfl (by decide) rfl (by decide) rfl hh
    obtain ⟨n, hh⟩ := rn_i rfl rfl rfl rfl hh
    obtain ⟨n, hh⟩ := rn_i rfl rfl rfl rfl hh
    have hh : pm_run PT n fr lo 235 (152, [some (.ref 162), some (.int (nI g)), some (.int (v235_19 q cc gc (Ar h 170) g cc 0 (nI 0))), u6, u4, u5], [.int (v235_19 q cc gc (Ar h 170) g cc 0 (nI 0)), .ref 162], fset (fset h 162 0 (.int (nI 0))) 162 1 (.int (nI 0)), 198, sl) = some R := hh
    obtain ⟨n, fr1, lo1, r1, hh1, hh⟩ := rn_call (w := 2) (t := 270) rfl rfl hh
    have er8 := v270_ok (a := (v235_19 q cc gc (Ar h 170) g cc 0 (nI 0))) (hc_f rfl rfl (by decide) rfl (hc_f rfl rfl (by decide) rfl hw)) hh1
    subst er8
    obtain ⟨n, hh⟩ := rn_i rfl rfl rfl rfl hh
    have hh : pm_run PT n fr lo 235 (156, [some (.ref 162), some (.int (nI g)), some (.int (v235_19 q cc gc (Ar h 170) g cc 0 (nI 0))), u6, u4, u5], [.long ((v270 q cc gc (v235_19 q cc gc (Ar h 170) g cc 0 (nI 0))).toInt64), .ref 162], fset (fset h 162 0 (.int (nI 0))) 162 1 (.int (nI 0)), 198, sl) = some R := hh
    obtain ⟨n, fr1, lo1, r1, hh1, hh⟩ := rn_call (w := 0) (t := 167) rfl rfl hh
    obtain ⟨er9, hc10, hf11⟩ := v167_ok (v := ((v270 q cc gc (v235_19 q cc gc (Ar h 170) g cc 0 (nI 0))).toInt64)) (hc_f rfl rfl (by decide) rfl (hc_f rfl rfl (by decide) rfl hw)) hh1
    subst er9
    obtain ⟨n, hh⟩ := rn_i rfl rfl rfl rfl hh
    have hh : pm_run PT n fr lo 235 (160, [some (.ref 162), some (.int (nI g)), some (.int (v235_19 q cc gc (Ar h 170) g cc 0 (nI 0))), u6, u4, u5], [.int (v235_19 q cc gc (Ar h 170) g cc 0 (nI 0))], v167 q cc gc (fset (fset h 162 0 (.int (nI 0))) 162 1 (.int (nI 0))) ((v270 q cc gc (v235_19 q cc gc (Ar h 170) g cc 0 (nI 0))).toInt64), 198, sl) = some R := hh
    have er12 : R = (some (.int (v235_19 q cc gc (Ar h 170) g cc 0 (nI 0))), v167 q cc gc (fset (fset h 162 0 (.int (nI 0))) 162 1 (.int (nI 0))) ((v270 q cc gc (v235_19 q cc gc (Ar h 170) g cc 0 (nI 0))).toInt64), 198, sl) := (rn_ret rfl (Or.inl rfl) hh).2
    have ed : v235 q cc gc h g = ((v235_19 q cc gc (Ar h 170) g cc 0 (nI 0)), v167 q cc gc (fset (fset h 162 0 (.int (nI 0))) 162 1 (.int (nI 0))) ((v270 q cc gc (v235_19 q cc gc (Ar h 170) g cc 0 (nI 0))).toInt64)) := (ct z2).trans rfl
    refine ⟨?_, ?_, ?_⟩ <;> rw [ed]
    · exact er12
    · exact hc10
    · exact (fr_g rfl rfl hf11 (fr_f rfl rfl (fr_f rfl rfl fr_0)))
  | false =>
    have hh := en_f z2 hh
    have hh : pm_run PT n fr lo 235 (13, [some (.ref 162), some (.int (nI g)), none, none, none, none], [], fset h 162 0 (.int (nI 0)), 198, sl) = some R := hh
    have y13 := of_decide_eq_false z2
    obtain ⟨n, hh⟩ := rn_i rfl rfl rfl rfl hh
    have hh : pm_run PT n fr lo 235 (14, [some (.ref 162), some (.int (nI g)), none, none, none, none], [.int (Int32.ofInt (-1))], fset h 162 0 (.int (nI 0)), 198, sl) = some R := hh
    have er14 : R = (some (.int (Int32.ofInt (-1))), fset h 162 0 (.int (nI 0)), 198, sl) := (rn_ret rfl (Or.inl rfl) hh).2
    have ed : v235 q cc gc h g = ((Int32.ofInt (-1)), fset h 162 0 (.int (nI 0))) := (cf z2).trans rfl
    refine ⟨?_, ?_, ?_⟩ <;> rw [ed]
    · exact er14
    · exact (hc_f rfl rfl (by decide) rfl hw)
    · exact (fr_f rfl rfl fr_0)
theorem v235_fr {cc gc : Nat} {q : QT} {h : pm_H} {g : Nat} (hw : HC q cc gc h) : HC q cc gc ((v235 q cc gc h g).2) ∧ frm [162, 163] [(162, 0), (162, 1)] h ((v235 q cc gc h g).2) := by
  unfold v235
  refine cd_s (P := fun (p : Int32 × pm_H) => HC q cc gc ((p).2) ∧ frm [162, 163] [(162, 0), (162, 1)] h ((p).2)) (b := decide (g < gc)) (fun _ => ?_) (fun _ => ?_)
  · show HC q cc gc (v167 q cc gc (fset (fset h 162 0 (.int (nI 0))) 162 1 (.int (nI 0))) ((v270 q cc gc (v235_19 q cc gc (Ar h 170) g cc 0 (nI 0))).toInt64)) ∧ frm [162, 163] [(162, 0), (162, 1)] h (v167 q cc gc (fset (fset h 162 0 (.int (nI 0))) 162 1 (.int (nI 0))) ((v270 q cc gc (v235_19 q cc gc (Ar h 170) g cc 0 (nI 0))).toInt64))
    exact ⟨(v167_fr (v := ((v270 q cc gc (v235_19 q cc gc (Ar h 170) g cc 0 (nI 0))).toInt64)) (hc_f rfl rfl (by decide) rfl (hc_f rfl rfl (by decide) rfl hw))).1, (fr_g rfl rfl (v167_fr (v := ((v270 q cc gc (v235_19 q cc gc (Ar h 170) g cc 0 (nI 0))).toInt64)) (hc_f rfl rfl (by decide) rfl (hc_f rfl rfl (by decide) rfl hw))).2 (fr_f rfl rfl (fr_f rfl rfl fr_0)))⟩
  · show HC q cc gc (fset h 162 0 (.int (nI 0))) ∧ frm [162, 163] [(162, 0), (162, 1)] h (fset h 162 0 (.int (nI 0)))
    exact ⟨(hc_f rfl rfl (by decide) rfl hw), (fr_f rfl rfl fr_0)⟩
def v236_32b (q : QT) (cc gc : Nat) (h : pm_H) (m5 : Nat) (i : Nat) (x1 : Int32) (x2 : Int32) (x3 : Int32) (x4 : Int32) : Int32 × Int32 × Int32 × Int32 × pm_H := (cond (decide ((((Ar h 170) (78 + m5)).toNatClampNeg) = (((Ar h 170) (78 + i)).toNatClampNeg))) x1 (cond (pm_cmp .le (((v201 q cc gc h i (((Ar h 170) (78 + m5)).toNatClampNeg)).1) - ((v201 q cc gc ((v201 q cc gc h i (((Ar h 170) (78 + m5)).toNatClampNeg)).2) m5 (((Ar h 170) (78 + m5)).toNatClampNeg)).1)) 0) x1 (cond (pm_cmp .le (((v201 q cc gc ((v201 q cc gc ((v201 q cc gc h i (((Ar h 170) (78 + m5)).toNatClampNeg)).2) m5 (((Ar h 170) (78 + m5)).toNatClampNeg)).2) m5 (((Ar h 170) (78 + i)).toNatClampNeg)).1) - ((v201 q cc gc ((v201 q cc gc ((v201 q cc gc ((v201 q cc gc h i (((Ar h 170) (78 + m5)).toNatClampNeg)).2) m5 (((Ar h 170) (78 + m5)).toNatClampNeg)).2) m5 (((Ar h 170) (78 + i)).toNatClampNeg)).2) i (((Ar h 170) (78 + i)).toNatClampNeg)).1)) 0) x1 (x1 + Int32.ofInt 1))), cond (decide ((((Ar h 170) (78 + m5)).toNatClampNeg) = (((Ar h 170) (78 + i)).toNatClampNeg))) x2 (cond (pm_cmp .le (((v201 q cc gc h i (((Ar h 170) (78 + m5)).toNatClampNeg)).1) - ((v201 q cc gc ((v201 q cc gc h i (((Ar h 170) (78 + m5)).toNatClampNeg)).2) m5 (((Ar h 170) (78 + m5)).toNatClampNeg)).1)) 0) x2 (cond (pm_cmp .le (((v201 q cc gc ((v201 q cc gc ((v201 q cc gc h i (((Ar h 170) (78 + m5)).toNatClampNeg)).2) m5 (((Ar h 170) (78 + m5)).toNatClampNeg)).2) m5 (((Ar h 170) (78 + i)).toNatClampNeg)).1) - ((v201 q cc gc ((v201 q cc gc ((v201 q cc gc ((v201 q cc gc h i (((Ar h 170) (78 + m5)).toNatClampNeg)).2) m5 (((Ar h 170) (78 + m5)).toNatClampNeg)).2) m5 (((Ar h 170) (78 + i)).toNatClampNeg)).2) i (((Ar h 170) (78 + i)).toNatClampNeg)).1)) 0) x2 (cond (pm_cmp .le ((((v201 q cc gc h i (((Ar h 170) (78 + m5)).toNatClampNeg)).1) - ((v201 q cc gc ((v201 q cc gc h i (((Ar h 170) (78 + m5)).toNatClampNeg)).2) m5 (((Ar h 170) (78 + m5)).toNatClampNeg)).1)) + (((v201 q cc gc ((v201 q cc gc ((v201 q cc gc h i (((Ar h 170) (78 + m5)).toNatClampNeg)).2) m5 (((Ar h 170) (78 + m5)).toNatClampNeg)).2) m5 (((Ar h 170) (78 + i)).toNatClampNeg)).1) - ((v201 q cc gc ((v201 q cc gc ((v201 q cc gc ((v201 q cc gc h i (((Ar h 170) (78 + m5)).toNatClampNeg)).2) m5 (((Ar h 170) (78 + m5)).toNatClampNeg)).2) m5 (((Ar h 170) (78 + i)).toNatClampNeg)).2) i (((Ar h 170) (78 + i)).toNatClampNeg)).1))) x4) x2 (nI m5)))), cond (decide ((((Ar h 170) (78 + m5)).toNatClampNeg) = (((Ar h 170) (78 + i)).toNatClampNeg))) x3 (cond (pm_cmp .le (((v201 q cc gc h i (((Ar h 170) (78 + m5)).toNatClampNeg)).1) - ((v201 q cc gc ((v201 q cc gc h i (((Ar h 170) (78 + m5)).toNatClampNeg)).2) m5 (((Ar h 170) (78 + m5)).toNatClampNeg)).1)) 0) x3 (cond (pm_cmp .le (((v201 q cc gc ((v201 q cc gc ((v201 q cc gc h i (((Ar h 170) (78 + m5)).toNatClampNeg)).2) m5 (((Ar h 170) (78 + m5)).toNatClampNeg)).2) m5 (((Ar h 170) (78 + i)).toNatClampNeg)).1) - ((v201 q cc gc ((v201 q cc gc ((v201 q cc gc ((v201 q cc gc h i (((Ar h 170) (78 + m5)).toNatClampNeg)).2) m5 (((Ar h 170) (78 + m5)).toNatClampNeg)).2) m5 (((Ar h 170) (78 + i)).toNatClampNeg)).2) i (((Ar h 170) (78 + i)).toNatClampNeg)).1)) 0) x3 (cond (pm_cmp .le ((((v201 q cc gc h i (((Ar h 170) (78 + m5)).toNatClampNeg)).1) - ((v201 q cc gc ((v201 q cc gc h i (((Ar h 170) (78 + m5)).toNatClampNeg)).2) m5 (((Ar h 170) (78 + m5)).toNatClampNeg)).1)) + (((v201 q cc gc ((v201 q cc gc ((v201 q cc gc h i (((Ar h 170) (78 + m5)).toNatClampNeg)).2) m5 (((Ar h 170) (78 + m5)).toNatClampNeg)).2) m5 (((Ar h 170) (78 + i)).toNatClampNeg)).1) - ((v201 q cc gc ((v201 q cc gc ((v201 q cc gc ((v201 q cc gc h i (((Ar h 170) (78 + m5)).toNatClampNeg)).2) m5 (((Ar h 170) (78 + m5)).toNatClampNeg)).2) m5 (((Ar h 170) (78 + i)).toNatClampNeg)).2) i (((Ar h 170) (78 + i)).toNatClampNeg)).1))) x4) x3 (nI i)))), cond (decide ((((Ar h 170) (78 + m5)).toNatClampNeg) = (((Ar h 170) (78 + i)).toNatClampNeg))) x4 (cond (pm_cmp .le (((v201 q cc gc h i (((Ar h 170) (78 + m5)).toNatClampNeg)).1) - ((v201 q cc gc ((v201 q cc gc h i (((Ar h 170) (78 + m5)).toNatClampNeg)).2) m5 (((Ar h 170) (78 + m5)).toNatClampNeg)).1)) 0) x4 (cond (pm_cmp .le (((v201 q cc gc ((v201 q cc gc ((v201 q cc gc h i (((Ar h 170) (78 + m5)).toNatClampNeg)).2) m5 (((Ar h 170) (78 + m5)).toNatClampNeg)).2) m5 (((Ar h 170) (78 + i)).toNatClampNeg)).1) - ((v201 q cc gc ((v201 q cc gc ((v201 q cc gc ((v201 q cc gc h i (((Ar h 170) (78 + m5)).toNatClampNeg)).2) m5 (((Ar h 170) (78 + m5)).toNatClampNeg)).2) m5 (((Ar h 170) (78 + i)).toNatClampNeg)).2) i (((Ar h 170) (78 + i)).toNatClampNeg)).1)) 0) x4 (cond (pm_cmp .le ((((v201 q cc gc h i (((Ar h 170) (78 + m5)).toNatClampNeg)).1) - ((v201 q cc gc ((v201 q cc gc h i (((Ar h 170) (78 + m5)).toNatClampNeg)).2) m5 (((Ar h 170) (78 + m5)).toNatClampNeg)).1)) + (((v201 q cc gc ((v201 q cc gc ((v201 q cc gc h i (((Ar h 170) (78 + m5)).toNatClampNeg)).2) m5 (((Ar h 170) (78 + m5)).toNatClampNeg)).2) m5 (((Ar h 170) (78 + i)).toNatClampNeg)).1) - ((v201 q cc gc ((v201 q cc gc ((v201 q cc gc ((v201 q cc gc h i (((Ar h 170) (78 + m5)).toNatClampNeg)).2) m5 (((Ar h 170) (78 + m5)).toNatClampNeg)).2) m5 (((Ar h 170) (78 + i)).toNatClampNeg)).2) i (((Ar h 170) (78 + i)).toNatClampNeg)).1))) x4) x4 ((((v201 q cc gc h i (((Ar h 170) (78 + m5)).toNatClampNeg)).1) - ((v201 q cc gc ((v201 q cc gc h i (((Ar h 170) (78 + m5)).toNatClampNeg)).2) m5 (((Ar h 170) (78 + m5)).toNatClampNeg)).1)) + (((v201 q cc gc ((v201 q cc gc ((v201 q cc gc h i (((Ar h 170) (78 + m5)).toNatClampNeg)).2) m5 (((Ar h 170) (78 + m5)).toNatClampNeg)).2) m5 (((Ar h 170) (78 + i)).toNatClampNeg)).1) - ((v201 q cc gc ((v201 q cc gc ((v201 q cc gc ((v201 q cc gc h i (((Ar h 170) (78 + m5)).toNatClampNeg)).2) m5 (((Ar h 170) (78 + m5)).toNatClampNeg)).2) m5 (((Ar h 170) (78 + i)).toNatClampNeg)).2) i (((Ar h 170) (78 + i)).toNatClampNeg)).1)))))), (v201 q cc gc ((v201 q cc gc ((v201 q cc gc ((v201 q cc gc h i (((Ar h 170) (78 + m5)).toNatClampNeg)).2) m5 (((Ar h 170) (78 + m5)).toNatClampNeg)).2) m5 (((Ar h 170) (78 + i)).toNatClampNeg)).2) i (((Ar h 170) (78 + i)).toNatClampNeg)).2)
def v236_32 (q : QT) (cc gc : Nat) (m5 : Nat) (j i : Nat) (a : Int32 × Int32 × Int32 × Int32 × pm_H) : Int32 × Int32 × Int32 × Int32 × pm_H := lp (fun i a => v236_32b q cc gc a.2.2.2.2 m5 i a.1 a.2.1 a.2.2.1 a.2.2.2.1) j i a
theorem v236_32_e {n fr lo sl cc gc : Nat} {q : QT} {h : pm_H} {R : pm_Rs} {m5 : Nat} {i : Nat} {x1 : Int32} {x2 : Int32} {x3 : Int32} {x4 : Int32} {o7 : Option Value} {o8 : Option Value} {o9 : Option Value} {o10 : Option Value} (hw : HC q cc gc h) (h_m5 : m5 < gc) (hol : NA h 170 78 86 6) (hi : gc ≤ i) (hI : i < 1000000) (hh : pm_run PT n fr lo 236 (32, [some (.ref 162), some (.int x1), some (.int x2), some (.int x3), some (.int x4), some (.int (nI m5)), some (.int (nI i)), o7, o8, o9, o10], [], h, 198, sl) = some R) : ∃ m, pm_run PT m fr lo 236 (168, [some (.ref 162), some (.int x1), some (.int x2), some (.int x3), some (.int x4), some (.int (nI m5)), some (.int (nI i)), o7, o8, o9, o10], [], h, 198, sl) = some R := by
  have hcc := hw.cb
  have hgc := hw.gb
  have hzr := hw.zr
  obtain ⟨n, hh⟩ := rn_i rfl rfl rfl rfl hh
  obtain ⟨n, hh⟩ := rn_i rfl rfl rfl rfl hh
  have hh : pm_run PT n fr lo 236 (35, [some (.ref 162), some (.int x1), some (.int x2), some (.int x3), some (.int x4), some (.int (nI m5)), some (.int (nI i)), o7, o8, o9, o10], [.ref 162, .int (nI i)], h, 198, sl) = some R := hh
  obtain ⟨n, hh⟩ := rn_gi (x := nI gc) hw.wt rfl rfl (by decide) rfl (by decide) rfl hw.m4 hh
  have hh : pm_run PT n fr lo 236 (38, [some (.ref 162), some (.int x1), some (.int x2), some (.int x3), some (.int x4), some (.int (nI m5)), some (.int (nI i)), o7, o8, o9, o10], [.int (nI gc), .int (nI i)], h, 198, sl) = some R := hh
  obtain ⟨n, hh⟩ := en_cn (cc := .ge) (off := 130) (t := 168) (b := decide (gc ≤ i)) (hI_ge (by omega) (by omega)) rfl rfl hh
  have hh := en_t (show decide (gc ≤ i) = true from decide_eq_true (by omega)) hh
  have hh : pm_run PT n fr lo 236 (168, [some (.ref 162), some (.int x1), some (.int x2), some (.int x3), some (.int x4), some (.int (nI m5)), some (.int (nI i)), o7, o8, o9, o10], [], h, 198, sl) = some R := hh
  exact ⟨n, hh⟩
theorem v236_32_s {n fr lo sl cc gc : Nat} {q : QT} {h : pm_H} {R : pm_Rs} {m5 : Nat} {i : Nat} {x1 : Int32} {x2 : Int32} {x3 : Int32} {x4 : Int32} {o7 : Option Value} {o8 : Option Value} {o9 : Option Value} {o10 : Option Value} (hw : HC q cc gc h) (h_m5 : m5 < gc) (hol : NA h 170 78 86 6) (hi : i < gc) (hI : i < 1000000) (hh : pm_run PT n fr lo 236 (32, [some (.ref 162), some (.int x1), some (.int x2), some (.int x3), some (.int x4), some (.int (nI m5)), some (.int (nI i)), o7, o8, o9, o10], [], h, 198, sl) = some R) : ∃ m w7 w8 w9 w10, HC q cc gc ((v236_32b q cc gc h m5 i x1 x2 x3 x4).2.2.2.2) ∧ frm [176, 177] [] h ((v236_32b q cc gc h m5 i x1 x2 x3 x4).2.2.2.2) ∧ NA ((v236_32b q cc gc h m5 i x1 x2 x3 x4).2.2.2.2) 170 78 86 6 ∧ pm_run PT m fr lo 236 (32, [some (.ref 162), some (.int ((v236_32b q cc gc h m5 i x1 x2 x3 x4).1)), some (.int ((v236_32b q cc gc h m5 i x1 x2 x3 x4).2.1)), some (.int ((v236_32b q cc gc h m5 i x1 x2 x3 x4).2.2.1)), some (.int ((v236_32b q cc gc h m5 i x1 x2 x3 x4).2.2.2.1)), some (.int (nI m5)), some (.int (nI (i + 1))), w7, w8, w9, w10], [], (v236_32b q cc gc h m5 i x1 x2 x3 x4).2.2.2.2, 198, sl) = some R := by
  have hcc := hw.cb
  have hgc := hw.gb
  have hzr := hw.zr
  obtain ⟨n, hh⟩ := rn_i rfl rfl rfl rfl hh
  obtain ⟨n, hh⟩ := rn_i rfl rfl rfl rfl hh
  have hh : pm_run PT n fr lo 236 (35, [some (.ref 162), some (.int x1), some (.int x2), some (.int x3), some (.int x4), some (.int (nI m5)), some (.int (nI i)), o7, o8, o9, o10], [.ref 162, .int (nI i)], h, 198, sl) = some R := hh
  obtain ⟨n, hh⟩ := rn_gi (x := nI gc) hw.wt rfl rfl (by decide) rfl (by decide) rfl hw.m4 hh
  have hh : pm_run PT n fr lo 236 (38, [some (.ref 162), some (.int x1), some (.int x2), some (.int x3), some (.int x4), some (.int (nI m5)), some (.int (nI i)), o7, o8, o9, o10], [.int (nI gc), .int (nI i)], h, 198, sl) = some R := hh
  obtain ⟨n, hh⟩ := en_cn (cc := .ge) (off := 130) (t := 168) (b := decide (gc ≤ i)) (hI_ge (by omega) (by omega)) rfl rfl hh
  have hh := en_f (show decide (gc ≤ i) = false from decide_eq_false (by omega)) hh
  have hh : pm_run PT n fr lo 236 (41, [some (.ref 162), some (.int x1), some (.int x2), some (.int x3), some (.int x4), some (.int (nI m5)), some (.int (nI i)), o7, o8, o9, o10], [], h, 198, sl) = some R := hh
  obtain ⟨n, hh⟩ := rn_i rfl rfl rfl rfl hh
  have hh : pm_run PT n fr lo 236 (42, [some (.ref 162), some (.int x1), some (.int x2), some (.int x3), some (.int x4), some (.int (nI m5)), some (.int (nI i)), o7, o8, o9, o10], [.ref 162], h, 198, sl) = some R := hh
  obtain ⟨n, hh⟩ := rn_gr hw.wt rfl rfl (by decide) rfl (by decide) (show _ = some (2, ((170 : Nat) : Int), 1) from rfl) rfl hh
  obtain ⟨n, hh⟩ := rn_i rfl rfl rfl rfl hh
  obtain ⟨n, hh⟩ := rn_i rfl rfl rfl rfl hh
  have hh : pm_run PT n fr lo 236 (49, [some (.ref 162), some (.int x1), some (.int x2), some (.int x3), some (.int x4), some (.int (nI m5)), some (.int (nI i)), o7, o8, o9, o10], [.int (nI m5), .int (nI 78), .ref 170], h, 198, sl) = some R := hh
  obtain ⟨n, hh⟩ := en_add rfl hh
  have hh : pm_run PT n fr lo 236 (50, [some (.ref 162), some (.int x1), some (.int x2), some (.int x3), some (.int x4), some (.int (nI m5)), some (.int (nI i)), o7, o8, o9, o10], [.int (nI (78 + m5)), .ref 170], h, 198, sl) = some R := hh
  have hh : pm_run PT n fr lo 236 (50, [some (.ref 162), some (.int x1), some (.int x2), some (.int x3), some (.int x4), some (.int (nI m5)), some (.int (nI i)), o7, o8, o9, o10], [.int (nI (78 + m5)), .ref 170], h, 198, sl) = some R := hh
  obtain ⟨n, hx1, hh⟩ := en_lu (t := 78 + m5) (f := Ar h 170) (w := nI (((Ar h 170) (78 + m5)).toNatClampNeg)) (nI_clamp (by omega)) hw.wt rfl (by decide) rfl (by decide) rfl (fun z => (hol _ (by omega) (by omega)).1) hh
  have hb2 := (hol (78 + m5) (by omega) (by omega)).2
  obtain ⟨n, hh⟩ := rn_i rfl rfl rfl rfl hh
  obtain ⟨n, hh⟩ := rn_i rfl rfl rfl rfl hh
  have hh : pm_run PT n fr lo 236 (54, [some (.ref 162), some (.int x1), some (.int x2), some (.int x3), some (.int x4), some (.int (nI m5)), some (.int (nI i)), some (.int (nI (((Ar h 170) (78 + m5)).toNatClampNeg))), o8, o9, o10], [.ref 162], h, 198, sl) = some R := hh
  obtain ⟨n, hh⟩ := rn_gr hw.wt rfl rfl (by decide) rfl (by decide) (show _ = some (2, ((170 : Nat) : Int), 1) from rfl) rfl hh
  obtain ⟨n, hh⟩ := rn_i rfl rfl rfl rfl hh
  obtain ⟨n, hh⟩ := rn_i rfl rfl rfl rfl hh
  have hh : pm_run PT n fr lo 236 (61, [some (.ref 162), some (.int x1), some (.int x2), some (.int x3), some (.int x4), some (.int (nI m5)), some (.int (nI i)), some (.int (nI (((Ar h 170) (78 + m5)).toNatClampNeg))), o8, o9, o10], [.int (nI i), .int (nI 78), .ref 170], h, 198, sl) = some R := hh
  obtain ⟨n, hh⟩ := en_add rfl hh
  have hh : pm_run PT n fr lo 236 (62, [some (.ref 162), some (.int x1), some (.int x2), some (.int x3), some (.int x4), some (.int (nI m5)), some (.int (nI i)), some (.int (nI (((Ar h 170) (78 + m5)).toNatClampNeg))), o8, o9, o10], [.int (nI (78 + i)), .ref 170], h, 198, sl) = some R := hh
  have hh : pm_run PT n fr lo 236 (62, [some (.ref 162), some (.int x1), some (.int x2), some (.int x3), some (.int x4), some (.int (nI m5)), some (.int (nI i)), some (.int (nI (((Ar h 170) (78 + m5)).toNatClampNeg))), o8, o9, o10], [.int (nI (78 + i)), .ref 170], h, 198, sl) = some R := hh
  obtain ⟨n, hx3, hh⟩ := en_lu (t := 78 + i) (f := Ar h 170) (w := nI (((Ar h 170) (78 + i)).toNatClampNeg)) (nI_clamp (by omega)) hw.wt rfl (by decide) rfl (by decide) rfl (fun z => (hol _ (by omega) (by omega)).1) hh
  have hb4 := (hol (78 + i) (by omega) (by omega)).2
  obtain ⟨n, hh⟩ := rn_i rfl rfl rfl rfl hh
  obtain ⟨n, hh⟩ := rn_i rfl rfl rfl rfl hh
  obtain ⟨n, hh⟩ := rn_i rfl rfl rfl rfl hh
  have hh : pm_run PT n fr lo 236 (67, [some (.ref 162), some (.int x1), some (.int x2), some (.int x3), some (.int x4), some (.int (nI m5)), some (.int (nI i)), some (.int (nI (((Ar h 170) (78 + m5)).toNatClampNeg))), some (.int (nI (((Ar h 170) (78 + i)).toNatClampNeg))), o9, o10], [.ref 162, .ref 162], h, 198, sl) = some R := hh
  obtain ⟨n, hh⟩ := rn_gr hw.wt rfl rfl (by decide) rfl (by decide) (show _ = some (2, ((170 : Nat) : Int), 1) from rfl) rfl hh
  obtain ⟨n, hh⟩ := rn_i rfl rfl rfl rfl hh
  obtain ⟨n, hh⟩ := rn_i rfl rfl rfl rfl hh
  have hh : pm_run PT n fr lo 236 (74, [some (.ref 162), some (.int x1), some (.int x2), some (.int x3), some (.int x4), some (.int (nI m5)), some (.int (nI i)), some (.int (nI (((Ar h 170) (78 + m5)).toNatClampNeg))), some (.int (nI (((Ar h 170) (78 + i)).toNatClampNeg))), o9, o10], [.int (nI (((Ar h 170) (78 + m5)).toNatClampNeg)), .int (nI i), .ref 170, .ref 162], h, 198, sl) = some R := hh
  obtain ⟨n, fr1, lo1, r1, hh1, hh⟩ := rn_call (w := 0) (t := 201) rfl rfl hh
  obtain ⟨er5, hc6, hf7⟩ := v201_ok (g := i) (c := (((Ar h 170) (78 + m5)).toNatClampNeg)) hw (by omega) (by omega) hh1
  subst er5
  obtain ⟨n, hh⟩ := rn_i rfl rfl rfl rfl hh
  obtain ⟨n, hh⟩ := rn_i rfl rfl rfl rfl hh
  have hh : pm_run PT n fr lo 236 (79, [some (.ref 162), some (.int x1), some (.int x2), some (.int x3), some (.int x4), some (.int (nI m5)), some (.int (nI i)), some (.int (nI (((Ar h 170) (78 + m5)).toNatClampNeg))), some (.int (nI (((Ar h 170) (78 + i)).toNatClampNeg))), o9, o10], [.ref 162, .ref 162, .int ((v201 q cc gc h i (((Ar h 170) (78 + m5)).toNatClampNeg)).1)], (v201 q cc gc h i (((Ar h 170) (78 + m5)).toNatClampNeg)).2, 198, sl) = some R := hh
  obtain ⟨n, hh⟩ := rn_gr hc6.wt rfl rfl (by decide) rfl (by decide) (show _ = some (2, ((170 : Nat) : Int), 1) from rfl) rfl hh
  obtain ⟨n, hh⟩ := rn_i rfl rfl rfl rfl hh
  obtain ⟨n, hh⟩ := rn_i rfl rfl rfl rfl hh
  have hh : pm_run PT n fr lo 236 (86, [some (.ref 162), some (.int x1), some (.int x2), some (.int x3), some (.int x4), some (.int (nI m5)), some (.int (nI i)), some (.int (nI (((Ar h 170) (78 + m5)).toNatClampNeg))), some (.int (nI (((Ar h 170) (78 + i)).toNatClampNeg))), o9, o10], [.int (nI (((Ar h 170) (78 + m5)).toNatClampNeg)), .int (nI m5), .ref 170, .ref 162, .int ((v201 q cc gc h i (((Ar h 170) (78 + m5)).toNatClampNeg)).1)], (v201 q cc gc h i (((Ar h 170) (78 + m5)).toNatClampNeg)).2, 198, sl) = some R := hh
  obtain ⟨n, fr1, lo1, r1, hh1, hh⟩ := rn_call (w := 0) (t := 201) rfl rfl hh
  obtain ⟨er8, hc9, hf10⟩ := v201_ok (g := m5) (c := (((Ar h 170) (78 + m5)).toNatClampNeg)) hc6 (by omega) (by omega) hh1
  subst er8
  obtain ⟨n, hh⟩ := rn_i rfl rfl rfl rfl hh
  obtain ⟨n, hh⟩ := rn_i rfl rfl rfl rfl hh
  obtain ⟨n, hh⟩ := rn_i rfl rfl rfl rfl hh
  obtain ⟨n, hh⟩ := rn_i rfl rfl rfl rfl hh
  have hh : pm_run PT n fr lo 236 (94, [some (.ref 162), some (.int x1), some (.int x2), some (.int x3), some (.int x4), some (.int (nI m5)), some (.int (nI i)), some (.int (nI (((Ar h 170) (78 + m5)).toNatClampNeg))), some (.int (nI (((Ar h 170) (78 + i)).toNatClampNeg))), some (.int (((v201 q cc gc h i (((Ar h 170) (78 + m5)).toNatClampNeg)).1) - ((v201 q cc gc ((v201 q cc gc h i (((Ar h 170) (78 + m5)).toNatClampNeg)).2) m5 (((Ar h 170) (78 + m5)).toNatClampNeg)).1))), o10], [.ref 162, .ref 162], (v201 q cc gc ((v201 q cc gc h i (((Ar h 170) (78 + m5)).toNatClampNeg)).2) m5 (((Ar h 170) (78 + m5)).toNatClampNeg)).2, 198, sl) = some R := hh
  obtain ⟨n, hh⟩ := rn_gr hc9.wt rfl rfl (by decide) rfl (by decide) (show _ = some (2, ((170 : Nat) : Int), 1) from rfl) rfl hh
  obtain ⟨n, hh⟩ := rn_i rfl rfl rfl rfl hh
  obtain ⟨n, hh⟩ := rn_i rfl rfl rfl rfl hh
  have hh : pm_run PT n fr lo 236 (101, [some (.ref 162), some (.int x1), some (.int x2), some (.int x3), some (.int x4), some (.int (nI m5)), some (.int (nI i)), some (.int (nI (((Ar h 170) (78 + m5)).toNatClampNeg))), some (.int (nI (((Ar h 170) (78 + i)).toNatClampNeg))), some (.int (((v201 q cc gc h i (((Ar h 170) (78 + m5)).toNatClampNeg)).1) - ((v201 q cc gc ((v201 q cc gc h i (((Ar h 170) (78 + m5)).toNatClampNeg)).2) m5 (((Ar h 170) (78 + m5)).toNatClampNeg)).1))), o10], [.int (nI (((Ar h 170) (78 + i)).toNatClampNeg)), .int (nI m5), .ref 170, .ref 162], (v201 q cc gc ((v201 q cc gc h i (((Ar h 170) (78 + m5)).toNatClampNeg)).2) m5 (((Ar h 170) (78 + m5)).toNatClampNeg)).2, 198, sl) = some R := hh
  obtain ⟨n, fr1, lo1, r1, hh1, hh⟩ := rn_call (w := 0) (t := 201) rfl rfl hh
  obtain ⟨er11, hc12, hf13⟩ := v201_ok (g := m5) (c := (((Ar h 170) (78 + i)).toNatClampNeg)) hc9 (by omega) (by omega) hh1
  subst er11
  obtain ⟨n, hh⟩ := rn_i rfl rfl rfl rfl hh
  obtain ⟨n, hh⟩ := rn_i rfl rfl rfl rfl hh
  have hh : pm_run PT n fr lo 236 (106, [some (.ref 162), some (.int x1), some (.int x2), some (.int x3), some (.int x4), some (.int (nI m5)), some (.int (nI i)), some (.int (nI (((Ar h 170) (78 + m5)).toNatClampNeg))), some (.int (nI (((Ar h 170) (78 + i)).toNatClampNeg))), some (.int (((v201 q cc gc h i (((Ar h 170) (78 + m5)).toNatClampNeg)).1) - ((v201 q cc gc ((v201 q cc gc h i (((Ar h 170) (78 + m5)).toNatClampNeg)).2) m5 (((Ar h 170) (78 + m5)).toNatClampNeg)).1))), o10], [.ref 162, .ref 162, .int ((v201 q cc gc ((v201 q cc gc ((v201 q cc gc h i (((Ar h 170) (78 + m5)).toNatClampNeg)).2) m5 (((Ar h 170) (78 + m5)).toNatClampNeg)).2) m5 (((Ar h 170) (78 + i)).toNatClampNeg)).1)], (v201 q cc gc ((v201 q cc gc ((v201 q cc gc h i (((Ar h 170) (78 + m5)).toNatClampNeg)).2) m5 (((Ar h 170) (78 + m5)).toNatClampNeg)).2) m5 (((Ar h 170) (78 + i)).toNatClampNeg)).2, 198, sl) = some R := hh
  obtain ⟨n, hh⟩ := rn_gr hc12.wt rfl rfl (by decide) rfl (by decide) (show _ = some (2, ((170 : Nat) : Int), 1) from rfl) rfl hh
  obtain ⟨n, hh⟩ := rn_i rfl rfl rfl rfl hh
  obtain ⟨n, hh⟩ := rn_i rfl rfl rfl rfl hh
  have hh : pm_run PT n fr lo 236 (113, [some (.ref 162), some (.int x1), some (.int x2), some (.int x3), some (.int x4), some (.int (nI m5)), some (.int (nI i)), some (.int (nI (((Ar h 170) (78 + m5)).toNatClampNeg))), some (.int (nI (((Ar h 170) (78 + i)).toNatClampNeg))), some (.int (((v201 q cc gc h i (((Ar h 170) (78 + m5)).toNatClampNeg)).1) - ((v201 q cc gc ((v201 q cc gc h i (((Ar h 170) (78 + m5)).toNatClampNeg)).2) m5 (((Ar h 170) (78 + m5)).toNatClampNeg)).1))), o10], [.int (nI (((Ar h 170) (78 + i)).toNatClampNeg)), .int (nI i), .ref 170, .ref 162, .int ((v201 q cc gc ((v201 q cc gc ((v201 q cc gc h i (((Ar h 170) (78 + m5)).toNatClampNeg)).2) m5 (((Ar h 170) (78 + m5)).toNatClampNeg)).2) m5 (((Ar h 170) (78 + i)).toNatClampNeg)).1)], (v201 q cc gc ((v201 q cc gc ((v201 q cc gc h i (((Ar h 170) (78 + m5)).toNatClampNeg)).2) m5 (((Ar h 170) (78 + m5)).toNatClampNeg)).2) m5 (((Ar h 170) (78 + i)).toNatClampNeg)).2, 198, sl) = some R := hh
  obtain ⟨n, fr1, lo1, r1, hh1, hh⟩ := rn_call (w := 0) (t := 201) rfl rfl hh
  obtain ⟨er14, hc15, hf16⟩ := v201_ok (g := i) (c := (((Ar h 170) (78 + i)).toNatClampNeg)) hc12 (by omega) (by omega) hh1
  subst er14
  obtain ⟨n, hh⟩ := rn_i rfl rfl rfl rfl hh
  obtain ⟨n, hh⟩ := rn_i rfl rfl rfl rfl hh
  obtain ⟨n, hh⟩ := rn_i rfl rfl rfl rfl hh
  obtain ⟨n, hh⟩ := rn_i rfl rfl rfl rfl hh
  have hh : pm_run PT n fr lo 236 (123, [some (.ref 162), some (.int x1), some (.int x2), some (.int x3), some (.int x4), some (.int (nI m5)), some (.int (nI i)), some (.int (nI (((Ar h 170) (78 + m5)).toNatClampNeg))), some (.int (nI (((Ar h 170) (78 + i)).toNatClampNeg))), some (.int (((v201 q cc gc h i (((Ar h 170) (78 + m5)).toNatClampNeg)).1) - ((v201 q cc gc ((v201 q cc gc h i (((Ar h 170) (78 + m5)).toNatClampNeg)).2) m5 (((Ar h 170) (78 + m5)).toNatClampNeg)).1))), some (.int (((v201 q cc gc ((v201 q cc gc ((v201 q cc gc h i (((Ar h 170) (78 + m5)).toNatClampNeg)).2) m5 (((Ar h 170) (78 + m5)).toNatClampNeg)).2) m5 (((Ar h 170) (78 + i)).toNatClampNeg)).1) - ((v201 q cc gc ((v201 q cc gc ((v201 q cc gc ((v201 q cc gc h i (((Ar h 170) (78 + m5)).toNatClampNeg)).2) m5 (((Ar h 170) (78 + m5)).toNatClampNeg)).2) m5 (((Ar h 170) (78 + i)).toNatClampNeg)).2) i (((Ar h 170) (78 + i)).toNatClampNeg)).1)))], [.int (nI (((Ar h 170) (78 + i)).toNatClampNeg)), .int (nI (((Ar h 170) (78 + m5)).toNatClampNeg))], (v201 q cc gc ((v201 q cc gc ((v201 q cc gc ((v201 q cc gc h i (((Ar h 170) (78 + m5)).toNatClampNeg)).2) m5 (((Ar h 170) (78 + m5)).toNatClampNeg)).2) m5 (((Ar h 170) (78 + i)).toNatClampNeg)).2) i (((Ar h 170) (78 + i)).toNatClampNeg)).2, 198, sl) = some R := hh
  obtain ⟨n, hh⟩ := en_cn (cc := .eq) (off := 39) (t := 162) (b := decide ((((Ar h 170) (78 + m5)).toNatClampNeg) = (((Ar h 170) (78 + i)).toNatClampNeg))) (hI_eq (by omega) (by omega)) rfl rfl hh
  have hj24 : ∃ mJ, pm_run PT mJ fr lo 236 (cond (decide ((((Ar h 170) (78 + m5)).toNatClampNeg) = (((Ar h 170) (78 + i)).toNatClampNeg))) (162, [some (.ref 162), some (.int x1), some (.int x2), some (.int x3), some (.int x4), some (.int (nI m5)), some (.int (nI i)), some (.int (nI (((Ar h 170) (78 + m5)).toNatClampNeg))), some (.int (nI (((Ar h 170) (78 + i)).toNatClampNeg))), some (.int (((v201 q cc gc h i (((Ar h 170) (78 + m5)).toNatClampNeg)).1) - ((v201 q cc gc ((v201 q cc gc h i (((Ar h 170) (78 + m5)).toNatClampNeg)).2) m5 (((Ar h 170) (78 + m5)).toNatClampNeg)).1))), some (.int (((v201 q cc gc ((v201 q cc gc ((v201 q cc gc h i (((Ar h 170) (78 + m5)).toNatClampNeg)).2) m5 (((Ar h 170) (78 + m5)).toNatClampNeg)).2) m5 (((Ar h 170) (78 + i)).toNatClampNeg)).1) - ((v201 q cc gc ((v201 q cc gc ((v201 q cc gc ((v201 q cc gc h i (((Ar h 170) (78 + m5)).toNatClampNeg)).2) m5 (((Ar h 170) (78 + m5)).toNatClampNeg)).2) m5 (((Ar h 170) (78 + i)).toNatClampNeg)).2) i (((Ar h 170) (78 + i)).toNatClampNeg)).1)))], [], (v201 q cc gc ((v201 q cc gc ((v201 q cc gc ((v201 q cc gc h i (((Ar h 170) (78 + m5)).toNatClampNeg)).2) m5 (((Ar h 170) (78 + m5)).toNatClampNeg)).2) m5 (((Ar h 170) (78 + i)).toNatClampNeg)).2) i (((Ar h 170) (78 + i)).toNatClampNeg)).2, 198, sl) (162, [some (.ref 162), some (.int (cond (pm_cmp .le (((v201 q cc gc h i (((Ar h 170) (78 + m5)).toNatClampNeg)).1) - ((v201 q cc gc ((v201 q cc gc h i (((Ar h 170) (78 + m5)).toNatClampNeg)).2) m5 (((Ar h 170) (78 + m5)).toNatClampNeg)).1)) 0) x1 (cond (pm_cmp .le (((v201 q cc gc ((v201 q cc gc ((v201 q cc gc h i (((Ar h 170) (78 + m5)).toNatClampNeg)).2) m5 (((Ar h 170) (78 + m5)).toNatClampNeg)).2) m5 (((Ar h 170) (78 + i)).toNatClampNeg)).1) - ((v201 q cc gc ((v201 q cc gc ((v201 q cc gc ((v201 q cc gc h i (((Ar h 170) (78 + m5)).toNatClampNeg)).2) m5 (((Ar h 170) (78 + m5)).toNatClampNeg)).2) m5 (((Ar h 170) (78 + i)).toNatClampNeg)).2) i (((Ar h 170) (78 + i)).toNatClampNeg)).1)) 0) x1 (x1 + Int32.ofInt 1)))), some (.int (cond (pm_cmp .le (((v201 q cc gc h i (((Ar h 170) (78 + m5)).toNatClampNeg)).1) - ((v201 q cc gc ((v201 q cc gc h i (((Ar h 170) (78 + m5)).toNatClampNeg)).2) m5 (((Ar h 170) (78 + m5)).toNatClampNeg)).1)) 0) x2 (cond (pm_cmp .le (((v201 q cc gc ((v201 q cc gc ((v201 q cc gc h i (((Ar h 170) (78 + m5)).toNatClampNeg)).2) m5 (((Ar h 170) (78 + m5)).toNatClampNeg)).2) m5 (((Ar h 170) (78 + i)).toNatClampNeg)).1) - ((v201 q cc gc ((v201 q cc gc ((v201 q cc gc ((v201 q cc gc h i (((Ar h 170) (78 + m5)).toNatClampNeg)).2) m5 (((Ar h 170) (78 + m5)).toNatClampNeg)).2) m5 (((Ar h 170) (78 + i)).toNatClampNeg)).2) i (((Ar h 170) (78 + i)).toNatClampNeg)).1)) 0) x2 (cond (pm_cmp .le ((((v201 q cc gc h i (((Ar h 170) (78 + m5)).toNatClampNeg)).1) - ((v201 q cc gc ((v201 q cc gc h i (((Ar h 170) (78 + m5)).toNatClampNeg)).2) m5 (((Ar h 170) (78 + m5)).toNatClampNeg)).1)) + (((v201 q cc gc ((v201 q cc gc ((v201 q cc gc h i (((Ar h 170) (78 + m5)).toNatClampNeg)).2) m5 (((Ar h 170) (78 + m5)).toNatClampNeg)).2) m5 (((Ar h 170) (78 + i)).toNatClampNeg)).1) - ((v201 q cc gc ((v201 q cc gc ((v201 q cc gc ((v201 q cc gc h i (((Ar h 170) (78 + m5)).toNatClampNeg)).2) m5 (((Ar h 170) (78 + m5)).toNatClampNeg)).2) m5 (((Ar h 170) (78 + i)).toNatClampNeg)).2) i (((Ar h 170) (78 + i)).toNatClampNeg)).1))) x4) x2 (nI m5))))), some (.int (cond (pm_cmp .le (((v201 q cc gc h i (((Ar h 170) (78 + m5)).toNatClampNeg)).1) - ((v201 q cc gc ((v201 q cc gc h i (((Ar h 170) (78 + m5)).toNatClampNeg)).2) m5 (((Ar h 170) (78 + m5)).toNatClampNeg)).1)) 0) x3 (cond (pm_cmp .le (((v201 q cc gc ((v201 q cc gc ((v201 q cc gc h i (((Ar h 170) (78 + m5)).toNatClampNeg)).2) m5 (((Ar h 170) (78 + m5)).toNatClampNeg)).2) m5 (((Ar h 170) (78 + i)).toNatClampNeg)).1) - ((v201 q cc gc ((v201 q cc gc ((v201 q cc gc ((v201 q cc gc h i (((Ar h 170) (78 + m5)).toNatClampNeg)).2) m5 (((Ar h 170) (78 + m5)).toNatClampNeg)).2) m5 (((Ar h 170) (78 + i)).toNatClampNeg)).2) i (((Ar h 170) (78 + i)).toNatClampNeg)).1)) 0) x3 (cond (pm_cmp .le ((((v201 q cc gc h i (((Ar h 170) (78 + m5)).toNatClampNeg)).1) - ((v201 q cc gc ((v201 q cc gc h i (((Ar h 170) (78 + m5)).toNatClampNeg)).2) m5 (((Ar h 170) (78 + m5)).toNatClampNeg)).1)) + (((v201 q cc gc ((v201 q cc gc ((v201 q cc gc h i (((Ar h 170) (78 + m5)).toNatClampNeg)).2) m5 (((Ar h 170) (78 + m5)).toNatClampNeg)).2) m5 (((Ar h 170) (78 + i)).toNatClampNeg)).1) - ((v201 q cc gc ((v201 q cc gc ((v201 q cc gc ((v201 q cc gc h i (((Ar h 170) (78 + m5)).toNatClampNeg)).2) m5 (((Ar h 170) (78 + m5)).toNatClampNeg)).2) m5 (((Ar h 170) (78 + i)).toNatClampNeg)).2) i (((Ar h 170) (78 + i)).toNatClampNeg)).1))) x4) x3 (nI i))))), some (.int (cond (pm_cmp .le (((v201 q cc gc h i (((Ar h 170) (78 + m5)).toNatClampNeg)).1) - ((v201 q cc gc ((v201 q cc gc h i (((Ar h 170) (78 + m5)).toNatClampNeg)).2) m5 (((Ar h 170) (78 + m5)).toNatClampNeg)).1)) 0) x4 (cond (pm_cmp .le (((v201 q cc gc ((v201 q cc gc ((v201 q cc gc h i (((Ar h 170) (78 + m5)).toNatClampNeg)).2) m5 (((Ar h 170) (78 + m5)).toNatClampNeg)).2) m5 (((Ar h 170) (78 + i)).toNatClampNeg)).1) - ((v201 q cc gc ((v201 q cc gc ((v201 q cc gc ((v201 q cc gc h i (((Ar h 170) (78 + m5)).toNatClampNeg)).2) m5 (((Ar h 170) (78 + m5)).toNatClampNeg)).2) m5 (((Ar h 170) (78 + i)).toNatClampNeg)).2) i (((Ar h 170) (78 + i)).toNatClampNeg)).1)) 0) x4 (cond (pm_cmp .le ((((v201 q cc gc h i (((Ar h 170) (78 + m5)).toNatClampNeg)).1) - ((v201 q cc gc ((v201 q cc gc h i (((Ar h 170) (78 + m5)).toNatClampNeg)).2) m5 (((Ar h 170) (78 + m5)).toNatClampNeg)).1)) + (((v201 q cc gc ((v201 q cc gc ((v201 q cc gc h i (((Ar h 170) (78 + m5)).toNatClampNeg)).2) m5 (((Ar h 170) (78 + m5)).toNatClampNeg)).2) m5 (((Ar h 170) (78 + i)).toNatClampNeg)).1) - ((v201 q cc gc ((v201 q cc gc ((v201 q cc gc ((v201 q cc gc h i (((Ar h 170) (78 + m5)).toNatClampNeg)).2) m5 (((Ar h 170) (78 + m5)).toNatClampNeg)).2) m5 (((Ar h 170) (78 + i)).toNatClampNeg)).2) i (((Ar h 170) (78 + i)).toNatClampNeg)).1))) x4) x4 ((((v201 q cc gc h i (((Ar h 170) (78 + m5)).toNatClampNeg)).1) - ((v201 q cc gc ((v201 q cc gc h i (((Ar h 170) (78 + m5)).toNatClampNeg)).2) m5 (((Ar h 170) (78 + m5)).toNatClampNeg)).1)) + (((v201 q cc gc ((v201 q cc gc ((v201 q cc gc h i (((Ar h 170) (78 + m5)).toNatClampNeg)).2) m5 (((Ar h 170) (78 + m5)).toNatClampNeg)).2) m5 (((Ar h 170) (78 + i)).toNatClampNeg)).1) - ((v201 q cc gc ((v201 q cc gc ((v201 q cc gc ((v201 q cc gc h i (((Ar h 170) (78 + m5)).toNatClampNeg)).2) m5 (((Ar h 170) (78 + m5)).toNatClampNeg)).2) m5 (((Ar h 170) (78 + i)).toNatClampNeg)).2) i (((Ar h 170) (78 + i)).toNatClampNeg)).1))))))), some (.int (nI m5)), some (.int (nI i)), some (.int (nI (((Ar h 170) (78 + m5)).toNatClampNeg))), some (.int (nI (((Ar h 170) (78 + i)).toNatClampNeg))), some (.int (((v201 q cc gc h i (((Ar h 170) (78 + m5)).toNatClampNeg)).1) - ((v201 q cc gc ((v201 q cc gc h i (((Ar h 170) (78 + m5)).toNatClampNeg)).2) m5 (((Ar h 170) (78 + m5)).toNatClampNeg)).1))), some (.int (((v201 q cc gc ((v201 q cc gc ((v201 q cc gc h i (((Ar h 170) (78 + m5)).toNatClampNeg)).2) m5 (((Ar h 170) (78 + m5)).toNatClampNeg)).2) m5 (((Ar h 170) (78 + i)).toNatClampNeg)).1) - ((v201 q cc gc ((v201 q cc gc ((v201 q cc gc ((v201 q cc gc h i (((Ar h 170) (78 + m5)).toNatClampNeg)).2) m5 (((Ar h 170) (78 + m5)).toNatClampNeg)).2) m5 (((Ar h 170) (78 + i)).toNatClampNeg)).2) i (((Ar h 170) (78 + i)).toNatClampNeg)).1)))], [], (v201 q cc gc ((v201 q cc gc ((v201 q cc gc ((v201 q cc gc h i (((Ar h 170) (78 + m5)).toNatClampNeg)).2) m5 (((Ar h 170) (78 + m5)).toNatClampNeg)).2) m5 (((Ar h 170) (78 + i)).toNatClampNeg)).2) i (((Ar h 170) (78 + i)).toNatClampNeg)).2, 198, sl)) = some R := en_J (fun z17 => by
      have hh := en_t z17 hh
      have hh : pm_run PT n fr lo 236 (162, [some (.ref 162), some (.int x1), some (.int x2), some (.int x3), some (.int x4), some (.int (nI m5)), some (.int (nI i)), some (.int (nI (((Ar h 170) (78 + m5)).toNatClampNeg))), some (.int (nI (((Ar h 170) (78 + i)).toNatClampNeg))), some (.int (((v201 q cc gc h i (((Ar h 170) (78 + m5)).toNatClampNeg)).1) - ((v201 q cc gc ((v201 q cc gc h i (((Ar h 170) (78 + m5)).toNatClampNeg)).2) m5 (((Ar h 170) (78 + m5)).toNatClampNeg)).1))), some (.int (((v201 q cc gc ((v201 q cc gc ((v201 q cc gc h i (((Ar h 170) (78 + m5)).toNatClampNeg)).2) m5 (((Ar h 170) (78 + m5)).toNatClampNeg)).2) m5 (((Ar h 170) (78 + i)).toNatClampNeg)).1) - ((v201 q cc gc ((v201 q cc gc ((v201 q cc gc ((v201 q cc gc h i (((Ar h 170) (78 + m5)).toNatClampNeg)).2) m5 (((Ar h 170) (78 + m5)).toNatClampNeg)).2) m5 (((Ar h 170) (78 + i)).toNatClampNeg)).2) i (((Ar h 170) (78 + i)).toNatClampNeg)).1)))], [], (v201 q cc gc ((v201 q cc gc ((v201 q cc gc ((v201 q cc gc h i (((Ar h 170) (78 + m5)).toNatClampNeg)).2) m5 (((Ar h 170) (78 + m5)).toNatClampNeg)).2) m5 (((Ar h 170) (78 + i)).toNatClampNeg)).2) i (((Ar h 170) (78 + i)).toNatClampNeg)).2, 198, sl) = some R := hh
      have y_z17 := of_decide_eq_true z17
      exact ⟨n, hh⟩) (fun z17 => by
      have hh := en_f z17 hh
      have hh : pm_run PT n fr lo 236 (126, [some (.ref 162), some (.int x1), some (.int x2), some (.int x3), some (.int x4), some (.int (nI m5)), some (.int (nI i)), some (.int (nI (((Ar h 170) (78 + m5)).toNatClampNeg))), some (.int (nI (((Ar h 170) (78 + i)).toNatClampNeg))), some (.int (((v201 q cc gc h i (((Ar h 170) (78 + m5)).toNatClampNeg)).1) - ((v201 q cc gc ((v201 q cc gc h i (((Ar h 170) (78 + m5)).toNatClampNeg)).2) m5 (((Ar h 170) (78 + m5)).toNatClampNeg)).1))), some (.int (((v201 q cc gc ((v201 q cc gc ((v201 q cc gc h i (((Ar h 170) (78 + m5)).toNatClampNeg)).2) m5 (((Ar h 170) (78 + m5)).toNatClampNeg)).2) m5 (((Ar h 170) (78 + i)).toNatClampNeg)).1) - ((v201 q cc gc ((v201 q cc gc ((v201 q cc gc ((v201 q cc gc h i (((Ar h 170) (78 + m5)).toNatClampNeg)).2) m5 (((Ar h 170) (78 + m5)).toNatClampNeg)).2) m5 (((Ar h 170) (78 + i)).toNatClampNeg)).2) i (((Ar h 170) (78 + i)).toNatClampNeg)).1)))], [], (v201 q cc gc ((v201 q cc gc ((v201 q cc gc ((v201 q cc gc h i (((Ar h 170) (78 + m5)).toNatClampNeg)).2) m5 (((Ar h 170) (78 + m5)).toNatClampNeg)).2) m5 (((Ar h 170) (78 + i)).toNatClampNeg)).2) i (((Ar h 170) (78 + i)).toNatClampNeg)).2, 198, sl) = some R := hh
      have y_z17 := of_decide_eq_false z17
      obtain ⟨n, hh⟩ := rn_i rfl rfl rfl rfl hh
      have hh : pm_run PT n fr lo 236 (128, [some (.ref 162), some (.int x1), some (.int x2), some (.int x3), some (.int x4), some (.int (nI m5)), some (.int (nI i)), some (.int (nI (((Ar h 170) (78 + m5)).toNatClampNeg))), some (.int (nI (((Ar h 170) (78 + i)).toNatClampNeg))), some (.int (((v201 q cc gc h i (((Ar h 170) (78 + m5)).toNatClampNeg)).1) - ((v201 q cc gc ((v201 q cc gc h i (((Ar h 170) (78 + m5)).toNatClampNeg)).2) m5 (((Ar h 170) (78 + m5)).toNatClampNeg)).1))), some (.int (((v201 q cc gc ((v201 q cc gc ((v201 q cc gc h i (((Ar h 170) (78 + m5)).toNatClampNeg)).2) m5 (((Ar h 170) (78 + m5)).toNatClampNeg)).2) m5 (((Ar h 170) (78 + i)).toNatClampNeg)).1) - ((v201 q cc gc ((v201 q cc gc ((v201 q cc gc ((v201 q cc gc h i (((Ar h 170) (78 + m5)).toNatClampNeg)).2) m5 (((Ar h 170) (78 + m5)).toNatClampNeg)).2) m5 (((Ar h 170) (78 + i)).toNatClampNeg)).2) i (((Ar h 170) (78 + i)).toNatClampNeg)).1)))], [.int (((v201 q cc gc h i (((Ar h 170) (78 + m5)).toNatClampNeg)).1) - ((v201 q cc gc ((v201 q cc gc h i (((Ar h 170) (78 + m5)).toNatClampNeg)).2) m5 (((Ar h 170) (78 + m5)).toNatClampNeg)).1))], (v201 q cc gc ((v201 q cc gc ((v201 q cc gc ((v201 q cc gc h i (((Ar h 170) (78 + m5)).toNatClampNeg)).2) m5 (((Ar h 170) (78 + m5)).toNatClampNeg)).2) m5 (((Ar h 170) (78 + i)).toNatClampNeg)).2) i (((Ar h 170) (78 + i)).toNatClampNeg)).2, 198, sl) = some R := hh
      obtain ⟨n, hh⟩ := en_zn (cc := .le) (off := 34) (t := 162) (b := pm_cmp .le (((v201 q cc gc h i (((Ar h 170) (78 + m5)).toNatClampNeg)).1) - ((v201 q cc gc ((v201 q cc gc h i (((Ar h 170) (78 + m5)).toNatClampNeg)).2) m5 (((Ar h 170) (78 + m5)).toNatClampNeg)).1)) 0) rfl rfl rfl hh
      have hj23 : ∃ mJ, pm_run PT mJ fr lo 236 (cond (pm_cmp .le (((v201 q cc gc h i (((Ar h 170) (78 + m5)).toNatClampNeg)).1) - ((v201 q cc gc ((v201 q cc gc h i (((Ar h 170) (78 + m5)).toNatClampNeg)).2) m5 (((Ar h 170) (78 + m5)).toNatClampNeg)).1)) 0) (162, [some (.ref 162), some (.int x1), some (.int x2), some (.int x3), some (.int x4), some (.int (nI m5)), some (.int (nI i)), some (.int (nI (((Ar h 170) (78 + m5)).toNatClampNeg))), some (.int (nI (((Ar h 170) (78 + i)).toNatClampNeg))), some (.int (((v201 q cc gc h i (((Ar h 170) (78 + m5)).toNatClampNeg)).1) - ((v201 q cc gc ((v201 q cc gc h i (((Ar h 170) (78 + m5)).toNatClampNeg)).2) m5 (((Ar h 170) (78 + m5)).toNatClampNeg)).1))), some (.int (((v201 q cc gc ((v201 q cc gc ((v201 q cc gc h i (((Ar h 170) (78 + m5)).toNatClampNeg)).2) m5 (((Ar h 170) (78 + m5)).toNatClampNeg)).2) m5 (((Ar h 170) (78 + i)).toNatClampNeg)).1) - ((v201 q cc gc ((v201 q cc gc ((v201 q cc gc ((v201 q cc gc h i (((Ar h 170) (78 + m5)).toNatClampNeg)).2) m5 (((Ar h 170) (78 + m5)).toNatClampNeg)).2) m5 (((Ar h 170) (78 + i)).toNatClampNeg)).2) i (((Ar h 170) (78 + i)).toNatClampNeg)).1)))], [], (v201 q cc gc ((v201 q cc gc ((v201 q cc gc ((v201 q cc gc h i (((Ar h 170) (78 + m5)).toNatClampNeg)).2) m5 (((Ar h 170) (78 + m5)).toNatClampNeg)).2) m5 (((Ar h 170) (78 + i)).toNatClampNeg)).2) i (((Ar h 170) (78 + i)).toNatClampNeg)).2, 198, sl) (162, [some (.ref 162), some (.int (cond (pm_cmp .le (((v201 q cc gc ((v201 q cc gc ((v201 q cc gc h i (((Ar h 170) (78 + m5)).toNatClampNeg)).2) m5 (((Ar h 170) (78 + m5)).toNatClampNeg)).2) m5 (((Ar h 170) (78 + i)).toNatClampNeg)).1) - ((v201 q cc gc ((v201 q cc gc ((v201 q cc gc ((v201 q cc gc h i (((Ar h 170) (78 + m5)).toNatClampNeg)).2) m5 (((Ar h 170) (78 + m5)).toNatClampNeg)).2) m5 (((Ar h 170) (78 + i)).toNatClampNeg)).2) i (((Ar h 170) (78 + i)).toNatClampNeg)).1)) 0) x1 (x1 + Int32.ofInt 1))), some (.int (cond (pm_cmp .le (((v201 q cc gc ((v201 q cc gc ((v201 q cc gc h i (((Ar h 170) (78 + m5)).toNatClampNeg)).2) m5 (((Ar h 170) (78 + m5)).toNatClampNeg)).2) m5 (((Ar h 170) (78 + i)).toNatClampNeg)).1) - ((v201 q cc gc ((v201 q cc gc ((v201 q cc gc ((v201 q cc gc h i (((Ar h 170) (78 + m5)).toNatClampNeg)).2) m5 (((Ar h 170) (78 + m5)).toNatClampNeg)).2) m5 (((Ar h 170) (78 + i)).toNatClampNeg)).2) i (((Ar h 170) (78 + i)).toNatClampNeg)).1)) 0) x2 (cond (pm_cmp .le ((((v201 q cc gc h i (((Ar h 170) (78 + m5)).toNatClampNeg)).1) - ((v201 q cc gc ((v201 q cc gc h i (((Ar h 170) (78 + m5)).toNatClampNeg)).2) m5 (((Ar h 170) (78 + m5)).toNatClampNeg)).1)) + (((v201 q cc gc ((v201 q cc gc ((v201 q cc gc h i (((Ar h 170) (78 + m5)).toNatClampNeg)).2) m5 (((Ar h 170) (78 + m5)).toNatClampNeg)).2) m5 (((Ar h 170) (78 + i)).toNatClampNeg)).1) - ((v201 q cc gc ((v201 q cc gc ((v201 q cc gc ((v201 q cc gc h i (((Ar h 170) (78 + m5)).toNatClampNeg)).2) m5 (((Ar h 170) (78 + m5)).toNatClampNeg)).2) m5 (((Ar h 170) (78 + i)).toNatClampNeg)).2) i (((Ar h 170) (78 + i)).toNatClampNeg)).1))) x4) x2 (nI m5)))), some (.int (cond (pm_cmp .le (((v201 q cc gc ((v201 q cc gc ((v201 q cc gc h i (((Ar h 170) (78 + m5)).toNatClampNeg)).2) m5 (((Ar h 170) (78 + m5)).toNatClampNeg)).2) m5 (((Ar h 170) (78 + i)).toNatClampNeg)).1) - ((v201 q cc gc ((v201 q cc gc ((v201 q cc gc ((v201 q cc gc h i (((Ar h 170) (78 + m5)).toNatClampNeg)).2) m5 (((Ar h 170) (78 + m5)).toNatClampNeg)).2) m5 (((Ar h 170) (78 + i)).toNatClampNeg)).2) i (((Ar h 170) (78 + i)).toNatClampNeg)).1)) 0) x3 (cond (pm_cmp .le ((((v201 q cc gc h i (((Ar h 170) (78 + m5)).toNatClampNeg)).1) - ((v201 q cc gc ((v201 q cc gc h i (((Ar h 170) (78 + m5)).toNatClampNeg)).2) m5 (((Ar h 170) (78 + m5)).toNatClampNeg)).1)) + (((v201 q cc gc ((v201 q cc gc ((v201 q cc gc h i (((Ar h 170) (78 + m5)).toNatClampNeg)).2) m5 (((Ar h 170) (78 + m5)).toNatClampNeg)).2) m5 (((Ar h 170) (78 + i)).toNatClampNeg)).1) - ((v201 q cc gc ((v201 q cc gc ((v201 q cc gc ((v201 q cc gc h i (((Ar h 170) (78 + m5)).toNatClampNeg)).2) m5 (((Ar h 170) (78 + m5)).toNatClampNeg)).2) m5 (((Ar h 170) (78 + i)).toNatClampNeg)).2) i (((Ar h 170) (78 + i)).toNatClampNeg)).1))) x4) x3 (nI i)))), some (.int (cond (pm_cmp .le (((v201 q cc gc ((v201 q cc gc ((v201 q cc gc h i (((Ar h 170) (78 + m5)).toNatClampNeg)).2) m5 (((Ar h 170) (78 + m5)).toNatClampNeg)).2) m5 (((Ar h 170) (78 + i)).toNatClampNeg)).1) - ((v201 q cc gc ((v201 q cc gc ((v201 q cc gc ((v201 q cc gc h i (((Ar h 170) (78 + m5)).toNatClampNeg)).2) m5 (((Ar h 170) (78 + m5)).toNatClampNeg)).2) m5 (((Ar h 170) (78 + i)).toNatClampNeg)).2) i (((Ar h 170) (78 + i)).toNatClampNeg)).1)) 0) x4 (cond (pm_cmp .le ((((v201 q cc gc h i (((Ar h 170) (78 + m5)).toNatClampNeg)).1) - ((v201 q cc gc ((v201 q cc gc h i (((Ar h 170) (78 + m5)).toNatClampNeg)).2) m5 (((Ar h 170) (78 + m5)).toNatClampNeg)).1)) + (((v201 q cc gc ((v201 q cc gc ((v201 q cc gc h i (((Ar h 170) (78 + m5)).toNatClampNeg)).2) m5 (((Ar h 170) (78 + m5)).toNatClampNeg)).2) m5 (((Ar h 170) (78 + i)).toNatClampNeg)).1) - ((v201 q cc gc ((v201 q cc gc ((v201 q cc gc ((v201 q cc gc h i (((Ar h 170) (78 + m5)).toNatClampNeg)).2) m5 (((Ar h 170) (78 + m5)).toNatClampNeg)).2) m5 (((Ar h 170) (78 + i)).toNatClampNeg)).2) i (((Ar h 170) (78 + i)).toNatClampNeg)).1))) x4) x4 ((((v201 q cc gc h i (((Ar h 170) (78 + m5)).toNatClampNeg)).1) - ((v201 q cc gc ((v201 q cc gc h i (((Ar h 170) (78 + m5)).toNatClampNeg)).2) m5 (((Ar h 170) (78 + m5)).toNatClampNeg)).1)) + (((v201 q cc gc ((v201 q cc gc ((v201 q cc gc h i (((Ar h 170) (78 + m5)).toNatClampNeg)).2) m5 (((Ar h 170) (78 + m5)).toNatClampNeg)).2) m5 (((Ar h 170) (78 + i)).toNatClampNeg)).1) - ((v201 q cc gc ((v201 q cc gc ((v201 q cc gc ((v201 q cc gc h i (((Ar h 170) (78 + m5)).toNatClampNeg)).2) m5 (((Ar h 170) (78 + m5)).toNatClampNeg)).2) m5 (((Ar h 170) (78 + i)).toNatClampNeg)).2) i (((Ar h 170) (78 + i)).toNatClampNeg)).1)))))), some (.int (nI m5)), some (.int (nI i)), some (.int (nI (((Ar h 170) (78 + m5)).toNatClampNeg))), some (.int (nI (((Ar h 170) (78 + i)).toNatClampNeg))), some (.int (((v201 q cc gc h i (((Ar h 170) (78 + m5)).toNatClampNeg)).1) - ((v201 q cc gc ((v201 q cc gc h i (((Ar h 170) (78 + m5)).toNatClampNeg)).2) m5 (((Ar h 170) (78 + m5)).toNatClampNeg)).1))), some (.int (((v201 q cc gc ((v201 q cc gc ((v201 q cc gc h i (((Ar h 170) (78 + m5)).toNatClampNeg)).2) m5 (((Ar h 170) (78 + m5)).toNatClampNeg)).2) m5 (((Ar h 170) (78 + i)).toNatClampNeg)).1) - ((v201 q cc gc ((v201 q cc gc ((v201 q cc gc ((v201 q cc gc h i (((Ar h 170) (78 + m5)).toNatClampNeg)).2) m5 (((Ar h 170) (78 + m5)).toNatClampNeg)).2) m5 (((Ar h 170) (78 + i)).toNatClampNeg)).2) i (((Ar h 170) (78 + i)).toNatClampNeg)).1)))], [], (v201 q cc gc ((v201 q cc gc ((v201 q cc gc ((v201 q cc gc h i (((Ar h 170) (78 + m5)).toNatClampNeg)).2) m5 (((Ar h 170) (78 + m5)).toNatClampNeg)).2) m5 (((Ar h 170) (78 + i)).toNatClampNeg)).2) i (((Ar h 170) (78 + i)).toNatClampNeg)).2, 198, sl)) = some R := en_J (fun z18 => by
          have hh := en_t z18 hh
          have hh : pm_run PT n fr lo 236 (162, [some (.ref 162), some (.int x1), some (.int x2), some (.int x3), some (.int x4), some (.int (nI m5)), some (.int (nI i)), some (.int (nI (((Ar h 170) (78 + m5)).toNatClampNeg))), some (.int (nI (((Ar h 170) (78 + i)).toNatClampNeg))), some (.int (((v201 q cc gc h i (((Ar h 170) (78 + m5)).toNatClampNeg)).1) - ((v201 q cc gc ((v201 q cc gc h i (((Ar h 170) (78 + m5)).toNatClampNeg)).2) m5 (((Ar h 170) (78 + m5)).toNatClampNeg)).1))), some (.int (((v201 q cc gc ((v201 q cc gc ((v201 q cc gc h i (((Ar h 170) (78 + m5)).toNatClampNeg)).2) m5 (((Ar h 170) (78 + m5)).toNatClampNeg)).2) m5 (((Ar h 170) (78 + i)).toNatClampNeg)).1) - ((v201 q cc gc ((v201 q cc gc ((v201 q cc gc ((v201 q cc gc h i (((Ar h 170) (78 + m5)).toNatClampNeg)).2) m5 (((Ar h 170) (78 + m5)).toNatClampNeg)).2) m5 (((Ar h 170) (78 + i)).toNatClampNeg)).2) i (((Ar h 170) (78 + i)).toNatClampNeg)).1)))], [], (v201 q cc gc ((v201 q cc gc ((v201 q cc gc ((v201 q cc gc h i (((Ar h 170) (78 + m5)).toNatClampNeg)).2) m5 (((Ar h 170) (78 + m5)).toNatClampNeg)).2) m5 (((Ar h 170) (78 + i)).toNatClampNeg)).2) i (((Ar h 170) (78 + i)).toNatClampNeg)).2, 198, sl) = some R := hh
          exact ⟨n, hh⟩) (fun z18 => by
          have hh := en_f z18 hh
          have hh : pm_run PT n fr lo 236 (131, [some (.ref 162), some (.int x1), some (.int x2), some (.int x3), some (.int x4), some (.int (nI m5)), some (.int (nI i)), some (.int (nI (((Ar h 170) (78 + m5)).toNatClampNeg))), some (.int (nI (((Ar h 170) (78 + i)).toNatClampNeg))), some (.int (((v201 q cc gc h i (((Ar h 170) (78 + m5)).toNatClampNeg)).1) - ((v201 q cc gc ((v201 q cc gc h i (((Ar h 170) (78 + m5)).toNatClampNeg)).2) m5 (((Ar h 170) (78 + m5)).toNatClampNeg)).1))), some (.int (((v201 q cc gc ((v201 q cc gc ((v201 q cc gc h i (((Ar h 170) (78 + m5)).toNatClampNeg)).2) m5 (((Ar h 170) (78 + m5)).toNatClampNeg)).2) m5 (((Ar h 170) (78 + i)).toNatClampNeg)).1) - ((v201 q cc gc ((v201 q cc gc ((v201 q cc gc ((v201 q cc gc h i (((Ar h 170) (78 + m5)).toNatClampNeg)).2) m5 (((Ar h 170) (78 + m5)).toNatClampNeg)).2) m5 (((Ar h 170) (78 + i)).toNatClampNeg)).2) i (((Ar h 170) (78 + i)).toNatClampNeg)).1)))], [], (v201 q cc gc ((v201 q cc gc ((v201 q cc gc ((v201 q cc gc h i (((Ar h 170) (78 + m5)).toNatClampNeg)).2) m5 (((Ar h 170) (78 + m5)).toNatClampNeg)).2) m5 (((Ar h 170) (78 + i)).toNatClampNeg)).2) i (((Ar h 170) (78 + i)).toNatClampNeg)).2, 198, sl) = some R := hh
          obtain ⟨n, hh⟩ := rn_i rfl rfl rfl rfl hh
          have hh : pm_run PT n fr lo 236 (133, [some (.ref 162), some (.int x1), some (.int x2), some (.int x3), some (.int x4), some (.int (nI m5)), some (.int (nI i)), some (.int (nI (((Ar h 170) (78 + m5)).toNatClampNeg))), some (.int (nI (((Ar h 170) (78 + i)).toNatClampNeg))), some (.int (((v201 q cc gc h i (((Ar h 170) (78 + m5)).toNatClampNeg)).1) - ((v201 q cc gc ((v201 q cc gc h i (((Ar h 170) (78 + m5)).toNatClampNeg)).2) m5 (((Ar h 170) (78 + m5)).toNatClampNeg)).1))), some (.int (((v201 q cc gc ((v201 q cc gc ((v201 q cc gc h i (((Ar h 170) (78 + m5)).toNatClampNeg)).2) m5 (((Ar h 170) (78 + m5)).toNatClampNeg)).2) m5 (((Ar h 170) (78 + i)).toNatClampNeg)).1) - ((v201 q cc gc ((v201 q cc gc ((v201 q cc gc ((v201 q cc gc h i (((Ar h 170) (78 + m5)).toNatClampNeg)).2) m5 (((Ar h 170) (78 + m5)).toNatClampNeg)).2) m5 (((Ar h 170) (78 + i)).toNatClampNeg)).2) i (((Ar h 170) (78 + i)).toNatClampNeg)).1)))], [.int (((v201 q cc gc ((v201 q cc gc ((v201 q cc gc h i (((Ar h 170) (78 + m5)).toNatClampNeg)).2) m5 (((Ar h 170) (78 + m5)).toNatClampNeg)).2) m5 (((Ar h 170) (78 + i)).toNatClampNeg)).1) - ((v201 q cc gc ((v201 q cc gc ((v201 q cc gc ((v201 q cc gc h i (((Ar h 170) (78 + m5)).toNatClampNeg)).2) m5 (((Ar h 170) (78 + m5)).toNatClampNeg)).2) m5 (((Ar h 170) (78 + i)).toNatClampNeg)).2) i (((Ar h 170) (78 + i)).toNatClampNeg)).1))], (v201 q cc gc ((v201 q cc gc ((v201 q cc gc ((v201 q cc gc h i (((Ar h 170) (78 + m5)).toNatClampNeg)).2) m5 (((Ar h 170) (78 + m5)).toNatClampNeg)).2) m5 (((Ar h 170) (78 + i)).toNatClampNeg)).2) i (((Ar h 170) (78 + i)).toNatClampNeg)).2, 198, sl) = some R := hh
          obtain ⟨n, hh⟩ := en_zn (cc := .le) (off := 29) (t := 162) (b := pm_cmp .le (((v201 q cc gc ((v201 q cc gc ((v201 q cc gc h i (((Ar h 170) (78 + m5)).toNatClampNeg)).2) m5 (((Ar h 170) (78 + m5)).toNatClampNeg)).2) m5 (((Ar h 170) (78 + i)).toNatClampNeg)).1) - ((v201 q cc gc ((v201 q cc gc ((v201 q cc gc ((v201 q cc gc h i (((Ar h 170) (78 + m5)).toNatClampNeg)).2) m5 (((Ar h 170) (78 + m5)).toNatClampNeg)).2) m5 (((Ar h 170) (78 + i)).toNatClampNeg)).2) i (((Ar h 170) (78 + i)).toNatClampNeg)).1)) 0) rfl rfl rfl hh
          have hj22 : ∃ mJ, pm_run PT mJ fr lo 236 (cond (pm_cmp .le (((v201 q cc gc ((v201 q cc gc ((v201 q cc gc h i (((Ar h 170) (78 + m5)).toNatClampNeg)).2) m5 (((Ar h 170) (78 + m5)).toNatClampNeg)).2) m5 (((Ar h 170) (78 + i)).toNatClampNeg)).1) - ((v201 q cc gc ((v201 q cc gc ((v201 q cc gc ((v201 q cc gc h i (((Ar h 170) (78 + m5)).toNatClampNeg)).2) m5 (((Ar h 170) (78 + m5)).toNatClampNeg)).2) m5 (((Ar h 170) (78 + i)).toNatClampNeg)).2) i (((Ar h 170) (78 + i)).toNatClampNeg)).1)) 0) (162, [some (.ref 162), some (.int x1), some (.int x2), some (.int x3), some (.int x4), some (.int (nI m5)), some (.int (nI i)), some (.int (nI (((Ar h 170) (78 + m5)).toNatClampNeg))), some (.int (nI (((Ar h 170) (78 + i)).toNatClampNeg))), some (.int (((v201 q cc gc h i (((Ar h 170) (78 + m5)).toNatClampNeg)).1) - ((v201 q cc gc ((v201 q cc gc h i (((Ar h 170) (78 + m5)).toNatClampNeg)).2) m5 (((Ar h 170) (78 + m5)).toNatClampNeg)).1))), some (.int (((v201 q cc gc ((v201 q cc gc ((v201 q cc gc h i (((Ar h 170) (78 + m5)).toNatClampNeg)).2) m5 (((Ar h 170) (78 + m5)).toNatClampNeg)).2) m5 (((Ar h 170) (78 + i)).toNatClampNeg)).1) - ((v201 q cc gc ((v201 q cc gc ((v201 q cc gc ((v201 q cc gc h i (((Ar h 170) (78 + m5)).toNatClampNeg)).2) m5 (((Ar h 170) (78 + m5)).toNatClampNeg)).2) m5 (((Ar h 170) (78 + i)).toNatClampNeg)).2) i (((Ar h 170) (78 + i)).toNatClampNeg)).1)))], [], (v201 q cc gc ((v201 q cc gc ((v201 q cc gc ((v201 q cc gc h i (((Ar h 170) (78 + m5)).toNatClampNeg)).2) m5 (((Ar h 170) (78 + m5)).toNatClampNeg)).2) m5 (((Ar h 170) (78 + i)).toNatClampNeg)).2) i (((Ar h 170) (78 + i)).toNatClampNeg)).2, 198, sl) (162, [some (.ref 162), some (.int (x1 + Int32.ofInt 1)), some (.int (cond (pm_cmp .le ((((v201 q cc gc h i (((Ar h 170) (78 + m5)).toNatClampNeg)).1) - ((v201 q cc gc ((v201 q cc gc h i (((Ar h 170) (78 + m5)).toNatClampNeg)).2) m5 (((Ar h 170) (78 + m5)).toNatClampNeg)).1)) + (((v201 q cc gc ((v201 q cc gc ((v201 q cc gc h i (((Ar h 170) (78 + m5)).toNatClampNeg)).2) m5 (((Ar h 170) (78 + m5)).toNatClampNeg)).2) m5 (((Ar h 170) (78 + i)).toNatClampNeg)).1) - ((v201 q cc gc ((v201 q cc gc ((v201 q cc gc ((v201 q cc gc h i (((Ar h 170) (78 + m5)).toNatClampNeg)).2) m5 (((Ar h 170) (78 + m5)).toNatClampNeg)).2) m5 (((Ar h 170) (78 + i)).toNatClampNeg)).2) i (((Ar h 170) (78 + i)).toNatClampNeg)).1))) x4) x2 (nI m5))), some (.int (cond (pm_cmp .le ((((v201 q cc gc h i (((Ar h 170) (78 + m5)).toNatClampNeg)).1) - ((v201 q cc gc ((v201 q cc gc h i (((Ar h 170) (78 + m5)).toNatClampNeg)).2) m5 (((Ar h 170) (78 + m5)).toNatClampNeg)).1)) + (((v201 q cc gc ((v201 q cc gc ((v201 q cc gc h i (((Ar h 170) (78 + m5)).toNatClampNeg)).2) m5 (((Ar h 170) (78 + m5)).toNatClampNeg)).2) m5 (((Ar h 170) (78 + i)).toNatClampNeg)).1) - ((v201 q cc gc ((v201 q cc gc ((v201 q cc gc ((v201 q cc gc h i (((Ar h 170) (78 + m5)).toNatClampNeg)).2) m5 (((Ar h 170) (78 + m5)).toNatClampNeg)).2) m5 (((Ar h 170) (78 + i)).toNatClampNeg)).2) i (((Ar h 170) (78 + i)).toNatClampNeg)).1))) x4) x3 (nI i))), some (.int (cond (pm_cmp .le ((((v201 q cc gc h i (((Ar h 170) (78 + m5)).toNatClampNeg)).1) - ((v201 q cc gc ((v201 q cc gc h i (((Ar h 170) (78 + m5)).toNatClampNeg)).2) m5 (((Ar h 170) (78 + m5)).toNatClampNeg)).1)) + (((v201 q cc gc ((v201 q cc gc ((v201 q cc gc h i (((Ar h 170) (78 + m5)).toNatClampNeg)).2) m5 (((Ar h 170) (78 + m5)).toNatClampNeg)).2) m5 (((Ar h 170) (78 + i)).toNatClampNeg)).1) - ((v201 q cc gc ((v201 q cc gc ((v201 q cc gc ((v201 q cc gc h i (((Ar h 170) (78 + m5)).toNatClampNeg)).2) m5 (((Ar h 170) (78 + m5)).toNatClampNeg)).2) m5 (((Ar h 170) (78 + i)).toNatClampNeg)).2) i (((Ar h 170) (78 + i)).toNatClampNeg)).1))) x4) x4 ((((v201 q cc gc h i (((Ar h 170) (78 + m5)).toNatClampNeg)).1) - ((v201 q cc gc ((v201 q cc gc h i (((Ar h 170) (78 + m5)).toNatClampNeg)).2) m5 (((Ar h 170) (78 + m5)).toNatClampNeg)).1)) + (((v201 q cc gc ((v201 q cc gc ((v201 q cc gc h i (((Ar h 170) (78 + m5)).toNatClampNeg)).2) m5 (((Ar h 170) (78 + m5)).toNatClampNeg)).2) m5 (((Ar h 170) (78 + i)).toNatClampNeg)).1) - ((v201 q cc gc ((v201 q cc gc ((v201 q cc gc ((v201 q cc gc h i (((Ar h 170) (78 + m5)).toNatClampNeg)).2) m5 (((Ar h 170) (78 + m5)).toNatClampNeg)).2) m5 (((Ar h 170) (78 + i)).toNatClampNeg)).2) i (((Ar h 170) (78 + i)).toNatClampNeg)).1))))), some (.int (nI m5)), some (.int (nI i)), some (.int (nI (((Ar h 170) (78 + m5)).toNatClampNeg))), some (.int (nI (((Ar h 170) (78 + i)).toNatClampNeg))), some (.int (((v201 q cc gc h i (((Ar h 170) (78 + m5)).toNatClampNeg)).1) - ((v201 q cc gc ((v201 q cc gc h i (((Ar h 170) (78 + m5)).toNatClampNeg)).2) m5 (((Ar h 170) (78 + m5)).toNatClampNeg)).1))), some (.int (((v201 q cc gc ((v201 q cc gc ((v201 q cc gc h i (((Ar h 170) (78 + m5)).toNatClampNeg)).2) m5 (((Ar h 170) (78 + m5)).toNatClampNeg)).2) m5 (((Ar h 170) (78 + i)).toNatClampNeg)).1) - ((v201 q cc gc ((v201 q cc gc ((v201 q cc gc ((v201 q cc gc h i (((Ar h 170) (78 + m5)).toNatClampNeg)).2) m5 (((Ar h 170) (78 + m5)).toNatClampNeg)).2) m5 (((Ar h 170) (78 + i)).toNatClampNeg)).2) i (((Ar h 170) (78 + i)).toNatClampNeg)).1)))], [], (v201 q cc gc ((v201 q cc gc ((v201 q cc gc ((v201 q cc gc h i (((Ar h 170) (78 + m5)).toNatClampNeg)).2) m5 (((Ar h 170) (78 + m5)).toNatClampNeg)).2) m5 (((Ar h 170) (78 + i)).toNatClampNeg)).2) i (((Ar h 170) (78 + i)).toNatClampNeg)).2, 198, sl)) = some R := en_J (fun z19 => by
              have hh := en_t z19 hh
              have hh : pm_run PT n fr lo 236 (162, [some (.ref 162), some (.int x1), some (.int x2), some (.int x3), some (.int x4), some (.int (nI m5)), some (.int (nI i)), some (.int (nI (((Ar h 170) (78 + m5)).toNatClampNeg))), some (.int (nI (((Ar h 170) (78 + i)).toNatClampNeg))), some (.int (((v201 q cc gc h i (((Ar h 170) (78 + m5)).toNatClampNeg)).1) - ((v201 q cc gc ((v201 q cc gc h i (((Ar h 170) (78 + m5)).toNatClampNeg)).2) m5 (((Ar h 170) (78 + m5)).toNatClampNeg)).1))), some (.int (((v201 q cc gc ((v201 q cc gc ((v201 q cc gc h i (((Ar h 170) (78 + m5)).toNatClampNeg)).2) m5 (((Ar h 170) (78 + m5)).toNatClampNeg)).2) m5 (((Ar h 170) (78 + i)).toNatClampNeg)).1) - ((v201 q cc gc ((v201 q cc gc ((v201 q cc gc ((v201 q cc gc h i (((Ar h 170) (78 + m5)).toNatClampNeg)).2) m5 (((Ar h 170) (78 + m5)).toNatClampNeg)).2) m5 (((Ar h 170) (78 + i)).toNatClampNeg)).2) i (((Ar h 170) (78 + i)).toNatClampNeg)).1)))], [], (v201 q cc gc ((v201 q cc gc ((v201 q cc gc ((v201 q cc gc h i (((Ar h 170) (78 + m5)).toNatClampNeg)).2) m5 (((Ar h 170) (78 + m5)).toNatClampNeg)).2) m5 (((Ar h 170) (78 + i)).toNatClampNeg)).2) i (((Ar h 170) (78 + i)).toNatClampNeg)).2, 198, sl) = some R := hh
              exact ⟨n, hh⟩) (fun z19 => by
              have hh := en_f z19 hh
              have hh : pm_run PT n fr lo 236 (136, [some (.ref 162), some (.int x1), some (.int x2), some (.int x3), some (.int x4), some (.int (nI m5)), some (.int (nI i)), some (.int (nI (((Ar h 170) (78 + m5)).toNatClampNeg))), some (.int (nI (((Ar h 170) (78 + i)).toNatClampNeg))), some (.int (((v201 q cc gc h i (((Ar h 170) (78 + m5)).toNatClampNeg)).1) - ((v201 q cc gc ((v201 q cc gc h i (((Ar h 170) (78 + m5)).toNatClampNeg)).2) m5 (((Ar h 170) (78 + m5)).toNatClampNeg)).1))), some (.int (((v201 q cc gc ((v201 q cc gc ((v201 q cc gc h i (((Ar h 170) (78 + m5)).toNatClampNeg)).2) m5 (((Ar h 170) (78 + m5)).toNatClampNeg)).2) m5 (((Ar h 170) (78 + i)).toNatClampNeg)).1) - ((v201 q cc gc ((v201 q cc gc ((v201 q cc gc ((v201 q cc gc h i (((Ar h 170) (78 + m5)).toNatClampNeg)).2) m5 (((Ar h 170) (78 + m5)).toNatClampNeg)).2) m5 (((Ar h 170) (78 + i)).toNatClampNeg)).2) i (((Ar h 170) (78 + i)).toNatClampNeg)).1)))], [], (v201 q cc gc ((v201 q cc gc ((v201 q cc gc ((v201 q cc gc h i (((Ar h 170) (78 + m5)).toNatClampNeg)).2) m5 (((Ar h 170) (78 + m5)).toNatClampNeg)).2) m5 (((Ar h 170) (78 + i)).toNatClampNeg)).2) i (((Ar h 170) (78 + i)).toNatClampNeg)).2, 198, sl) = some R := hh
              obtain ⟨n, hh⟩ := rn_i rfl rfl rfl rfl hh
              obtain ⟨n, hh⟩ := rn_i rfl rfl rfl rfl hh
              obtain ⟨n, hh⟩ := rn_i rfl rfl rfl rfl hh
              obtain ⟨n, hh⟩ := rn_i rfl rfl rfl rfl hh
              obtain ⟨n, hh⟩ := rn_i rfl rfl rfl rfl hh
              have hh : pm_run PT n fr lo 236 (146, [some (.ref 162), some (.int (x1 + Int32.ofInt 1)), some (.int x2), some (.int x3), some (.int x4), some (.int (nI m5)), some (.int (nI i)), some (.int (nI (((Ar h 170) (78 + m5)).toNatClampNeg))), some (.int (nI (((Ar h 170) (78 + i)).toNatClampNeg))), some (.int (((v201 q cc gc h i (((Ar h 170) (78 + m5)).toNatClampNeg)).1) - ((v201 q cc gc ((v201 q cc gc h i (((Ar h 170) (78 + m5)).toNatClampNeg)).2) m5 (((Ar h 170) (78 + m5)).toNatClampNeg)).1))), some (.int (((v201 q cc gc ((v201 q cc gc ((v201 q cc gc h i (((Ar h 170) (78 + m5)).toNatClampNeg)).2) m5 (((Ar h 170) (78 + m5)).toNatClampNeg)).2) m5 (((Ar h 170) (78 + i)).toNatClampNeg)).1) - ((v201 q cc gc ((v201 q cc gc ((v201 q cc gc ((v201 q cc gc h i (((Ar h 170) (78 + m5)).toNatClampNeg)).2) m5 (((Ar h 170) (78 + m5)).toNatClampNeg)).2) m5 (((Ar h 170) (78 + i)).toNatClampNeg)).2) i (((Ar h 170) (78 + i)).toNatClampNeg)).1)))], [.int x4, .int ((((v201 q cc gc h i (((Ar h 170) (78 + m5)).toNatClampNeg)).1) - ((v201 q cc gc ((v201 q cc gc h i (((Ar h 170) (78 + m5)).toNatClampNeg)).2) m5 (((Ar h 170) (78 + m5)).toNatClampNeg)).1)) + (((v201 q cc gc ((v201 q cc gc ((v201 q cc gc h i (((Ar h 170) (78 + m5)).toNatClampNeg)).2) m5 (((Ar h 170) (78 + m5)).toNatClampNeg)).2) m5 (((Ar h 170) (78 + i)).toNatClampNeg)).1) - ((v201 q cc gc ((v201 q cc gc ((v201 q cc gc ((v201 q cc gc h i (((Ar h 170) (78 + m5)).toNatClampNeg)).2) m5 (((Ar h 170) (78 + m5)).toNatClampNeg)).2) m5 (((Ar h 170) (78 + i)).toNatClampNeg)).2) i (((Ar h 170) (78 + i)).toNatClampNeg)).1)))], (v201 q cc gc ((v201 q cc gc ((v201 q cc gc ((v201 q cc gc h i (((Ar h 170) (78 + m5)).toNatClampNeg)).2) m5 (((Ar h 170) (78 + m5)).toNatClampNeg)).2) m5 (((Ar h 170) (78 + i)).toNatClampNeg)).2) i (((Ar h 170) (78 + i)).toNatClampNeg)).2, 198, sl) = some R := hh
              obtain ⟨n, hh⟩ := en_cn (cc := .le) (off := 16) (t := 162) (b := pm_cmp .le ((((v201 q cc gc h i (((Ar h 170) (78 + m5)).toNatClampNeg)).1) - ((v201 q cc gc ((v201 q cc gc h i (((Ar h 170) (78 + m5)).toNatClampNeg)).2) m5 (((Ar h 170) (78 + m5)).toNatClampNeg)).1)) + (((v201 q cc gc ((v201 q cc gc ((v201 q cc gc h i (((Ar h 170) (78 + m5)).toNatClampNeg)).2) m5 (((Ar h 170) (78 + m5)).toNatClampNeg)).2) m5 (((Ar h 170) (78 + i)).toNatClampNeg)).1) - ((v201 q cc gc ((v201 q cc gc ((v201 q cc gc ((v201 q cc gc h i (((Ar h 170) (78 + m5)).toNatClampNeg)).2) m5 (((Ar h 170) (78 + m5)).toNatClampNeg)).2) m5 (((Ar h 170) (78 + i)).toNatClampNeg)).2) i (((Ar h 170) (78 + i)).toNatClampNeg)).1))) x4) rfl rfl rfl hh
              have hj21 : ∃ mJ, pm_run PT mJ fr lo 236 (cond (pm_cmp .le ((((v201 q cc gc h i (((Ar h 170) (78 + m5)).toNatClampNeg)).1) - ((v201 q cc gc ((v201 q cc gc h i (((Ar h 170) (78 + m5)).toNatClampNeg)).2) m5 (((Ar h 170) (78 + m5)).toNatClampNeg)).1)) + (((v201 q cc gc ((v201 q cc gc ((v201 q cc gc h i (((Ar h 170) (78 + m5)).toNatClampNeg)).2) m5 (((Ar h 170) (78 + m5)).toNatClampNeg)).2) m5 (((Ar h 170) (78 + i)).toNatClampNeg)).1) - ((v201 q cc gc ((v201 q cc gc ((v201 q cc gc ((v201 q cc gc h i (((Ar h 170) (78 + m5)).toNatClampNeg)).2) m5 (((Ar h 170) (78 + m5)).toNatClampNeg)).2) m5 (((Ar h 170) (78 + i)).toNatClampNeg)).2) i (((Ar h 170) (78 + i)).toNatClampNeg)).1))) x4) (162, [some (.ref 162), some (.int (x1 + Int32.ofInt 1)), some (.int x2), some (.int x3), some (.int x4), some (.int (nI m5)), some (.int (nI i)), some (.int (nI (((Ar h 170) (78 + m5)).toNatClampNeg))), some (.int (nI (((Ar h 170) (78 + i)).toNatClampNeg))), some (.int (((v201 q cc gc h i (((Ar h 170) (78 + m5)).toNatClampNeg)).1) - ((v201 q cc gc ((v201 q cc gc h i (((Ar h 170) (78 + m5)).toNatClampNeg)).2) m5 (((Ar h 170) (78 + m5)).toNatClampNeg)).1))), some (.int (((v201 q cc gc ((v201 q cc gc ((v201 q cc gc h i (((Ar h 170) (78 + m5)).toNatClampNeg)).2) m5 (((Ar h 170) (78 + m5)).toNatClampNeg)).2) m5 (((Ar h 170) (78 + i)).toNatClampNeg)).1) - ((v201 q cc gc ((v201 q cc gc ((v201 q cc gc ((v201 q cc gc h i (((Ar h 170) (78 + m5)).toNatClampNeg)).2) m5 (((Ar h 170) (78 + m5)).toNatClampNeg)).2) m5 (((Ar h 170) (78 + i)).toNatClampNeg)).2) i (((Ar h 170) (78 + i)).toNatClampNeg)).1)))], [], (v201 q cc gc ((v201 q cc gc ((v201 q cc gc ((v201 q cc gc h i (((Ar h 170) (78 + m5)).toNatClampNeg)).2) m5 (((Ar h 170) (78 + m5)).toNatClampNeg)).2) m5 (((Ar h 170) (78 + i)).toNatClampNeg)).2) i (((Ar h 170) (78 + i)).toNatClampNeg)).2, 198, sl) (162, [some (.ref 162), some (.int (x1 + Int32.ofInt 1)), some (.int (nI m5)), some (.int (nI i)), some (.int ((((v201 q cc gc h i (((Ar h 170) (78 + m5)).toNatClampNeg)).1) - ((v201 q cc gc ((v201 q cc gc h i (((Ar h 170) (78 + m5)).toNatClampNeg)).2) m5 (((Ar h 170) (78 + m5)).toNatClampNeg)).1)) + (((v201 q cc gc ((v201 q cc gc ((v201 q cc gc h i (((Ar h 170) (78 + m5)).toNatClampNeg)).2) m5 (((Ar h 170) (78 + m5)).toNatClampNeg)).2) m5 (((Ar h 170) (78 + i)).toNatClampNeg)).1) - ((v201 q cc gc ((v201 q cc gc ((v201 q cc gc ((v201 q cc gc h i (((Ar h 170) (78 + m5)).toNatClampNeg)).2) m5 (((Ar h 170) (78 + m5)).toNatClampNeg)).2) m5 (((Ar h 170) (78 + i)).toNatClampNeg)).2) i (((Ar h 170) (78 + i)).toNatClampNeg)).1)))), some (.int (nI m5)), some (.int (nI i)), some (.int (nI (((Ar h 170) (78 + m5)).toNatClampNeg))), some (.int (nI (((Ar h 170) (78 + i)).toNatClampNeg))), some (.int (((v201 q cc gc h i (((Ar h 170) (78 + m5)).toNatClampNeg)).1) - ((v201 q cc gc ((v201 q cc gc h i (((Ar h 170) (78 + m5)).toNatClampNeg)).2) m5 (((Ar h 170) (78 + m5)).toNatClampNeg)).1))), some (.int (((v201 q cc gc ((v201 q cc gc ((v201 q cc gc h i (((Ar h 170) (78 + m5)).toNatClampNeg)).2) m5 (((Ar h 170) (78 + m5)).toNatClampNeg)).2) m5 (((Ar h 170) (78 + i)).toNatClampNeg)).1) - ((v201 q cc gc ((v201 q cc gc ((v201 q cc gc ((v201 q cc gc h i (((Ar h 170) (78 + m5)).toNatClampNeg)).2) m5 (((Ar h 170) (78 + m5)).toNatClampNeg)).2) m5 (((Ar h 170) (78 + i)).toNatClampNeg)).2) i (((Ar h 170) (78 + i)).toNatClampNeg)).1)))], [], (v201 q cc gc ((v201 q cc gc ((v201 q cc gc ((v201 q cc gc h i (((Ar h 170) (78 + m5)).toNatClampNeg)).2) m5 (((Ar h 170) (78 + m5)).toNatClampNeg)).2) m5 (((Ar h 170) (78 + i)).toNatClampNeg)).2) i (((Ar h 170) (78 + i)).toNatClampNeg)).2, 198, sl)) = some R := en_J (fun z20 => by
                  have hh := en_t z20 hh
                  have hh : pm_run PT n fr lo 236 (162, [some (.ref 162), some (.int (x1 + Int32.ofInt 1)), some (.int x2), some (.int x3), some (.int x4), some (.int (nI m5)), some (.int (nI i)), some (.int (nI (((Ar h 170) (78 + m5)).toNatClampNeg))), some (.int (nI (((Ar h 170) (78 + i)).toNatClampNeg))), some (.int (((v201 q cc gc h i (((Ar h 170) (78 + m5)).toNatClampNeg)).1) - ((v201 q cc gc ((v201 q cc gc h i (((Ar h 170) (78 + m5)).toNatClampNeg)).2) m5 (((Ar h 170) (78 + m5)).toNatClampNeg)).1))), some (.int (((v201 q cc gc ((v201 q cc gc ((v201 q cc gc h i (((Ar h 170) (78 + m5)).toNatClampNeg)).2) m5 (((Ar h 170) (78 + m5)).toNatClampNeg)).2) m5 (((Ar h 170) (78 + i)).toNatClampNeg)).1) - ((v201 q cc gc ((v201 q cc gc ((v201 q cc gc ((v201 q cc gc h i (((Ar h 170) (78 + m5)).toNatClampNeg)).2) m5 (((Ar h 170) (78 + m5)).toNatClampNeg)).2) m5 (((Ar h 170) (78 + i)).toNatClampNeg)).2) i (((Ar h 170) (78 + i)).toNatClampNeg)).1)))], [], (v201 q cc gc ((v201 q cc gc ((v201 q cc gc ((v201 q cc gc h i (((Ar h 170) (78 + m5)).toNatClampNeg)).2) m5 (((Ar h 170) (78 + m5)).toNatClampNeg)).2) m5 (((Ar h 170) (78 + i)).toNatClampNeg)).2) i (((Ar h 170) (78 + i)).toNatClampNeg)).2, 198, sl) = some R := hh
                  exact ⟨n, hh⟩) (fun z20 => by
                  have hh := en_f z20 hh
                  have hh : pm_run PT n fr lo 236 (149, [some (.ref 162), some (.int (x1 + Int32.ofInt 1)), some (.int x2), some (.int x3), some (.int x4), some (.int (nI m5)), some (.int (nI i)), some (.int (nI (((Ar h 170) (78 + m5)).toNatClampNeg))), some (.int (nI (((Ar h 170) (78 + i)).toNatClampNeg))), some (.int (((v201 q cc gc h i (((Ar h 170) (78 + m5)).toNatClampNeg)).1) - ((v201 q cc gc ((v201 q cc gc h i (((Ar h 170) (78 + m5)).toNatClampNeg)).2) m5 (((Ar h 170) (78 + m5)).toNatClampNeg)).1))), some (.int (((v201 q cc gc ((v201 q cc gc ((v201 q cc gc h i (((Ar h 170) (78 + m5)).toNatClampNeg)).2) m5 (((Ar h 170) (78 + m5)).toNatClampNeg)).2) m5 (((Ar h 170) (78 + i)).toNatClampNeg)).1) - ((v201 q cc gc ((v201 q cc gc ((v201 q cc gc ((v201 q cc gc h i (((Ar h 170) (78 + m5)).toNatClampNeg)).2) m5 (((Ar h 170) (78 + m5)).toNatClampNeg)).2) m5 (((Ar h 170) (78 + i)).toNatClampNeg)).2) i (((Ar h 170) (78 + i)).toNatClampNeg)).1)))], [], (v201 q cc gc ((v201 q cc gc ((v201 q cc gc ((v201 q cc gc h i (((Ar h 170) (78 + m5)).toNatClampNeg)).2) m5 (((Ar h 170) (78 + m5)).toNatClampNeg)).2) m5 (((Ar h 170) (78 + i)).toNatClampNeg)).2) i (((Ar h 170) (78 + i)).toNatClampNeg)).2, 198, sl) = some R := hh
                  obtain ⟨n, hh⟩ := rn_i rfl rfl rfl rfl hh
                  obtain ⟨n, hh⟩ := rn_i rfl rfl rfl rfl hh
                  obtain ⟨n, hh⟩ := rn_i rfl rfl rfl rfl hh
                  obtain ⟨n, hh⟩ := rn_i rfl rfl rfl rfl hh
                  obtain ⟨n, hh⟩ := rn_i rfl rfl rfl rfl hh
                  obtain ⟨n, hh⟩ := rn_i rfl rfl rfl rfl hh
                  obtain ⟨n, hh⟩ := rn_i rfl rfl rfl rfl hh
                  obtain ⟨n, hh⟩ := rn_i rfl rfl rfl rfl hh
                  exact ⟨n, hh⟩)
              obtain ⟨n, hh⟩ := hj21
              rw [show (cond (pm_cmp .le ((((v201 q cc gc h i (((Ar h 170) (78 + m5)).toNatClampNeg)).1) - ((v201 q cc gc ((v201 q cc gc h i (((Ar h 170) (78 + m5)).toNatClampNeg)).2) m5 (((Ar h 170) (78 + m5)).toNatClampNeg)).1)) + (((v201 q cc gc ((v201 q cc gc ((v201 q cc gc h i (((Ar h 170) (78 + m5)).toNatClampNeg)).2) m5 (((Ar h 170) (78 + m5)).toNatClampNeg)).2) m5 (((Ar h 170) (78 + i)).toNatClampNeg)).1) - ((v201 q cc gc ((v201 q cc gc ((v201 q cc gc ((v201 q cc gc h i (((Ar h 170) (78 + m5)).toNatClampNeg)).2) m5 (((Ar h 170) (78 + m5)).toNatClampNeg)).2) m5 (((Ar h 170) (78 + i)).toNatClampNeg)).2) i (((Ar h 170) (78 + i)).toNatClampNeg)).1))) x4) (162, [some (.ref 162), some (.int (x1 + Int32.ofInt 1)), some (.int x2), some (.int x3), some (.int x4), some (.int (nI m5)), some (.int (nI i)), some (.int (nI (((Ar h 170) (78 + m5)).toNatClampNeg))), some (.int (nI (((Ar h 170) (78 + i)).toNatClampNeg))), some (.int (((v201 q cc gc h i (((Ar h 170) (78 + m5)).toNatClampNeg)).1) - ((v201 q cc gc ((v201 q cc gc h i (((Ar h 170) (78 + m5)).toNatClampNeg)).2) m5 (((Ar h 170) (78 + m5)).toNatClampNeg)).1))), some (.int (((v201 q cc gc ((v201 q cc gc ((v201 q cc gc h i (((Ar h 170) (78 + m5)).toNatClampNeg)).2) m5 (((Ar h 170) (78 + m5)).toNatClampNeg)).2) m5 (((Ar h 170) (78 + i)).toNatClampNeg)).1) - ((v201 q cc gc ((v201 q cc gc ((v201 q cc gc ((v201 q cc gc h i (((Ar h 170) (78 + m5)).toNatClampNeg)).2) m5 (((Ar h 170) (78 + m5)).toNatClampNeg)).2) m5 (((Ar h 170) (78 + i)).toNatClampNeg)).2) i (((Ar h 170) (78 + i)).toNatClampNeg)).1)))], [], (v201 q cc gc ((v201 q cc gc ((v201 q cc gc ((v201 q cc gc h i (((Ar h 170) (78 + m5)).toNatClampNeg)).2) m5 (((Ar h 170) (78 + m5)).toNatClampNeg)).2) m5 (((Ar h 170) (78 + i)).toNatClampNeg)).2) i (((Ar h 170) (78 + i)).toNatClampNeg)).2, 198, sl) (162, [some (.ref 162), some (.int (x1 + Int32.ofInt 1)), some (.int (nI m5)), some (.int (nI i)), some (.int ((((v201 q cc gc h i (((Ar h 170) (78 + m5)).toNatClampNeg)).1) - ((v201 q cc gc ((v201 q cc gc h i (((Ar h 170) (78 + m5)).toNatClampNeg)).2) m5 (((Ar h 170) (78 + m5)).toNatClampNeg)).1)) + (((v201 q cc gc ((v201 q cc gc ((v201 q cc gc h i (((Ar h 170) (78 + m5)).toNatClampNeg)).2) m5 (((Ar h 170) (78 + m5)).toNatClampNeg)).2) m5 (((Ar h 170) (78 + i)).toNatClampNeg)).1) - ((v201 q cc gc ((v201 q cc gc ((v201 q cc gc ((v201 q cc gc h i (((Ar h 170) (78 + m5)).toNatClampNeg)).2) m5 (((Ar h 170) (78 + m5)).toNatClampNeg)).2) m5 (((Ar h 170) (78 + i)).toNatClampNeg)).2) i (((Ar h 170) (78 + i)).toNatClampNeg)).1)))), some (.int (nI m5)), some (.int (nI i)), some (.int (nI (((Ar h 170) (78 + m5)).toNatClampNeg))), some (.int (nI (((Ar h 170) (78 + i)).toNatClampNeg))), some (.int (((v201 q cc gc h i (((Ar h 170) (78 + m5)).toNatClampNeg)).1) - ((v201 q cc gc ((v201 q cc gc h i (((Ar h 170) (78 + m5)).toNatClampNeg)).2) m5 (((Ar h 170) (78 + m5)).toNatClampNeg)).1))), some (.int (((v201 q cc gc ((v201 q cc gc ((v201 q cc gc h i (((Ar h 170) (78 + m5)).toNatClampNeg)).2) m5 (((Ar h 170) (78 + m5)).toNatClampNeg)).2) m5 (((Ar h 170) (78 + i)).toNatClampNeg)).1) - ((v201 q cc gc ((v201 q cc gc ((v201 q cc gc ((v201 q cc gc h i (((Ar h 170) (78 + m5)).toNatClampNeg)).2) m5 (((Ar h 170) (78 + m5)).toNatClampNeg)).2) m5 (((Ar h 170) (78 + i)).toNatClampNeg)).2) i (((Ar h 170) (78 + i)).toNatClampNeg)).1)))], [], (v201 q cc gc ((v201 q cc gc ((v201 q cc gc ((v201 q cc gc h i (((Ar h 170) (78 + m5)).toNatClampNeg)).2) m5 (((Ar h 170) (78 + m5)).toNatClampNeg)).2) m5 (((Ar h 170) (78 + i)).toNatClampNeg)).2) i (((Ar h 170) (78 + i)).toNatClampNeg)).2, 198, sl) : pm_St) = (162, [some (.ref 162), some (.int (x1 + Int32.ofInt 1)), some (.int (cond (pm_cmp .le ((((v201 q cc gc h i (((Ar h 170) (78 + m5)).toNatClampNeg)).1) - ((v201 q cc gc ((v201 q cc gc h i (((Ar h 170) (78 + m5)).toNatClampNeg)).2) m5 (((Ar h 170) (78 + m5)).toNatClampNeg)).1)) + (((v201 q cc gc ((v201 q cc gc ((v201 q cc gc h i (((Ar h 170) (78 + m5)).toNatClampNeg)).2) m5 (((Ar h 170) (78 + m5)).toNatClampNeg)).2) m5 (((Ar h 170) (78 + i)).toNatClampNeg)).1) - ((v201 q cc gc ((v201 q cc gc ((v201 q cc gc ((v201 q cc gc h i (((Ar h 170) (78 + m5)).toNatClampNeg)).2) m5 (((Ar h 170) (78 + m5)).toNatClampNeg)).2) m5 (((Ar h 170) (78 + i)).toNatClampNeg)).2) i (((Ar h 170) (78 + i)).toNatClampNeg)).1))) x4) x2 (nI m5))), some (.int (cond (pm_cmp .le ((((v201 q cc gc h i (((Ar h 170) (78 + m5)).toNatClampNeg)).1) - ((v201 q cc gc ((v201 q cc gc h i (((Ar h 170) (78 + m5)).toNatClampNeg)).2) m5 (((Ar h 170) (78 + m5)).toNatClampNeg)).1)) + (((v201 q cc gc ((v201 q cc gc ((v201 q cc gc h i (((Ar h 170) (78 + m5)).toNatClampNeg)).2) m5 (((Ar h 170) (78 + m5)).toNatClampNeg)).2) m5 (((Ar h 170) (78 + i)).toNatClampNeg)).1) - ((v201 q cc gc ((v201 q cc gc ((v201 q cc gc ((v201 q cc gc h i (((Ar h 170) (78 + m5)).toNatClampNeg)).2) m5 (((Ar h 170) (78 + m5)).toNatClampNeg)).2) m5 (((Ar h 170) (78 + i)).toNatClampNeg)).2) i (((Ar h 170) (78 + i)).toNatClampNeg)).1))) x4) x3 (nI i))), some (.int (cond (pm_cmp .le ((((v201 q cc gc h i (((Ar h 170) (78 + m5)).toNatClampNeg)).1) - ((v201 q cc gc ((v201 q cc gc h i (((Ar h 170) (78 + m5)).toNatClampNeg)).2) m5 (((Ar h 170) (78 + m5)).toNatClampNeg)).1)) + (((v201 q cc gc ((v201 q cc gc ((v201 q cc gc h i (((Ar h 170) (78 + m5)).toNatClampNeg)).2) m5 (((Ar h 170) (78 + m5)).toNatClampNeg)).2) m5 (((Ar h 170) (78 + i)).toNatClampNeg)).1) - ((v201 q cc gc ((v201 q cc gc ((v201 q cc gc ((v201 q cc gc h i (((Ar h 170) (78 + m5)).toNatClampNeg)).2) m5 (((Ar h 170) (78 + m5)).toNatClampNeg)).2) m5 (((Ar h 170) (78 + i)).toNatClampNeg)).2) i (((Ar h 170) (78 + i)).toNatClampNeg)).1))) x4) x4 ((((v201 q cc gc h i (((Ar h 170) (78 + m5)).toNatClampNeg)).1) - ((v201 q cc gc ((v201 q cc gc h i (((Ar h 170) (78 + m5)).toNatClampNeg)).2) m5 (((Ar h 170) (78 + m5)).toNatClampNeg)).1)) + (((v201 q cc gc ((v201 q cc gc ((v201 q cc gc h i (((Ar h 170) (78 + m5)).toNatClampNeg)).2) m5 (((Ar h 170) (78 + m5)).toNatClampNeg)).2) m5 (((Ar h 170) (78 + i)).toNatClampNeg)).1) - ((v201 q cc gc ((v201 q cc gc ((v201 q cc gc ((v201 q cc gc h i (((Ar h 170) (78 + m5)).toNatClampNeg)).2) m5 (((Ar h 170) (78 + m5)).toNatClampNeg)).2) m5 (((Ar h 170) (78 + i)).toNatClampNeg)).2) i (((Ar h 170) (78 + i)).toNatClampNeg)).1))))), some (.int (nI m5)), some (.int (nI i)), some (.int (nI (((Ar h 170) (78 + m5)).toNatClampNeg))), some (.int (nI (((Ar h 170) (78 + i)).toNatClampNeg))), some (.int (((v201 q cc gc h i (((Ar h 170) (78 + m5)).toNatClampNeg)).1) - ((v201 q cc gc ((v201 q cc gc h i (((Ar h 170) (78 + m5)).toNatClampNeg)).2) m5 (((Ar h 170) (78 + m5)).toNatClampNeg)).1))), some (.int (((v201 q cc gc ((v201 q cc gc ((v201 q cc gc h i (((Ar h 170) (78 + m5)).toNatClampNeg)).2) m5 (((Ar h 170) (78 + m5)).toNatClampNeg)).2) m5 (((Ar h 170) (78 + i)).toNatClampNeg)).1) - ((v201 q cc gc ((v201 q cc gc ((v201 q cc gc ((v201 q cc gc h i (((Ar h 170) (78 + m5)).toNatClampNeg)).2) m5 (((Ar h 170) (78 + m5)).toNatClampNeg)).2) m5 (((Ar h 170) (78 + i)).toNatClampNeg)).2) i (((Ar h 170) (78 + i)).toNatClampNeg)).1)))], [], (v201 q cc gc ((v201 q cc gc ((v201 q cc gc ((v201 q cc gc h i (((Ar h 170) (78 + m5)).toNatClampNeg)).2) m5 (((Ar h 170) (78 + m5)).toNatClampNeg)).2) m5 (((Ar h 170) (78 + i)).toNatClampNeg)).2) i (((Ar h 170) (78 + i)).toNatClampNeg)).2, 198, sl) from by cases (pm_cmp .le ((((v201 q cc gc h i (((Ar h 170) (78 + m5)).toNatClampNeg)).1) - ((v201 q cc gc ((v201 q cc gc h i (((Ar h 170) (78 + m5)).toNatClampNeg)).2) m5 (((Ar h 170) (78 + m5)).toNatClampNeg)).1)) + (((v201 q cc gc ((v201 q cc gc ((v201 q cc gc h i (((Ar h 170) (78 + m5)).toNatClampNeg)).2) m5 (((Ar h 170) (78 + m5)).toNatClampNeg)).2) m5 (((Ar h 170) (78 + i)).toNatClampNeg)).1) - ((v201 q cc gc ((v201 q cc gc ((v201 q cc gc ((v201 q cc gc h i (((Ar h 170) (78 + m5)).toNatClampNeg)).2) m5 (((Ar h 170) (78 + m5)).toNatClampNeg)).2) m5 (((Ar h 170) (78 + i)).toNatClampNeg)).2) i (((Ar h 170) (78 + i)).toNatClampNeg)).1))) x4) <;> rfl] at hh
              exact ⟨n, hh⟩)
          obtain ⟨n, hh⟩ := hj22
          rw [show (cond (pm_cmp .le (((v201 q cc gc ((v201 q cc gc ((v201 q cc gc h i (((Ar h 170) (78 + m5)).toNatClampNeg)).2) m5 (((Ar h 170) (78 + m5)).toNatClampNeg)).2) m5 (((Ar h 170) (78 + i)).toNatClampNeg)).1) - ((v201 q cc gc ((v201 q cc gc ((v201 q cc gc ((v201 q cc gc h i (((Ar h 170) (78 + m5)).toNatClampNeg)).2) m5 (((Ar h 170) (78 + m5)).toNatClampNeg)).2) m5 (((Ar h 170) (78 + i)).toNatClampNeg)).2) i (((Ar h 170) (78 + i)).toNatClampNeg)).1)) 0) (162, [some (.ref 162), some (.int x1), some (.int x2), some (.int x3), some (.int x4), some (.int (nI m5)), some (.int (nI i)), some (.int (nI (((Ar h 170) (78 + m5)).toNatClampNeg))), some (.int (nI (((Ar h 170) (78 + i)).toNatClampNeg))), some (.int (((v201 q cc gc h i (((Ar h 170) (78 + m5)).toNatClampNeg)).1) - ((v201 q cc gc ((v201 q cc gc h i (((Ar h 170) (78 + m5)).toNatClampNeg)).2) m5 (((Ar h 170) (78 + m5)).toNatClampNeg)).1))), some (.int (((v201 q cc gc ((v201 q cc gc ((v201 q cc gc h i (((Ar h 170) (78 + m5)).toNatClampNeg)).2) m5 (((Ar h 170) (78 + m5)).toNatClampNeg)).2) m5 (((Ar h 170) (78 + i)).toNatClampNeg)).1) - ((v201 q cc gc ((v201 q cc gc ((v201 q cc gc ((v201 q cc gc h i (((Ar h 170) (78 + m5)).toNatClampNeg)).2) m5 (((Ar h 170) (78 + m5)).toNatClampNeg)).2) m5 (((Ar h 170) (78 + i)).toNatClampNeg)).2) i (((Ar h 170) (78 + i)).toNatClampNeg)).1)))], [], (v201 q cc gc ((v201 q cc gc ((v201 q cc gc ((v201 q cc gc h i (((Ar h 170) (78 + m5)).toNatClampNeg)).2) m5 (((Ar h 170) (78 + m5)).toNatClampNeg)).2) m5 (((Ar h 170) (78 + i)).toNatClampNeg)).2) i (((Ar h 170) (78 + i)).toNatClampNeg)).2, 198, sl) (162, [some (.ref 162), some (.int (x1 + Int32.ofInt 1)), some (.int (cond (pm_cmp .le ((((v201 q cc gc h i (((Ar h 170) (78 + m5)).toNatClampNeg)).1) - ((v201 q cc gc ((v201 q cc gc h i (((Ar h 170) (78 + m5)).toNatClampNeg)).2) m5 (((Ar h 170) (78 + m5)).toNatClampNeg)).1)) + (((v201 q cc gc ((v201 q cc gc ((v201 q cc gc h i (((Ar h 170) (78 + m5)).toNatClampNeg)).2) m5 (((Ar h 170) (78 + m5)).toNatClampNeg)).2) m5 (((Ar h 170) (78 + i)).toNatClampNeg)).1) - ((v201 q cc gc ((v201 q cc gc ((v201 q cc gc ((v201 q cc gc h i (((Ar h 170) (78 + m5)).toNatClampNeg)).2) m5 (((Ar h 170) (78 + m5)).toNatClampNeg)).2) m5 (((Ar h 170) (78 + i)).toNatClampNeg)).2) i (((Ar h 170) (78 + i)).toNatClampNeg)).1))) x4) x2 (nI m5))), some (.int (cond (pm_cmp .le ((((v201 q cc gc h i (((Ar h 170) (78 + m5)).toNatClampNeg)).1) - ((v201 q cc gc ((v201 q cc gc h i (((Ar h 170) (78 + m5)).toNatClampNeg)).2) m5 (((Ar h 170) (78 + m5)).toNatClampNeg)).1)) + (((v201 q cc gc ((v201 q cc gc ((v201 q cc gc h i (((Ar h 170) (78 + m5)).toNatClampNeg)).2) m5 (((Ar h 170) (78 + m5)).toNatClampNeg)).2) m5 (((Ar h 170) (78 + i)).toNatClampNeg)).1) - ((v201 q cc gc ((v201 q cc gc ((v201 q cc gc ((v201 q cc gc h i (((Ar h 170) (78 + m5)).toNatClampNeg)).2) m5 (((Ar h 170) (78 + m5)).toNatClampNeg)).2) m5 (((Ar h 170) (78 + i)).toNatClampNeg)).2) i (((Ar h 170) (78 + i)).toNatClampNeg)).1))) x4) x3 (nI i))), some (.int (cond (pm_cmp .le ((((v201 q cc gc h i (((Ar h 170) (78 + m5)).toNatClampNeg)).1) - ((v201 q cc gc ((v201 q cc gc h i (((Ar h 170) (78 + m5)).toNatClampNeg)).2) m5 (((Ar h 170) (78 + m5)).toNatClampNeg)).1)) + (((v201 q cc gc ((v201 q cc gc ((v201 q cc gc h i (((Ar h 170) (78 + m5)).toNatClampNeg)).2) m5 (((Ar h 170) (78 + m5)).toNatClampNeg)).2) m5 (((Ar h 170) (78 + i)).toNatClampNeg)).1) - ((v201 q cc gc ((v201 q cc gc ((v201 q cc gc ((v201 q cc gc h i (((Ar h 170) (78 + m5)).toNatClampNeg)).2) m5 (((Ar h 170) (78 + m5)).toNatClampNeg)).2) m5 (((Ar h 170) (78 + i)).toNatClampNeg)).2) i (((Ar h 170) (78 + i)).toNatClampNeg)).1))) x4) x4 ((((v201 q cc gc h i (((Ar h 170) (78 + m5)).toNatClampNeg)).1) - ((v201 q cc gc ((v201 q cc gc h i (((Ar h 170) (78 + m5)).toNatClampNeg)).2) m5 (((Ar h 170) (78 + m5)).toNatClampNeg)).1)) + (((v201 q cc gc ((v201 q cc gc ((v201 q cc gc h i (((Ar h 170) (78 + m5)).toNatClampNeg)).2) m5 (((Ar h 170) (78 + m5)).toNatClampNeg)).2) m5 (((Ar h 170) (78 + i)).toNatClampNeg)).1) - ((v201 q cc gc ((v201 q cc gc ((v201 q cc gc ((v201 q cc gc h i (((Ar h 170) (78 + m5)).toNatClampNeg)).2) m5 (((Ar h 170) (78 + m5)).toNatClampNeg)).2) m5 (((Ar h 170) (78 + i)).toNatClampNeg)).2) i (((Ar h 170) (78 + i)).toNatClampNeg)).1))))), some (.int (nI m5)), some (.int (nI i)), some (.int (nI (((Ar h 170) (78 + m5)).toNatClampNeg))), some (.int (nI (((Ar h 170) (78 + i)).toNatClampNeg))), some (.int (((v201 q cc gc h i (((Ar h 170) (78 + m5)).toNatClampNeg)).1) - ((v201 q cc gc ((v201 q cc gc h i (((Ar h 170) (78 + m5)).toNatClampNeg)).2) m5 (((Ar h 170) (78 + m5)).toNatClampNeg)).1))), some (.int (((v201 q cc gc ((v201 q cc gc ((v201 q cc gc h i (((Ar h 170) (78 + m5)).toNatClampNeg)).2) m5 (((Ar h 170) (78 + m5)).toNatClampNeg)).2) m5 (((Ar h 170) (78 + i)).toNatClampNeg)).1) - ((v201 q cc gc ((v201 q cc gc ((v201 q cc gc ((v201 q cc gc h i (((Ar h 170) (78 + m5)).toNatClampNeg)).2) m5 (((Ar h 170) (78 + m5)).toNatClampNeg)).2) m5 (((Ar h 170) (78 + i)).toNatClampNeg)).2) i (((Ar h 170) (78 + i)).toNatClampNeg)).1)))], [], (v201 q cc gc ((v201 q cc gc ((v201 q cc gc ((v201 q cc gc h i (((Ar h 170) (78 + m5)).toNatClampNeg)).2) m5 (((Ar h 170) (78 + m5)).toNatClampNeg)).2) m5 (((Ar h 170) (78 + i)).toNatClampNeg)).2) i (((Ar h 170) (78 + i)).toNatClampNeg)).2, 198, sl) : pm_St) = (162, [some (.ref 162), some (.int (cond (pm_cmp .le (((v201 q cc gc ((v201 q cc gc ((v201 q cc gc h i (((Ar h 170) (78 + m5)).toNatClampNeg)).2) m5 (((Ar h 170) (78 + m5)).toNatClampNeg)).2) m5 (((Ar h 170) (78 + i)).toNatClampNeg)).1) - ((v201 q cc gc ((v201 q cc gc ((v201 q cc gc ((v201 q cc gc h i (((Ar h 170) (78 + m5)).toNatClampNeg)).2) m5 (((Ar h 170) (78 + m5)).toNatClampNeg)).2) m5 (((Ar h 170) (78 + i)).toNatClampNeg)).2) i (((Ar h 170) (78 + i)).toNatClampNeg)).1)) 0) x1 (x1 + Int32.ofInt 1))), some (.int (cond (pm_cmp .le (((v201 q cc gc ((v201 q cc gc ((v201 q cc gc h i (((Ar h 170) (78 + m5)).toNatClampNeg)).2) m5 (((Ar h 170) (78 + m5)).toNatClampNeg)).2) m5 (((Ar h 170) (78 + i)).toNatClampNeg)).1) - ((v201 q cc gc ((v201 q cc gc ((v201 q cc gc ((v201 q cc gc h i (((Ar h 170) (78 + m5)).toNatClampNeg)).2) m5 (((Ar h 170) (78 + m5)).toNatClampNeg)).2) m5 (((Ar h 170) (78 + i)).toNatClampNeg)).2) i (((Ar h 170) (78 + i)).toNatClampNeg)).1)) 0) x2 (cond (pm_cmp .le ((((v201 q cc gc h i (((Ar h 170) (78 + m5)).toNatClampNeg)).1) - ((v201 q cc gc ((v201 q cc gc h i (((Ar h 170) (78 + m5)).toNatClampNeg)).2) m5 (((Ar h 170) (78 + m5)).toNatClampNeg)).1)) + (((v201 q cc gc ((v201 q cc gc ((v201 q cc gc h i (((Ar h 170) (78 + m5)).toNatClampNeg)).2) m5 (((Ar h 170) (78 + m5)).toNatClampNeg)).2) m5 (((Ar h 170) (78 + i)).toNatClampNeg)).1) - ((v201 q cc gc ((v201 q cc gc ((v201 q cc gc ((v201 q cc gc h i (((Ar h 170) (78 + m5)).toNatClampNeg)).2) m5 (((Ar h 170) (78 + m5)).toNatClampNeg)).2) m5 (((Ar h 170) (78 + i)).toNatClampNeg)).2) i (((Ar h 170) (78 + i)).toNatClampNeg)).1))) x4) x2 (nI m5)))), some (.int (cond (pm_cmp .le (((v201 q cc gc ((v201 q cc gc ((v201 q cc gc h i (((Ar h 170) (78 + m5)).toNatClampNeg)).2) m5 (((Ar h 170) (78 + m5)).toNatClampNeg)).2) m5 (((Ar h 170) (78 + i)).toNatClampNeg)).1) - ((v201 q cc gc ((v201 q cc gc ((v201 q cc gc ((v201 q cc gc h i (((Ar h 170) (78 + m5)).toNatClampNeg)).2) m5 (((Ar h 170) (78 + m5)).toNatClampNeg)).2) m5 (((Ar h 170) (78 + i)).toNatClampNeg)).2) i (((Ar h 170) (78 + i)).toNatClampNeg)).1)) 0) x3 (cond (pm_cmp .le ((((v201 q cc gc h i (((Ar h 170) (78 + m5)).toNatClampNeg)).1) - ((v201 q cc gc ((v201 q cc gc h i (((Ar h 170) (78 + m5)).toNatClampNeg)).2) m5 (((Ar h 170) (78 + m5)).toNatClampNeg)).1)) + (((v201 q cc gc ((v201 q cc gc ((v201 q cc gc h i (((Ar h 170) (78 + m5)).toNatClampNeg)).2) m5 (((Ar h 170) (78 + m5)).toNatClampNeg)).2) m5 (((Ar h 170) (78 + i)).toNatClampNeg)).1) - ((v201 q cc gc ((v201 q cc gc ((v201 q cc gc ((v201 q cc gc h i (((Ar h 170) (78 + m5)).toNatClampNeg)).2) m5 (((Ar h 170) (78 + m5)).toNatClampNeg)).2) m5 (((Ar h 170) (78 + i)).toNatClampNeg)).2) i (((Ar h 170) (78 + i)).toNatClampNeg)).1))) x4) x3 (nI i)))), some (.int (cond (pm_cmp .le (((v201 q cc gc ((v201 q cc gc ((v201 q cc gc h i (((Ar h 170) (78 + m5)).toNatClampNeg)).2) m5 (((Ar h 170) (78 + m5)).toNatClampNeg)).2) m5 (((Ar h 170) (78 + i)).toNatClampNeg)).1) - ((v201 q cc gc ((v201 q cc gc ((v201 q cc gc ((v201 q cc gc h i (((Ar h 170) (78 + m5)).toNatClampNeg)).2) m5 (((Ar h 170) (78 + m5)).toNatClampNeg)).2) m5 (((Ar h 170) (78 + i)).toNatClampNeg)).2) i (((Ar h 170) (78 + i)).toNatClampNeg)).1)) 0) x4 (cond (pm_cmp .le ((((v201 q cc gc h i (((Ar h 170) (78 + m5)).toNatClampNeg)).1) - ((v201 q cc gc ((v201 q cc gc h i (((Ar h 170) (78 + m5)).toNatClampNeg)).2) m5 (((Ar h 170) (78 + m5)).toNatClampNeg)).1)) + (((v201 q cc gc ((v201 q cc gc ((v201 q cc gc h i (((Ar h 170) (78 + m5)).toNatClampNeg)).2) m5 (((Ar h 170) (78 + m5)).toNatClampNeg)).2) m5 (((Ar h 170) (78 + i)).toNatClampNeg)).1) - ((v201 q cc gc ((v201 q cc gc ((v201 q cc gc ((v201 q cc gc h i (((Ar h 170) (78 + m5)).toNatClampNeg)).2) m5 (((Ar h 170) (78 + m5)).toNatClampNeg)).2) m5 (((Ar h 170) (78 + i)).toNatClampNeg)).2) i (((Ar h 170) (78 + i)).toNatClampNeg)).1))) x4) x4 ((((v201 q cc gc h i (((Ar h 170) (78 + m5)).toNatClampNeg)).1) - ((v201 q cc gc ((v201 q cc gc h i (((Ar h 170) (78 + m5)).toNatClampNeg)).2) m5 (((Ar h 170) (78 + m5)).toNatClampNeg)).1)) + (((v201 q cc gc ((v201 q cc gc ((v201 q cc gc h i (((Ar h 170) (78 + m5)).toNatClampNeg)).2) m5 (((Ar h 170) (78 + m5)).toNatClampNeg)).2) m5 (((Ar h 170) (78 + i)).toNatClampNeg)).1) - ((v201 q cc gc ((v201 q cc gc ((v201 q cc gc ((v201 q cc gc h i (((Ar h 170) (78 + m5)).toNatClampNeg)).2) m5 (((Ar h 170) (78 + m5)).toNatClampNeg)).2) m5 (((Ar h 170) (78 + i)).toNatClampNeg)).2) i (((Ar h 170) (78 + i)).toNatClampNeg)).1)))))), some (.int (nI m5)), some (.int (nI i)), some (.int (nI (((Ar h 170) (78 + m5)).toNatClampNeg))), some (.int (nI (((Ar h 170) (78 + i)).toNatClampNeg))), some (.int (((v201 q cc gc h i (((Ar h 170) (78 + m5)).toNatClampNeg)).1) - ((v201 q cc gc ((v201 q cc gc h i (((Ar h 170) (78 + m5)).toNatClampNeg)).2) m5 (((Ar h 170) (78 + m5)).toNatClampNeg)).1))), some (.int (((v201 q cc gc ((v201 q cc gc ((v201 q cc gc h i (((Ar h 170) (78 + m5)).toNatClampNeg)).2) m5 (((Ar h 170) (78 + m5)).toNatClampNeg)).2) m5 (((Ar h 170) (78 + i)).toNatClampNeg)).1) - ((v201 q cc gc ((v201 q cc gc ((v201 q cc gc ((v201 q cc gc h i (((Ar h 170) (78 + m5)).toNatClampNeg)).2) m5 (((Ar h 170) (78 + m5)).toNatClampNeg)).2) m5 (((Ar h 170) (78 + i)).toNatClampNeg)).2) i (((Ar h 170) (78 + i)).toNatClampNeg)).1)))], [], (v201 q cc gc ((v201 q cc gc ((v201 q cc gc ((v201 q cc gc h i (((Ar h 170) (78 + m5)).toNatClampNeg)).2) m5 (((Ar h 170) (78 + m5)).toNatClampNeg)).2) m5 (((Ar h 170) (78 + i)).toNatClampNeg)).2) i (((Ar h 170) (78 + i)).toNatClampNeg)).2, 198, sl) from by cases (pm_cmp .le (((v201 q cc gc ((v201 q cc gc ((v201 q cc gc h i (((Ar h 170) (78 + m5)).toNatClampNeg)).2) m5 (((Ar h 170) (78 + m5)).toNatClampNeg)).2) m5 (((Ar h 170) (78 + i)).toNatClampNeg)).1) - ((v201 q cc gc ((v201 q cc gc ((v201 q cc gc ((v201 q cc gc h i (((Ar h 170) (78 + m5)).toNatClampNeg)).2) m5 (((Ar h 170) (78 + m5)).toNatClampNeg)).2) m5 (((Ar h 170) (78 + i)).toNatClampNeg)).2) i (((Ar h 170) (78 + i)).toNatClampNeg)).1)) 0) <;> rfl] at hh
          exact ⟨n, hh⟩)
      obtain ⟨n, hh⟩ := hj23
      rw [show (cond (pm_cmp .le (((v201 q cc gc h i (((Ar h 170) (78 + m5)).toNatClampNeg)).1) - ((v201 q cc gc ((v201 q cc gc h i (((Ar h 170) (78 + m5)).toNatClampNeg)).2) m5 (((Ar h 170) (78 + m5)).toNatClampNeg)).1)) 0) (162, [some (.ref 162), some (.int x1), some (.int x2), some (.int x3), some (.int x4), some (.int (nI m5)), some (.int (nI i)), some (.int (nI (((Ar h 170) (78 + m5)).toNatClampNeg))), some (.int (nI (((Ar h 170) (78 + i)).toNatClampNeg))), some (.int (((v201 q cc gc h i (((Ar h 170) (78 + m5)).toNatClampNeg)).1) - ((v201 q cc gc ((v201 q cc gc h i (((Ar h 170) (78 + m5)).toNatClampNeg)).2) m5 (((Ar h 170) (78 + m5)).toNatClampNeg)).1))), some (.int (((v201 q cc gc ((v201 q cc gc ((v201 q cc gc h i (((Ar h 170) (78 + m5)).toNatClampNeg)).2) m5 (((Ar h 170) (78 + m5)).toNatClampNeg)).2) m5 (((Ar h 170) (78 + i)).toNatClampNeg)).1) - ((v201 q cc gc ((v201 q cc gc ((v201 q cc gc ((v201 q cc gc h i (((Ar h 170) (78 + m5)).toNatClampNeg)).2) m5 (((Ar h 170) (78 + m5)).toNatClampNeg)).2) m5 (((Ar h 170) (78 + i)).toNatClampNeg)).2) i (((Ar h 170) (78 + i)).toNatClampNeg)).1)))], [], (v201 q cc gc ((v201 q cc gc ((v201 q cc gc ((v201 q cc gc h i (((Ar h 170) (78 + m5)).toNatClampNeg)).2) m5 (((Ar h 170) (78 + m5)).toNatClampNeg)).2) m5 (((Ar h 170) (78 + i)).toNatClampNeg)).2) i (((Ar h 170) (78 + i)).toNatClampNeg)).2, 198, sl) (162, [some (.ref 162), some (.int (cond (pm_cmp .le (((v201 q cc gc ((v201 q cc gc ((v201 q cc gc h i (((Ar h 170) (78 + m5)).toNatClampNeg)).2) m5 (((Ar h 170) (78 + m5)).toNatClampNeg)).2) m5 (((Ar h 170) (78 + i)).toNatClampNeg)).1) - ((v201 q cc gc ((v201 q cc gc ((v201 q cc gc ((v201 q cc gc h i (((Ar h 170) (78 + m5)).toNatClampNeg)).2) m5 (((Ar h 170) (78 + m5)).toNatClampNeg)).2) m5 (((Ar h 170) (78 + i)).toNatClampNeg)).2) i (((Ar h 170) (78 + i)).toNatClampNeg)).1)) 0) x1 (x1 + Int32.ofInt 1))), some (.int (cond (pm_cmp .le (((v201 q cc gc ((v201 q cc gc ((v201 q cc gc h i (((Ar h 170) (78 + m5)).toNatClampNeg)).2) m5 (((Ar h 170) (78 + m5)).toNatClampNeg)).2) m5 (((Ar h 170) (78 + i)).toNatClampNeg)).1) - ((v201 q cc gc ((v201 q cc gc ((v201 q cc gc ((v201 q cc gc h i (((Ar h 170) (78 + m5)).toNatClampNeg)).2) m5 (((Ar h 170) (78 + m5)).toNatClampNeg)).2) m5 (((Ar h 170) (78 + i)).toNatClampNeg)).2) i (((Ar h 170) (78 + i)).toNatClampNeg)).1)) 0) x2 (cond (pm_cmp .le ((((v201 q cc gc h i (((Ar h 170) (78 + m5)).toNatClampNeg)).1) - ((v201 q cc gc ((v201 q cc gc h i (((Ar h 170) (78 + m5)).toNatClampNeg)).2) m5 (((Ar h 170) (78 + m5)).toNatClampNeg)).1)) + (((v201 q cc gc ((v201 q cc gc ((v201 q cc gc h i (((Ar h 170) (78 + m5)).toNatClampNeg)).2) m5 (((Ar h 170) (78 + m5)).toNatClampNeg)).2) m5 (((Ar h 170) (78 + i)).toNatClampNeg)).1) - ((v201 q cc gc ((v201 q cc gc ((v201 q cc gc ((v201 q cc gc h i (((Ar h 170) (78 + m5)).toNatClampNeg)).2) m5 (((Ar h 170) (78 + m5)).toNatClampNeg)).2) m5 (((Ar h 170) (78 + i)).toNatClampNeg)).2) i (((Ar h 170) (78 + i)).toNatClampNeg)).1))) x4) x2 (nI m5)))), some (.int (cond (pm_cmp .le (((v201 q cc gc ((v201 q cc gc ((v201 q cc gc h i (((Ar h 170) (78 + m5)).toNatClampNeg)).2) m5 (((Ar h 170) (78 + m5)).toNatClampNeg)).2) m5 (((Ar h 170) (78 + i)).toNatClampNeg)).1) - ((v201 q cc gc ((v201 q cc gc ((v201 q cc gc ((v201 q cc gc h i (((Ar h 170) (78 + m5)).toNatClampNeg)).2) m5 (((Ar h 170) (78 + m5)).toNatClampNeg)).2) m5 (((Ar h 170) (78 + i)).toNatClampNeg)).2) i (((Ar h 170) (78 + i)).toNatClampNeg)).1)) 0) x3 (cond (pm_cmp .le ((((v201 q cc gc h i (((Ar h 170) (78 + m5)).toNatClampNeg)).1) - ((v201 q cc gc ((v201 q cc gc h i (((Ar h 170) (78 + m5)).toNatClampNeg)).2) m5 (((Ar h 170) (78 + m5)).toNatClampNeg)).1)) + (((v201 q cc gc ((v201 q cc gc ((v201 q cc gc h i (((Ar h 170) (78 + m5)).toNatClampNeg)).2) m5 (((Ar h 170) (78 + m5)).toNatClampNeg)).2) m5 (((Ar h 170) (78 + i)).toNatClampNeg)).1) - ((v201 q cc gc ((v201 q cc gc ((v201 q cc gc ((v201 q cc gc h i (((Ar h 170) (78 + m5)).toNatClampNeg)).2) m5 (((Ar h 170) (78 + m5)).toNatClampNeg)).2) m5 (((Ar h 170) (78 + i)).toNatClampNeg)).2) i (((Ar h 170) (78 + i)).toNatClampNeg)).1))) x4) x3 (nI i)))), some (.int (cond (pm_cmp .le (((v201 q cc gc ((v201 q cc gc ((v201 q cc gc h i (((Ar h 170) (78 + m5)).toNatClampNeg)).2) m5 (((Ar h 170) (78 + m5)).toNatClampNeg)).2) m5 (((Ar h 170) (78 + i)).toNatClampNeg)).1) - ((v201 q cc gc ((v201 q cc gc ((v201 q cc gc ((v201 q cc gc h i (((Ar h 170) (78 + m5)).toNatClampNeg)).2) m5 (((Ar h 170) (78 + m5)).toNatClampNeg)).2) m5 (((Ar h 170) (78 + i)).toNatClampNeg)).2) i (((Ar h 170) (78 + i)).toNatClampNeg)).1)) 0) x4 (cond (pm_cmp .le ((((v201 q cc gc h i (((Ar h 170) (78 + m5)).toNatClampNeg)).1) - ((v201 q cc gc ((v201 q cc gc h i (((Ar h 170) (78 + m5)).toNatClampNeg)).2) m5 (((Ar h 170) (78 + m5)).toNatClampNeg)).1)) + (((v201 q cc gc ((v201 q cc gc ((v201 q cc gc h i (((Ar h 170) (78 + m5)).toNatClampNeg)).2) m5 (((Ar h 170) (78 + m5)).toNatClampNeg)).2) m5 (((Ar h 170) (78 + i)).toNatClampNeg)).1) - ((v201 q cc gc ((v201 q cc gc ((v201 q cc gc ((v201 q cc gc h i (((Ar h 170) (78 + m5)).toNatClampNeg)).2) m5 (((Ar h 170) (78 + m5)).toNatClampNeg)).2) m5 (((Ar h 170) (78 + i)).toNatClampNeg)).2) i (((Ar h 170) (78 + i)).toNatClampNeg)).1))) x4) x4 ((((v201 q cc gc h i (((Ar h 170) (78 + m5)).toNatClampNeg)).1) - ((v201 q cc gc ((v201 q cc gc h i (((Ar h 170) (78 + m5)).toNatClampNeg)).2) m5 (((Ar h 170) (78 + m5)).toNatClampNeg)).1)) + (((v201 q cc gc ((v201 q cc gc ((v201 q cc gc h i (((Ar h 170) (78 + m5)).toNatClampNeg)).2) m5 (((Ar h 170) (78 + m5)).toNatClampNeg)).2) m5 (((Ar h 170) (78 + i)).toNatClampNeg)).1) - ((v201 q cc gc ((v201 q cc gc ((v201 q cc gc ((v201 q cc gc h i (((Ar h 170) (78 + m5)).toNatClampNeg)).2) m5 (((Ar h 170) (78 + m5)).toNatClampNeg)).2) m5 (((Ar h 170) (78 + i)).toNatClampNeg)).2) i (((Ar h 170) (78 + i)).toNatClampNeg)).1)))))), some (.int (nI m5)), some (.int (nI i)), some (.int (nI (((Ar h 170) (78 + m5)).toNatClampNeg))), some (.int (nI (((Ar h 170) (78 + i)).toNatClampNeg))), some (.int (((v201 q cc gc h i (((Ar h 170) (78 + m5)).toNatClampNeg)).1) - ((v201 q cc gc ((v201 q cc gc h i (((Ar h 170) (78 + m5)).toNatClampNeg)).2) m5 (((Ar h 170) (78 + m5)).toNatClampNeg)).1))), some (.int (((v201 q cc gc ((v201 q cc gc ((v201 q cc gc h i (((Ar h 170) (78 + m5)).toNatClampNeg)).2) m5 (((Ar h 170) (78 + m5)).toNatClampNeg)).2) m5 (((Ar h 170) (78 + i)).toNatClampNeg)).1) - ((v201 q cc gc ((v201 q cc gc ((v201 q cc gc ((v201 q cc gc h i (((Ar h 170) (78 + m5)).toNatClampNeg)).2) m5 (((Ar h 170) (78 + m5)).toNatClampNeg)).2) m5 (((Ar h 170) (78 + i)).toNatClampNeg)).2) i (((Ar h 170) (78 + i)).toNatClampNeg)).1)))], [], (v201 q cc gc ((v201 q cc gc ((v201 q cc gc ((v201 q cc gc h i (((Ar h 170) (78 + m5)).toNatClampNeg)).2) m5 (((Ar h 170) (78 + m5)).toNatClampNeg)).2) m5 (((Ar h 170) (78 + i)).toNatClampNeg)).2) i (((Ar h 170) (78 + i)).toNatClampNeg)).2, 198, sl) : pm_St) = (162, [some (.ref 162), some (.int (cond (pm_cmp .le (((v201 q cc gc h i (((Ar h 170) (78 + m5)).toNatClampNeg)).1) - ((v201 q cc gc ((v201 q cc gc h i (((Ar h 170) (78 + m5)).toNatClampNeg)).2) m5 (((Ar h 170) (78 + m5)).toNatClampNeg)).1)) 0) x1 (cond (pm_cmp .le (((v201 q cc gc ((v201 q cc gc ((v201 q cc gc h i (((Ar h 170) (78 + m5)).toNatClampNeg)).2) m5 (((Ar h 170) (78 + m5)).toNatClampNeg)).2) m5 (((Ar h 170) (78 + i)).toNatClampNeg)).1) - ((v201 q cc gc ((v201 q cc gc ((v201 q cc gc ((v201 q cc gc h i (((Ar h 170) (78 + m5)).toNatClampNeg)).2) m5 (((Ar h 170) (78 + m5)).toNatClampNeg)).2) m5 (((Ar h 170) (78 + i)).toNatClampNeg)).2) i (((Ar h 170) (78 + i)).toNatClampNeg)).1)) 0) x1 (x1 + Int32.ofInt 1)))), some (.int (cond (pm_cmp .le (((v201 q cc gc h i (((Ar h 170) (78 + m5)).toNatClampNeg)).1) - ((v201 q cc gc ((v201 q cc gc h i (((Ar h 170) (78 + m5)).toNatClampNeg)).2) m5 (((Ar h 170) (78 + m5)).toNatClampNeg)).1)) 0) x2 (cond (pm_cmp .le (((v201 q cc gc ((v201 q cc gc ((v201 q cc gc h i (((Ar h 170) (78 + m5)).toNatClampNeg)).2) m5 (((Ar h 170) (78 + m5)).toNatClampNeg)).2) m5 (((Ar h 170) (78 + i)).toNatClampNeg)).1) - ((v201 q cc gc ((v201 q cc gc ((v201 q cc gc ((v201 q cc gc h i (((Ar h 170) (78 + m5)).toNatClampNeg)).2) m5 (((Ar h 170) (78 + m5)).toNatClampNeg)).2) m5 (((Ar h 170) (78 + i)).toNatClampNeg)).2) i (((Ar h 170) (78 + i)).toNatClampNeg)).1)) 0) x2 (cond (pm_cmp .le ((((v201 q cc gc h i (((Ar h 170) (78 + m5)).toNatClampNeg)).1) - ((v201 q cc gc ((v201 q cc gc h i (((Ar h 170) (78 + m5)).toNatClampNeg)).2) m5 (((Ar h 170) (78 + m5)).toNatClampNeg)).1)) + (((v201 q cc gc ((v201 q cc gc ((v201 q cc gc h i (((Ar h 170) (78 + m5)).toNatClampNeg)).2) m5 (((Ar h 170) (78 + m5)).toNatClampNeg)).2) m5 (((Ar h 170) (78 + i)).toNatClampNeg)).1) - ((v201 q cc gc ((v201 q cc gc ((v201 q cc gc ((v201 q cc gc h i (((Ar h 170) (78 + m5)).toNatClampNeg)).2) m5 (((Ar h 170) (78 + m5)).toNatClampNeg)).2) m5 (((Ar h 170) (78 + i)).toNatClampNeg)).2) i (((Ar h 170) (78 + i)).toNatClampNeg)).1))) x4) x2 (nI m5))))), some (.int (cond (pm_cmp .le (((v201 q cc gc h i (((Ar h 170) (78 + m5)).toNatClampNeg)).1) - ((v201 q cc gc ((v201 q cc gc h i (((Ar h 170) (78 + m5)).toNatClampNeg)).2) m5 (((Ar h 170) (78 + m5)).toNatClampNeg)).1)) 0) x3 (cond (pm_cmp .le (((v201 q cc gc ((v201 q cc gc ((v201 q cc gc h i (((Ar h 170) (78 + m5)).toNatClampNeg)).2) m5 (((Ar h 170) (78 + m5)).toNatClampNeg)).2) m5 (((Ar h 170) (78 + i)).toNatClampNeg)).1) - ((v201 q cc gc ((v201 q cc gc ((v201 q cc gc ((v201 q cc gc h i (((Ar h 170) (78 + m5)).toNatClampNeg)).2) m5 (((Ar h 170) (78 + m5)).toNatClampNeg)).2) m5 (((Ar h 170) (78 + i)).toNatClampNeg)).2) i (((Ar h 170) (78 + i)).toNatClampNeg)).1)) 0) x3 (cond (pm_cmp .le ((((v201 q cc gc h i (((Ar h 170) (78 + m5)).toNatClampNeg)).1) - ((v201 q cc gc ((v201 q cc gc h i (((Ar h 170) (78 + m5)).toNatClampNeg)).2) m5 (((Ar h 170) (78 + m5)).toNatClampNeg)).1)) + (((v201 q cc gc ((v201 q cc gc ((v201 q cc gc h i (((Ar h 170) (78 + m5)).toNatClampNeg)).2) m5 (((Ar h 170) (78 + m5)).toNatClampNeg)).2) m5 (((Ar h 170) (78 + i)).toNatClampNeg)).1) - ((v201 q cc gc ((v201 q cc gc ((v201 q cc gc ((v201 q cc gc h i (((Ar h 170) (78 + m5)).toNatClampNeg)).2) m5 (((Ar h 170) (78 + m5)).toNatClampNeg)).2) m5 (((Ar h 170) (78 + i)).toNatClampNeg)).2) i (((Ar h 170) (78 + i)).toNatClampNeg)).1))) x4) x3 (nI i))))), some (.int (cond (pm_cmp .le (((v201 q cc gc h i (((Ar h 170) (78 + m5)).toNatClampNeg)).1) - ((v201 q cc gc ((v201 q cc gc h i (((Ar h 170) (78 + m5)).toNatClampNeg)).2) m5 (((Ar h 170) (78 + m5)).toNatClampNeg)).1)) 0) x4 (cond (pm_cmp .le (((v201 q cc gc ((v201 q cc gc ((v201 q cc gc h i (((Ar h 170) (78 + m5)).toNatClampNeg)).2) m5 (((Ar h 170) (78 + m5)).toNatClampNeg)).2) m5 (((Ar h 170) (78 + i)).toNatClampNeg)).1) - ((v201 q cc gc ((v201 q cc gc ((v201 q cc gc ((v201 q cc gc h i (((Ar h 170) (78 + m5)).toNatClampNeg)).2) m5 (((Ar h 170) (78 + m5)).toNatClampNeg)).2) m5 (((Ar h 170) (78 + i)).toNatClampNeg)).2) i (((Ar h 170) (78 + i)).toNatClampNeg)).1)) 0) x4 (cond (pm_cmp .le ((((v201 q cc gc h i (((Ar h 170) (78 + m5)).toNatClampNeg)).1) - ((v201 q cc gc ((v201 q cc gc h i (((Ar h 170) (78 + m5)).toNatClampNeg)).2) m5 (((Ar h 170) (78 + m5)).toNatClampNeg)).1)) + (((v201 q cc gc ((v201 q cc gc ((v201 q cc gc h i (((Ar h 170) (78 + m5)).toNatClampNeg)).2) m5 (((Ar h 170) (78 + m5)).toNatClampNeg)).2) m5 (((Ar h 170) (78 + i)).toNatClampNeg)).1) - ((v201 q cc gc ((v201 q cc gc ((v201 q cc gc ((v201 q cc gc h i (((Ar h 170) (78 + m5)).toNatClampNeg)).2) m5 (((Ar h 170) (78 + m5)).toNatClampNeg)).2) m5 (((Ar h 170) (78 + i)).toNatClampNeg)).2) i (((Ar h 170) (78 + i)).toNatClampNeg)).1))) x4) x4 ((((v201 q cc gc h i (((Ar h 170) (78 + m5)).toNatClampNeg)).1) - ((v201 q cc gc ((v201 q cc gc h i (((Ar h 170) (78 + m5)).toNatClampNeg)).2) m5 (((Ar h 170) (78 + m5)).toNatClampNeg)).1)) + (((v201 q cc gc ((v201 q cc gc ((v201 q cc gc h i (((Ar h 170) (78 + m5)).toNatClampNeg)).2) m5 (((Ar h 170) (78 + m5)).toNatClampNeg)).2) m5 (((Ar h 170) (78 + i)).toNatClampNeg)).1) - ((v201 q cc gc ((v201 q cc gc ((v201 q cc gc ((v201 q cc gc h i (((Ar h 170) (78 + m5)).toNatClampNeg)).2) m5 (((Ar h 170) (78 + m5)).toNatClampNeg)).2) m5 (((Ar h 170) (78 + i)).toNatClampNeg)).2) i (((Ar h 170) (78 + i)).toNatClampNeg)).1))))))), some (.int (nI m5)), some (.int (nI i)), some (.int (nI (((Ar h 170) (78 + m5)).toNatClampNeg))), some (.int (nI (((Ar h 170) (78 + i)).toNatClampNeg))), some (.int (((v201 q cc gc h i (((Ar h 170) (78 + m5)).toNatClampNeg)).1) - ((v201 q cc gc ((v201 q cc gc h i (((Ar h 170) (78 + m5)).toNatClampNeg)).2) m5 (((Ar h 170) (78 + m5)).toNatClampNeg)).1))), some (.int (((v201 q cc gc ((v201 q cc gc ((v201 q cc gc h i (((Ar h 170) (78 + m5)).toNatClampNeg)).2) m5 (((Ar h 170) (78 + m5)).toNatClampNeg)).2) m5 (((Ar h 170) (78 + i)).toNatClampNeg)).1) - ((v201 q cc gc ((v201 q cc gc ((v201 q cc gc ((v201 q cc gc h i (((Ar h 170) (78 + m5)).toNatClampNeg)).2) m5 (((Ar h 170) (78 + m5)).toNatClampNeg)).2) m5 (((Ar h 170) (78 + i)).toNatClampNeg)).2) i (((Ar h 170) (78 + i)).toNatClampNeg)).1)))], [], (v201 q cc gc ((v201 q cc gc ((v201 q cc gc ((v201 q cc gc h i (((Ar h 170) (78 + m5)).toNatClampNeg)).2) m5 (((Ar h 170) (78 + m5)).toNatClampNeg)).2) m5 (((Ar h 170) (78 + i)).toNatClampNeg)).2) i (((Ar h 170) (78 + i)).toNatClampNeg)).2, 198, sl) from by cases (pm_cmp .le (((v201 q cc gc h i (((Ar h 170) (78 + m5)).toNatClampNeg)).1) - ((v201 q cc gc ((v201 q cc gc h i (((Ar h 170) (78 + m5)).toNatClampNeg)).2) m5 (((Ar h 170) (78 + m5)).toNatClampNeg)).1)) 0) <;> rfl] at hh
      exact ⟨n, hh⟩)
  obtain ⟨n, hh⟩ := hj24
  rw [show (cond (decide ((((Ar h 170) (78 + m5)).toNatClampNeg) = (((Ar h 170) (78 + i)).toNatClampNeg))) (162, [some (.ref 162), some (.int x1), some (.int x2), some (.int x3), some (.int x4), some (.int (nI m5)), some (.int (nI i)), some (.int (nI (((Ar h 170) (78 + m5)).toNatClampNeg))), some (.int (nI (((Ar h 170) (78 + i)).toNatClampNeg))), some (.int (((v201 q cc gc h i (((Ar h 170) (78 + m5)).toNatClampNeg)).1) - ((v201 q cc gc ((v201 q cc gc h i (((Ar h 170) (78 + m5)).toNatClampNeg)).2) m5 (((Ar h 170) (78 + m5)).toNatClampNeg)).1))), some (.int (((v201 q cc gc ((v201 q cc gc ((v201 q cc gc h i (((Ar h 170) (78 + m5)).toNatClampNeg)).2) m5 (((Ar h 170) (78 + m5)).toNatClampNeg)).2) m5 (((Ar h 170) (78 + i)).toNatClampNeg)).1) - ((v201 q cc gc ((v201 q cc gc ((v201 q cc gc ((v201 q cc gc h i (((Ar h 170) (78 + m5)).toNatClampNeg)).2) m5 (((Ar h 170) (78 + m5)).toNatClampNeg)).2) m5 (((Ar h 170) (78 + i)).toNatClampNeg)).2) i (((Ar h 170) (78 + i)).toNatClampNeg)).1)))], [], (v201 q cc gc ((v201 q cc gc ((v201 q cc gc ((v201 q cc gc h i (((Ar h 170) (78 + m5)).toNatClampNeg)).2) m5 (((Ar h 170) (78 + m5)).toNatClampNeg)).2) m5 (((Ar h 170) (78 + i)).toNatClampNeg)).2) i (((Ar h 170) (78 + i)).toNatClampNeg)).2, 198, sl) (162, [some (.ref 162), some (.int (cond (pm_cmp .le (((v201 q cc gc h i (((Ar h 170) (78 + m5)).toNatClampNeg)).1) - ((v201 q cc gc ((v201 q cc gc h i (((Ar h 170) (78 + m5)).toNatClampNeg)).2) m5 (((Ar h 170) (78 + m5)).toNatClampNeg)).1)) 0) x1 (cond (pm_cmp .le (((v201 q cc gc ((v201 q cc gc ((v201 q cc gc h i (((Ar h 170) (78 + m5)).toNatClampNeg)).2) m5 (((Ar h 170) (78 + m5)).toNatClampNeg)).2) m5 (((Ar h 170) (78 + i)).toNatClampNeg)).1) - ((v201 q cc gc ((v201 q cc gc ((v201 q cc gc ((v201 q cc gc h i (((Ar h 170) (78 + m5)).toNatClampNeg)).2) m5 (((Ar h 170) (78 + m5)).toNatClampNeg)).2) m5 (((Ar h 170) (78 + i)).toNatClampNeg)).2) i (((Ar h 170) (78 + i)).toNatClampNeg)).1)) 0) x1 (x1 + Int32.ofInt 1)))), some (.int (cond (pm_cmp .le (((v201 q cc gc h i (((Ar h 170) (78 + m5)).toNatClampNeg)).1) - ((v201 q cc gc ((v201 q cc gc h i (((Ar h 170) (78 + m5)).toNatClampNeg)).2) m5 (((Ar h 170) (78 + m5)).toNatClampNeg)).1)) 0) x2 (cond (pm_cmp .le (((v201 q cc gc ((v201 q cc gc ((v201 q cc gc h i (((Ar h 170) (78 + m5)).toNatClampNeg)).2) m5 (((Ar h 170) (78 + m5)).toNatClampNeg)).2) m5 (((Ar h 170) (78 + i)).toNatClampNeg)).1) - ((v201 q cc gc ((v201 q cc gc ((v201 q cc gc ((v201 q cc gc h i (((Ar h 170) (78 + m5)).toNatClampNeg)).2) m5 (((Ar h 170) (78 + m5)).toNatClampNeg)).2) m5 (((Ar h 170) (78 + i)).toNatClampNeg)).2) i (((Ar h 170) (78 + i)).toNatClampNeg)).1)) 0) x2 (cond (pm_cmp .le ((((v201 q cc gc h i (((Ar h 170) (78 + m5)).toNatClampNeg)).1) - ((v201 q cc gc ((v201 q cc gc h i (((Ar h 170) (78 + m5)).toNatClampNeg)).2) m5 (((Ar h 170) (78 + m5)).toNatClampNeg)).1)) + (((v201 q cc gc ((v201 q cc gc ((v201 q cc gc h i (((Ar h 170) (78 + m5)).toNatClampNeg)).2) m5 (((Ar h 170) (78 + m5)).toNatClampNeg)).2) m5 (((Ar h 170) (78 + i)).toNatClampNeg)).1) - ((v201 q cc gc ((v201 q cc gc ((v201 q cc gc ((v201 q cc gc h i (((Ar h 170) (78 + m5)).toNatClampNeg)).2) m5 (((Ar h 170) (78 + m5)).toNatClampNeg)).2) m5 (((Ar h 170) (78 + i)).toNatClampNeg)).2) i (((Ar h 170) (78 + i)).toNatClampNeg)).1))) x4) x2 (nI m5))))), some (.int (cond (pm_cmp .le (((v201 q cc gc h i (((Ar h 170) (78 + m5)).toNatClampNeg)).1) - ((v201 q cc gc ((v201 q cc gc h i (((Ar h 170) (78 + m5)).toNatClampNeg)).2) m5 (((Ar h 170) (78 + m5)).toNatClampNeg)).1)) 0) x3 (cond (pm_cmp .le (((v201 q cc gc ((v201 q cc gc ((v201 q cc gc h i (((Ar h 170) (78 + m5)).toNatClampNeg)).2) m5 (((Ar h 170) (78 + m5)).toNatClampNeg)).2) m5 (((Ar h 170) (78 + i)).toNatClampNeg)).1) - ((v201 q cc gc ((v201 q cc gc ((v201 q cc gc ((v201 q cc gc h i (((Ar h 170) (78 + m5)).toNatClampNeg)).2) m5 (((Ar h 170) (78 + m5)).toNatClampNeg)).2) m5 (((Ar h 170) (78 + i)).toNatClampNeg)).2) i (((Ar h 170) (78 + i)).toNatClampNeg)).1)) 0) x3 (cond (pm_cmp .le ((((v201 q cc gc h i (((Ar h 170) (78 + m5)).toNatClampNeg)).1) - ((v201 q cc gc ((v201 q cc gc h i (((Ar h 170) (78 + m5)).toNatClampNeg)).2) m5 (((Ar h 170) (78 + m5)).toNatClampNeg)).1)) + (((v201 q cc gc ((v201 q cc gc ((v201 q cc gc h i (((Ar h 170) (78 + m5)).toNatClampNeg)).2) m5 (((Ar h 170) (78 + m5)).toNatClampNeg)).2) m5 (((Ar h 170) (78 + i)).toNatClampNeg)).1) - ((v201 q cc gc ((v201 q cc gc ((v201 q cc gc ((v201 q cc gc h i (((Ar h 170) (78 + m5)).toNatClampNeg)).2) m5 (((Ar h 170) (78 + m5)).toNatClampNeg)).2) m5 (((Ar h 170) (78 + i)).toNatClampNeg)).2) i (((Ar h 170) (78 + i)).toNatClampNeg)).1))) x4) x3 (nI i))))), some (.int (cond (pm_cmp .le (((v201 q cc gc h i (((Ar h 170) (78 + m5)).toNatClampNeg)).1) - ((v201 q cc gc ((v201 q cc gc h i (((Ar h 170) (78 + m5)).toNatClampNeg)).2) m5 (((Ar h 170) (78 + m5)).toNatClampNeg)).1)) 0) x4 (cond (pm_cmp .le (((v201 q cc gc ((v201 q cc gc ((v201 q cc gc h i (((Ar h 170) (78 + m5)).toNatClampNeg)).2) m5 (((Ar h 170) (78 + m5)).toNatClampNeg)).2) m5 (((Ar h 170) (78 + i)).toNatClampNeg)).1) - ((v201 q cc gc ((v201 q cc gc ((v201 q cc gc ((v201 q cc gc h i (((Ar h 170) (78 + m5)).toNatClampNeg)).2) m5 (((Ar h 170) (78 + m5)).toNatClampNeg)).2) m5 (((Ar h 170) (78 + i)).toNatClampNeg)).2) i (((Ar h 170) (78 + i)).toNatClampNeg)).1)) 0) x4 (cond (pm_cmp .le ((((v201 q cc gc h i (((Ar h 170) (78 + m5)).toNatClampNeg)).1) - ((v201 q cc gc ((v201 q cc gc h i (((Ar h 170) (78 + m5)).toNatClampNeg)).2) m5 (((Ar h 170) (78 + m5)).toNatClampNeg)).1)) + (((v201 q cc gc ((v201 q cc gc ((v201 q cc gc h i (((Ar h 170) (78 + m5)).toNatClampNeg)).2) m5 (((Ar h 170) (78 + m5)).toNatClampNeg)).2) m5 (((Ar h 170) (78 + i)).toNatClampNeg)).1) - ((v201 q cc gc ((v201 q cc gc ((v201 q cc gc ((v201 q cc gc h i (((Ar h 170) (78 + m5)).toNatClampNeg)).2) m5 (((Ar h 170) (78 + m5)).toNatClampNeg)).2) m5 (((Ar h 170) (78 + i)).toNatClampNeg)).2) i (((Ar h 170) (78 + i)).toNatClampNeg)).1))) x4) x4 ((((v201 q cc gc h i (((Ar h 170) (78 + m5)).toNatClampNeg)).1) - ((v201 q cc gc ((v201 q cc gc h i (((Ar h 170) (78 + m5)).toNatClampNeg)).2) m5 (((Ar h 170) (78 + m5)).toNatClampNeg)).1)) + (((v201 q cc gc ((v201 q cc gc ((v201 q cc gc h i (((Ar h 170) (78 + m5)).toNatClampNeg)).2) m5 (((Ar h 170) (78 + m5)).toNatClampNeg)).2) m5 (((Ar h 170) (78 + i)).toNatClampNeg)).1) - ((v201 q cc gc ((v201 q cc gc ((v201 q cc gc ((v201 q cc gc h i (((Ar h 170) (78 + m5)).toNatClampNeg)).2) m5 (((Ar h 170) (78 + m5)).toNatClampNeg)).2) m5 (((Ar h 170) (78 + i)).toNatClampNeg)).2) i (((Ar h 170) (78 + i)).toNatClampNeg)).1))))))), some (.int (nI m5)), some (.int (nI i)), some (.int (nI (((Ar h 170) (78 + m5)).toNatClampNeg))), some (.int (nI (((Ar h 170) (78 + i)).toNatClampNeg))), some (.int (((v201 q cc gc h i (((Ar h 170) (78 + m5)).toNatClampNeg)).1) - ((v201 q cc gc ((v201 q cc gc h i (((Ar h 170) (78 + m5)).toNatClampNeg)).2) m5 (((Ar h 170) (78 + m5)).toNatClampNeg)).1))), some (.int (((v201 q cc gc ((v201 q cc gc ((v201 q cc gc h i (((Ar h 170) (78 + m5)).toNatClampNeg)).2) m5 (((Ar h 170) (78 + m5)).toNatClampNeg)).2) m5 (((Ar h 170) (78 + i)).toNatClampNeg)).1) - ((v201 q cc gc ((v201 q cc gc ((v201 q cc gc ((v201 q cc gc h i (((Ar h 170) (78 + m5)).toNatClampNeg)).2) m5 (((Ar h 170) (78 + m5)).toNatClampNeg)).2) m5 (((Ar h 170) (78 + i)).toNatClampNeg)).2) i (((Ar h 170) (78 + i)).toNatClampNeg)).1)))], [], (v201 q cc gc ((v201 q cc gc ((v201 q cc gc ((v201 q cc gc h i (((Ar h 170) (78 + m5)).toNatClampNeg)).2) m5 (((Ar h 170) (78 + m5)).toNatClampNeg)).2) m5 (((Ar h 170) (78 + i)).toNatClampNeg)).2) i (((Ar h 170) (78 + i)).toNatClampNeg)).2, 198, sl) : pm_St) = (162, [some (.ref 162), some (.int (cond (decide ((((Ar h 170) (78 + m5)).toNatClampNeg) = (((Ar h 170) (78 + i)).toNatClampNeg))) x1 (cond (pm_cmp .le (((v201 q cc gc h i (((Ar h 170) (78 + m5)).toNatClampNeg)).1) - ((v201 q cc gc ((v201 q cc gc h i (((Ar h 170) (78 + m5)).toNatClampNeg)).2) m5 (((Ar h 170) (78 + m5)).toNatClampNeg)).1)) 0) x1 (cond (pm_cmp .le (((v201 q cc gc ((v201 q cc gc ((v201 q cc gc h i (((Ar h 170) (78 + m5)).toNatClampNeg)).2) m5 (((Ar h 170) (78 + m5)).toNatClampNeg)).2) m5 (((Ar h 170) (78 + i)).toNatClampNeg)).1) - ((v201 q cc gc ((v201 q cc gc ((v201 q cc gc ((v201 q cc gc h i (((Ar h 170) (78 + m5)).toNatClampNeg)).2) m5 (((Ar h 170) (78 + m5)).toNatClampNeg)).2) m5 (((Ar h 170) (78 + i)).toNatClampNeg)).2) i (((Ar h 170) (78 + i)).toNatClampNeg)).1)) 0) x1 (x1 + Int32.ofInt 1))))), some (.int (cond (decide ((((Ar h 170) (78 + m5)).toNatClampNeg) = (((Ar h 170) (78 + i)).toNatClampNeg))) x2 (cond (pm_cmp .le (((v201 q cc gc h i (((Ar h 170) (78 + m5)).toNatClampNeg)).1) - ((v201 q cc gc ((v201 q cc gc h i (((Ar h 170) (78 + m5)).toNatClampNeg)).2) m5 (((Ar h 170) (78 + m5)).toNatClampNeg)).1)) 0) x2 (cond (pm_cmp .le (((v201 q cc gc ((v201 q cc gc ((v201 q cc gc h i (((Ar h 170) (78 + m5)).toNatClampNeg)).2) m5 (((Ar h 170) (78 + m5)).toNatClampNeg)).2) m5 (((Ar h 170) (78 + i)).toNatClampNeg)).1) - ((v201 q cc gc ((v201 q cc gc ((v201 q cc gc ((v201 q cc gc h i (((Ar h 170) (78 + m5)).toNatClampNeg)).2) m5 (((Ar h 170) (78 + m5)).toNatClampNeg)).2) m5 (((Ar h 170) (78 + i)).toNatClampNeg)).2) i (((Ar h 170) (78 + i)).toNatClampNeg)).1)) 0) x2 (cond (pm_cmp .le ((((v201 q cc gc h i (((Ar h 170) (78 + m5)).toNatClampNeg)).1) - ((v201 q cc gc ((v201 q cc gc h i (((Ar h 170) (78 + m5)).toNatClampNeg)).2) m5 (((Ar h 170) (78 + m5)).toNatClampNeg)).1)) + (((v201 q cc gc ((v201 q cc gc ((v201 q cc gc h i (((Ar h 170) (78 + m5)).toNatClampNeg)).2) m5 (((Ar h 170) (78 + m5)).toNatClampNeg)).2) m5 (((Ar h 170) (78 + i)).toNatClampNeg)).1) - ((v201 q cc gc ((v201 q cc gc ((v201 q cc gc ((v201 q cc gc h i (((Ar h 170) (78 + m5)).toNatClampNeg)).2) m5 (((Ar h 170) (78 + m5)).toNatClampNeg)).2) m5 (((Ar h 170) (78 + i)).toNatClampNeg)).2) i (((Ar h 170) (78 + i)).toNatClampNeg)).1))) x4) x2 (nI m5)))))), some (.int (cond (decide ((((Ar h 170) (78 + m5)).toNatClampNeg) = (((Ar h 170) (78 + i)).toNatClampNeg))) x3 (cond (pm_cmp .le (((v201 q cc gc h i (((Ar h 170) (78 + m5)).toNatClampNeg)).1) - ((v201 q cc gc ((v201 q cc gc h i (((Ar h 170) (78 + m5)).toNatClampNeg)).2) m5 (((Ar h 170) (78 + m5)).toNatClampNeg)).1)) 0) x3 (cond (pm_cmp .le (((v201 q cc gc ((v201 q cc gc ((v201 q cc gc h i (((Ar h 170) (78 + m5)).toNatClampNeg)).2) m5 (((Ar h 170) (78 + m5)).toNatClampNeg)).2) m5 (((Ar h 170) (78 + i)).toNatClampNeg)).1) - ((v201 q cc gc ((v201 q cc gc ((v201 q cc gc ((v201 q cc gc h i (((Ar h 170) (78 + m5)).toNatClampNeg)).2) m5 (((Ar h 170) (78 + m5)).toNatClampNeg)).2) m5 (((Ar h 170) (78 + i)).toNatClampNeg)).2) i (((Ar h 170) (78 + i)).toNatClampNeg)).1)) 0) x3 (cond (pm_cmp .le ((((v201 q cc gc h i (((Ar h 170) (78 + m5)).toNatClampNeg)).1) - ((v201 q cc gc ((v201 q cc gc h i (((Ar h 170) (78 + m5)).toNatClampNeg)).2) m5 (((Ar h 170) (78 + m5)).toNatClampNeg)).1)) + (((v201 q cc gc ((v201 q cc gc ((v201 q cc gc h i (((Ar h 170) (78 + m5)).toNatClampNeg)).2) m5 (((Ar h 170) (78 + m5)).toNatClampNeg)).2) m5 (((Ar h 170) (78 + i)).toNatClampNeg)).1) - ((v201 q cc gc ((v201 q cc gc ((v201 q cc gc ((v201 q cc gc h i (((Ar h 170) (78 + m5)).toNatClampNeg)).2) m5 (((Ar h 170) (78 + m5)).toNatClampNeg)).2) m5 (((Ar h 170) (78 + i)).toNatClampNeg)).2) i (((Ar h 170) (78 + i)).toNatClampNeg)).1))) x4) x3 (nI i)))))), some (.int (cond (decide ((((Ar h 170) (78 + m5)).toNatClampNeg) = (((Ar h 170) (78 + i)).toNatClampNeg))) x4 (cond (pm_cmp .le (((v201 q cc gc h i (((Ar h 170) (78 + m5)).toNatClampNeg)).1) - ((v201 q cc gc ((v201 q cc gc h i (((Ar h 170) (78 + m5)).toNatClampNeg)).2) m5 (((Ar h 170) (78 + m5)).toNatClampNeg)).1)) 0) x4 (cond (pm_cmp .le (((v201 q cc gc ((v201 q cc gc ((v201 q cc gc h i (((Ar h 170) (78 + m5)).toNatClampNeg)).2) m5 (((Ar h 170) (78 + m5)).toNatClampNeg)).2) m5 (((Ar h 170) (78 + i)).toNatClampNeg)).1) - ((v201 q cc gc ((v201 q cc gc ((v201 q cc gc ((v201 q cc gc h i (((Ar h 170) (78 + m5)).toNatClampNeg)).2) m5 (((Ar h 170) (78 + m5)).toNatClampNeg)).2) m5 (((Ar h 170) (78 + i)).toNatClampNeg)).2) i (((Ar h 170) (78 + i)).toNatClampNeg)).1)) 0) x4 (cond (pm_cmp .le ((((v201 q cc gc h i (((Ar h 170) (78 + m5)).toNatClampNeg)).1) - ((v201 q cc gc ((v201 q cc gc h i (((Ar h 170) (78 + m5)).toNatClampNeg)).2) m5 (((Ar h 170) (78 + m5)).toNatClampNeg)).1)) + (((v201 q cc gc ((v201 q cc gc ((v201 q cc gc h i (((Ar h 170) (78 + m5)).toNatClampNeg)).2) m5 (((Ar h 170) (78 + m5)).toNatClampNeg)).2) m5 (((Ar h 170) (78 + i)).toNatClampNeg)).1) - ((v201 q cc gc ((v201 q cc gc ((v201 q cc gc ((v201 q cc gc h i (((Ar h 170) (78 + m5)).toNatClampNeg)).2) m5 (((Ar h 170) (78 + m5)).toNatClampNeg)).2) m5 (((Ar h 170) (78 + i)).toNatClampNeg)).2) i (((Ar h 170) (78 + i)).toNatClampNeg)).1))) x4) x4 ((((v201 q cc gc h i (((Ar h 170) (78 + m5)).toNatClampNeg)).1) - ((v201 q cc gc ((v201 q cc gc h i (((Ar h 170) (78 + m5)).toNatClampNeg)).2) m5 (((Ar h 170) (78 + m5)).toNatClampNeg)).1)) + (((v201 q cc gc ((v201 q cc gc ((v201 q cc gc h i (((Ar h 170) (78 + m5)).toNatClampNeg)).2) m5 (((Ar h 170) (78 + m5)).toNatClampNeg)).2) m5 (((Ar h 170) (78 + i)).toNatClampNeg)).1) - ((v201 q cc gc ((v201 q cc gc ((v201 q cc gc ((v201 q cc gc h i (((Ar h 170) (78 + m5)).toNatClampNeg)).2) m5 (((Ar h 170) (78 + m5)).toNatClampNeg)).2) m5 (((Ar h 170) (78 + i)).toNatClampNeg)).2) i (((Ar h 170) (78 + i)).toNatClampNeg)).1)))))))), some (.int (nI m5)), some (.int (nI i)), some (.int (nI (((Ar h 170) (78 + m5)).toNatClampNeg))), some (.int (nI (((Ar h 170) (78 + i)).toNatClampNeg))), some (.int (((v201 q cc gc h i (((Ar h 170) (78 + m5)).toNatClampNeg)).1) - ((v201 q cc gc ((v201 q cc gc h i (((Ar h 170) (78 + m5)).toNatClampNeg)).2) m5 (((Ar h 170) (78 + m5)).toNatClampNeg)).1))), some (.int (((v201 q cc gc ((v201 q cc gc ((v201 q cc gc h i (((Ar h 170) (78 + m5)).toNatClampNeg)).2) m5 (((Ar h 170) (78 + m5)).toNatClampNeg)).2) m5 (((Ar h 170) (78 + i)).toNatClampNeg)).1) - ((v201 q cc gc ((v201 q cc gc ((v201 q cc gc ((v201 q cc gc h i (((Ar h 170) (78 + m5)).toNatClampNeg)).2) m5 (((Ar h 170) (78 + m5)).toNatClampNeg)).2) m5 (((Ar h 170) (78 + i)).toNatClampNeg)).2) i (((Ar h 170) (78 + i)).toNatClampNeg)).1)))], [], (v201 q cc gc ((v201 q cc gc ((v201 q cc gc ((v201 q cc gc h i (((Ar h 170) (78 + m5)).toNatClampNeg)).2) m5 (((Ar h 170) (78 + m5)).toNatClampNeg)).2) m5 (((Ar h 170) (78 + i)).toNatClampNeg)).2) i (((Ar h 170) (78 + i)).toNatClampNeg)).2, 198, sl) from by cases (decide ((((Ar h 170) (78 + m5)).toNatClampNeg) = (((Ar h 170) (78 + i)).toNatClampNeg))) <;> rfl] at hh
  have hh : pm_run PT n fr lo 236 (162, [some (.ref 162), some (.int (cond (decide ((((Ar h 170) (78 + m5)).toNatClampNeg) = (((Ar h 170) (78 + i)).toNatClampNeg))) x1 (cond (pm_cmp .le (((v201 q cc gc h i (((Ar h 170) (78 + m5)).toNatClampNeg)).1) - ((v201 q cc gc ((v201 q cc gc h i (((Ar h 170) (78 + m5)).toNatClampNeg)).2) m5 (((Ar h 170) (78 + m5)).toNatClampNeg)).1)) 0) x1 (cond (pm_cmp .le (((v201 q cc gc ((v201 q cc gc ((v201 q cc gc h i (((Ar h 170) (78 + m5)).toNatClampNeg)).2) m5 (((Ar h 170) (78 + m5)).toNatClampNeg)).2) m5 (((Ar h 170) (78 + i)).toNatClampNeg)).1) - ((v201 q cc gc ((v201 q cc gc ((v201 q cc gc ((v201 q cc gc h i (((Ar h 170) (78 + m5)).toNatClampNeg)).2) m5 (((Ar h 170) (78 + m5)).toNatClampNeg)).2) m5 (((Ar h 170) (78 + i)).toNatClampNeg)).2) i (((Ar h 170) (78 + i)).toNatClampNeg)).1)) 0) x1 (x1 + Int32.ofInt 1))))), some (.int (cond (decide ((((Ar h 170) (78 + m5)).toNatClampNeg) = (((Ar h 170) (78 + i)).toNatClampNeg))) x2 (cond (pm_cmp .le (((v201 q cc gc h i (((Ar h 170) (78 + m5)).toNatClampNeg)).1) - ((v201 q cc gc ((v201 q cc gc h i (((Ar h 170) (78 + m5)).toNatClampNeg)).2) m5 (((Ar h 170) (78 + m5)).toNatClampNeg)).1)) 0) x2 (cond (pm_cmp .le (((v201 q cc gc ((v201 q cc gc ((v201 q cc gc h i (((Ar h 170) (78 + m5)).toNatClampNeg)).2) m5 (((Ar h 170) (78 + m5)).toNatClampNeg)).2) m5 (((Ar h 170) (78 + i)).toNatClampNeg)).1) - ((v201 q cc gc ((v201 q cc gc ((v201 q cc gc ((v201 q cc gc h i (((Ar h 170) (78 + m5)).toNatClampNeg)).2) m5 (((Ar h 170) (78 + m5)).toNatClampNeg)).2) m5 (((Ar h 170) (78 + i)).toNatClampNeg)).2) i (((Ar h 170) (78 + i)).toNatClampNeg)).1)) 0) x2 (cond (pm_cmp .le ((((v201 q cc gc h i (((Ar h 170) (78 + m5)).toNatClampNeg)).1) - ((v201 q cc gc ((v201 q cc gc h i (((Ar h 170) (78 + m5)).toNatClampNeg)).2) m5 (((Ar h 170) (78 + m5)).toNatClampNeg)).1)) + (((v201 q cc gc ((v201 q cc gc ((v201 q cc gc h i (((Ar h 170) (78 + m5)).toNatClampNeg)).2) m5 (((Ar h 170) (78 + m5)).toNatClampNeg)).2) m5 (((Ar h 170) (78 + i)).toNatClampNeg)).1) - ((v201 q cc gc ((v201 q cc gc ((v201 q cc gc ((v201 q cc gc h i (((Ar h 170) (78 + m5)).toNatClampNeg)).2) m5 (((Ar h 170) (78 + m5)).toNatClampNeg)).2) m5 (((Ar h 170) (78 + i)).toNatClampNeg)).2) i (((Ar h 170) (78 + i)).toNatClampNeg)).1))) x4) x2 (nI m5)))))), some (.int (cond (decide ((((Ar h 170) (78 + m5)).toNatClampNeg) = (((Ar h 170) (78 + i)).toNatClampNeg))) x3 (cond (pm_cmp .le (((v201 q cc gc h i (((Ar h 170) (78 + m5)).toNatClampNeg)).1) - ((v201 q cc gc ((v201 q cc gc h i (((Ar h 170) (78 + m5)).toNatClampNeg)).2) m5 (((Ar h 170) (78 + m5)).toNatClampNeg)).1)) 0) x3 (cond (pm_cmp .le (((v201 q cc gc ((v201 q cc gc ((v201 q cc gc h i (((Ar h 170) (78 + m5)).toNatClampNeg)).2) m5 (((Ar h 170) (78 + m5)).toNatClampNeg)).2) m5 (((Ar h 170) (78 + i)).toNatClampNeg)).1) - ((v201 q cc gc ((v201 q cc gc ((v201 q cc gc ((v201 q cc gc h i (((Ar h 170) (78 + m5)).toNatClampNeg)).2) m5 (((Ar h 170) (78 + m5)).toNatClampNeg)).2) m5 (((Ar h 170) (78 + i)).toNatClampNeg)).2) i (((Ar h 170) (78 + i)).toNatClampNeg)).1)) 0) x3 (cond (pm_cmp .le ((((v201 q cc gc h i (((Ar h 170) (78 + m5)).toNatClampNeg)).1) - ((v201 q cc gc ((v201 q cc gc h i (((Ar h 170) (78 + m5)).toNatClampNeg)).2) m5 (((Ar h 170) (78 + m5)).toNatClampNeg)).1)) + (((v201 q cc gc ((v201 q cc gc ((v201 q cc gc h i (((Ar h 170) (78 + m5)).toNatClampNeg)).2) m5 (((Ar h 170) (78 + m5)).toNatClampNeg)).2) m5 (((Ar h 170) (78 + i)).toNatClampNeg)).1) - ((v201 q cc gc ((v201 q cc gc ((v201 q cc gc ((v201 q cc gc h i (((Ar h 170) (78 + m5)).toNatClampNeg)).2) m5 (((Ar h 170) (78 + m5)).toNatClampNeg)).2) m5 (((Ar h 170) (78 + i)).toNatClampNeg)).2) i (((Ar h 170) (78 + i)).toNatClampNeg)).1))) x4) x3 (nI i)))))), some (.int (cond (decide ((((Ar h 170) (78 + m5)).toNatClampNeg) = (((Ar h 170) (78 + i)).toNatClampNeg))) x4 (cond (pm_cmp .le (((v201 q cc gc h i (((Ar h 170) (78 + m5)).toNatClampNeg)).1) - ((v201 q cc gc ((v201 q cc gc h i (((Ar h 170) (78 + m5)).toNatClampNeg)).2) m5 (((Ar h 170) (78 + m5)).toNatClampNeg)).1)) 0) x4 (cond (pm_cmp .le (((v201 q cc gc ((v201 q cc gc ((v201 q cc gc h i (((Ar h 170) (78 + m5)).toNatClampNeg)).2) m5 (((Ar h 170) (78 + m5)).toNatClampNeg)).2) m5 (((Ar h 170) (78 + i)).toNatClampNeg)).1) - ((v201 q cc gc ((v201 q cc gc ((v201 q cc gc ((v201 q cc gc h i (((Ar h 170) (78 + m5)).toNatClampNeg)).2) m5 (((Ar h 170) (78 + m5)).toNatClampNeg)).2) m5 (((Ar h 170) (78 + i)).toNatClampNeg)).2) i (((Ar h 170) (78 + i)).toNatClampNeg)).1)) 0) x4 (cond (pm_cmp .le ((((v201 q cc gc h i (((Ar h 170) (78 + m5)).toNatClampNeg)).1) - ((v201 q cc gc ((v201 q cc gc h i (((Ar h 170) (78 + m5)).toNatClampNeg)).2) m5 (((Ar h 170) (78 + m5)).toNatClampNeg)).1)) + (((v201 q cc gc ((v201 q cc gc ((v201 q cc gc h i (((Ar h 170) (78 + m5)).toNatClampNeg)).2) m5 (((Ar h 170) (78 + m5)).toNatClampNeg)).2) m5 (((Ar h 170) (78 + i)).toNatClampNeg)).1) - ((v201 q cc gc ((v201 q cc gc ((v201 q cc gc ((v201 q cc gc h i (((Ar h 170) (78 + m5)).toNatClampNeg)).2) m5 (((Ar h 170) (78 + m5)).toNatClampNeg)).2) m5 (((Ar h 170) (78 + i)).toNatClampNeg)).2) i (((Ar h 170) (78 + i)).toNatClampNeg)).1))) x4) x4 ((((v201 q cc gc h i (((Ar h 170) (78 + m5)).toNatClampNeg)).1) - ((v201 q cc gc ((v201 q cc gc h i (((Ar h 170) (78 + m5)).toNatClampNeg)).2) m5 (((Ar h 170) (78 + m5)).toNatClampNeg)).1)) + (((v201 q cc gc ((v201 q cc gc ((v201 q cc gc h i (((Ar h 170) (78 + m5)).toNatClampNeg)).2) m5 (((Ar h 170) (78 + m5)).toNatClampNeg)).2) m5 (((Ar h 170) (78 + i)).toNatClampNeg)).1) - ((v201 q cc gc ((v201 q cc gc ((v201 q cc gc ((v201 q cc gc h i (((Ar h 170) (78 + m5)).toNatClampNeg)).2) m5 (((Ar h 170) (78 + m5)).toNatClampNeg)).2) m5 (((Ar h 170) (78 + i)).toNatClampNeg)).2) i (((Ar h 170) (78 + i)).toNatClampNeg)).1)))))))), some (.int (nI m5)), some (.int (nI i)), some (.int (nI (((Ar h 170) (78 + m5)).toNatClampNeg))), some (.int (nI (((Ar h 170) (78 + i)).toNatClampNeg))), some (.int (((v201 q cc gc h i (((Ar h 170) (78 + m5)).toNatClampNeg)).1) - ((v201 q cc gc ((v201 q cc gc h i (((Ar h 170) (78 + m5)).toNatClampNeg)).2) m5 (((Ar h 170) (78 + m5)).toNatClampNeg)).1))), some (.int (((v201 q cc gc ((v201 q cc gc ((v201 q cc gc h i (((Ar h 170) (78 + m5)).toNatClampNeg)).2) m5 (((Ar h 170) (78 + m5)).toNatClampNeg)).2) m5 (((Ar h 170) (78 + i)).toNatClampNeg)).1) - ((v201 q cc gc ((v201 q cc gc ((v201 q cc gc ((v201 q cc gc h i (((Ar h 170) (78 + m5)).toNatClampNeg)).2) m5 (((Ar h 170) (78 + m5)).toNatClampNeg)).2) m5 (((Ar h 170) (78 + i)).toNatClampNeg)).2) i (((Ar h 170) (78 + i)).toNatClampNeg)).1)))], [], (v201 q cc gc ((v201 q cc gc ((v201 q cc gc ((v201 q cc gc h i (((Ar h 170) (78 + m5)).toNatClampNeg)).2) m5 (((Ar h 170) (78 + m5)).toNatClampNeg)).2) m5 (((Ar h 170) (78 + i)).toNatClampNeg)).2) i (((Ar h 170) (78 + i)).toNatClampNeg)).2, 198, sl) = some R := hh
  obtain ⟨n, hh⟩ := en_inc (x := i) (c := 1) (j := 6) rfl rfl (by decide) hh
  have hh : pm_run PT n fr lo 236 (165, [some (.ref 162), some (.int (cond (decide ((((Ar h 170) (78 + m5)).toNatClampNeg) = (((Ar h 170) (78 + i)).toNatClampNeg))) x1 (cond (pm_cmp .le (((v201 q cc gc h i (((Ar h 170) (78 + m5)).toNatClampNeg)).1) - ((v201 q cc gc ((v201 q cc gc h i (((Ar h 170) (78 + m5)).toNatClampNeg)).2) m5 (((Ar h 170) (78 + m5)).toNatClampNeg)).1)) 0) x1 (cond (pm_cmp .le (((v201 q cc gc ((v201 q cc gc ((v201 q cc gc h i (((Ar h 170) (78 + m5)).toNatClampNeg)).2) m5 (((Ar h 170) (78 + m5)).toNatClampNeg)).2) m5 (((Ar h 170) (78 + i)).toNatClampNeg)).1) - ((v201 q cc gc ((v201 q cc gc ((v201 q cc gc ((v201 q cc gc h i (((Ar h 170) (78 + m5)).toNatClampNeg)).2) m5 (((Ar h 170) (78 + m5)).toNatClampNeg)).2) m5 (((Ar h 170) (78 + i)).toNatClampNeg)).2) i (((Ar h 170) (78 + i)).toNatClampNeg)).1)) 0) x1 (x1 + Int32.ofInt 1))))), some (.int (cond (decide ((((Ar h 170) (78 + m5)).toNatClampNeg) = (((Ar h 170) (78 + i)).toNatClampNeg))) x2 (cond (pm_cmp .le (((v201 q cc gc h i (((Ar h 170) (78 + m5)).toNatClampNeg)).1) - ((v201 q cc gc ((v201 q cc gc h i (((Ar h 170) (78 + m5)).toNatClampNeg)).2) m5 (((Ar h 170) (78 + m5)).toNatClampNeg)).1)) 0) x2 (cond (pm_cmp .le (((v201 q cc gc ((v201 q cc gc ((v201 q cc gc h i (((Ar h 170) (78 + m5)).toNatClampNeg)).2) m5 (((Ar h 170) (78 + m5)).toNatClampNeg)).2) m5 (((Ar h 170) (78 + i)).toNatClampNeg)).1) - ((v201 q cc gc ((v201 q cc gc ((v201 q cc gc ((v201 q cc gc h i (((Ar h 170) (78 + m5)).toNatClampNeg)).2) m5 (((Ar h 170) (78 + m5)).toNatClampNeg)).2) m5 (((Ar h 170) (78 + i)).toNatClampNeg)).2) i (((Ar h 170) (78 + i)).toNatClampNeg)).1)) 0) x2 (cond (pm_cmp .le ((((v201 q cc gc h i (((Ar h 170) (78 + m5)).toNatClampNeg)).1) - ((v201 q cc gc ((v201 q cc gc h i (((Ar h 170) (78 + m5)).toNatClampNeg)).2) m5 (((Ar h 170) (78 + m5)).toNatClampNeg)).1)) + (((v201 q cc gc ((v201 q cc gc ((v201 q cc gc h i (((Ar h 170) (78 + m5)).toNatClampNeg)).2) m5 (((Ar h 170) (78 + m5)).toNatClampNeg)).2) m5 (((Ar h 170) (78 + i)).toNatClampNeg)).1) - ((v201 q cc gc ((v201 q cc gc ((v201 q cc gc ((v201 q cc gc h i (((Ar h 170) (78 + m5)).toNatClampNeg)).2) m5 (((Ar h 170) (78 + m5)).toNatClampNeg)).2) m5 (((Ar h 170) (78 + i)).toNatClampNeg)).2) i (((Ar h 170) (78 + i)).toNatClampNeg)).1))) x4) x2 (nI m5)))))), some (.int (cond (decide ((((Ar h 170) (78 + m5)).toNatClampNeg) = (((Ar h 170) (78 + i)).toNatClampNeg))) x3 (cond (pm_cmp .le (((v201 q cc gc h i (((Ar h 170) (78 + m5)).toNatClampNeg)).1) - ((v201 q cc gc ((v201 q cc gc h i (((Ar h 170) (78 + m5)).toNatClampNeg)).2) m5 (((Ar h 170) (78 + m5)).toNatClampNeg)).1)) 0) x3 (cond (pm_cmp .le (((v201 q cc gc ((v201 q cc gc ((v201 q cc gc h i (((Ar h 170) (78 + m5)).toNatClampNeg)).2) m5 (((Ar h 170) (78 + m5)).toNatClampNeg)).2) m5 (((Ar h 170) (78 + i)).toNatClampNeg)).1) - ((v201 q cc gc ((v201 q cc gc ((v201 q cc gc ((v201 q cc gc h i (((Ar h 170) (78 + m5)).toNatClampNeg)).2) m5 (((Ar h 170) (78 + m5)).toNatClampNeg)).2) m5 (((Ar h 170) (78 + i)).toNatClampNeg)).2) i (((Ar h 170) (78 + i)).toNatClampNeg)).1)) 0) x3 (cond (pm_cmp .le ((((v201 q cc gc h i (((Ar h 170) (78 + m5)).toNatClampNeg)).1) - ((v201 q cc gc ((v201 q cc gc h i (((Ar h 170) (78 + m5)).toNatClampNeg)).2) m5 (((Ar h 170) (78 + m5)).toNatClampNeg)).1)) + (((v201 q cc gc ((v201 q cc gc ((v201 q cc gc h i (((Ar h 170) (78 + m5)).toNatClampNeg)).2) m5 (((Ar h 170) (78 + m5)).toNatClampNeg)).2) m5 (((Ar h 170) (78 + i)).toNatClampNeg)).1) - ((v201 q cc gc ((v201 q cc gc ((v201 q cc gc ((v201 q cc gc h i (((Ar h 170) (78 + m5)).toNatClampNeg)).2) m5 (((Ar h 170) (78 + m5)).toNatClampNeg)).2) m5 (((Ar h 170) (78 + i)).toNatClampNeg)).2) i (((Ar h 170) (78 + i)).toNatClampNeg)).1))) x4) x3 (nI i)))))), some (.int (cond (decide ((((Ar h 170) (78 + m5)).toNatClampNeg) = (((Ar h 170) (78 + i)).toNatClampNeg))) x4 (cond (pm_cmp .le (((v201 q cc gc h i (((Ar h 170) (78 + m5)).toNatClampNeg)).1) - ((v201 q cc gc ((v201 q cc gc h i (((Ar h 170) (78 + m5)).toNatClampNeg)).2) m5 (((Ar h 170) (78 + m5)).toNatClampNeg)).1)) 0) x4 (cond (pm_cmp .le (((v201 q cc gc ((v201 q cc gc ((v201 q cc gc h i (((Ar h 170) (78 + m5)).toNatClampNeg)).2) m5 (((Ar h 170) (78 + m5)).toNatClampNeg)).2) m5 (((Ar h 170) (78 + i)).toNatClampNeg)).1) - ((v201 q cc gc ((v201 q cc gc ((v201 q cc gc ((v201 q cc gc h i (((Ar h 170) (78 + m5)).toNatClampNeg)).2) m5 (((Ar h 170) (78 + m5)).toNatClampNeg)).2) m5 (((Ar h 170) (78 + i)).toNatClampNeg)).2) i (((Ar h 170) (78 + i)).toNatClampNeg)).1)) 0) x4 (cond (pm_cmp .le ((((v201 q cc gc h i (((Ar h 170) (78 + m5)).toNatClampNeg)).1) - ((v201 q cc gc ((v201 q cc gc h i (((Ar h 170) (78 + m5)).toNatClampNeg)).2) m5 (((Ar h 170) (78 + m5)).toNatClampNeg)).1)) + (((v201 q cc gc ((v201 q cc gc ((v201 q cc gc h i (((Ar h 170) (78 + m5)).toNatClampNeg)).2) m5 (((Ar h 170) (78 + m5)).toNatClampNeg)).2) m5 (((Ar h 170) (78 + i)).toNatClampNeg)).1) - ((v201 q cc gc ((v201 q cc gc ((v201 q cc gc ((v201 q cc gc h i (((Ar h 170) (78 + m5)).toNatClampNeg)).2) m5 (((Ar h 170) (78 + m5)).toNatClampNeg)).2) m5 (((Ar h 170) (78 + i)).toNatClampNeg)).2) i (((Ar h 170) (78 + i)).toNatClampNeg)).1))) x4) x4 ((((v201 q cc gc h i (((Ar h 170) (78 + m5)).toNatClampNeg)).1) - ((v201 q cc gc ((v201 q cc gc h i (((Ar h 170) (78 + m5)).toNatClampNeg)).2) m5 (((Ar h 170) (78 + m5)).toNatClampNeg)).1)) + (((v201 q cc gc ((v201 q cc gc ((v201 q cc gc h i (((Ar h 170) (78 + m5)).toNatClampNeg)).2) m5 (((Ar h 170) (78 + m5)).toNatClampNeg)).2) m5 (((Ar h 170) (78 + i)).toNatClampNeg)).1) - ((v201 q cc gc ((v201 q cc gc ((v201 q cc gc ((v201 q cc gc h i (((Ar h 170) (78 + m5)).toNatClampNeg)).2) m5 (((Ar h 170) (78 + m5)).toNatClampNeg)).2) m5 (((Ar h 170) (78 + i)).toNatClampNeg)).2) i (((Ar h 170) (78 + i)).toNatClampNeg)).1)))))))), some (.int (nI m5)), some (.int (nI (i + 1))), some (.int (nI (((Ar h 170) (78 + m5)).toNatClampNeg))), some (.int (nI (((Ar h 170) (78 + i)).toNatClampNeg))), some (.int (((v201 q cc gc h i (((Ar h 170) (78 + m5)).toNatClampNeg)).1) - ((v201 q cc gc ((v201 q cc gc h i (((Ar h 170) (78 + m5)).toNatClampNeg)).2) m5 (((Ar h 170) (78 + m5)).toNatClampNeg)).1))), some (.int (((v201 q cc gc ((v201 q cc gc ((v201 q cc gc h i (((Ar h 170) (78 + m5)).toNatClampNeg)).2) m5 (((Ar h 170) (78 + m5)).toNatClampNeg)).2) m5 (((Ar h 170) (78 + i)).toNatClampNeg)).1) - ((v201 q cc gc ((v201 q cc gc ((v201 q cc gc ((v201 q cc gc h i (((Ar h 170) (78 + m5)).toNatClampNeg)).2) m5 (((Ar h 170) (78 + m5)).toNatClampNeg)).2) m5 (((Ar h 170) (78 + i)).toNatClampNeg)).2) i (((Ar h 170) (78 + i)).toNatClampNeg)).1)))], [], (v201 q cc gc ((v201 q cc gc ((v201 q cc gc ((v201 q cc gc h i (((Ar h 170) (78 + m5)).toNatClampNeg)).2) m5 (((Ar h 170) (78 + m5)).toNatClampNeg)).2) m5 (((Ar h 170) (78 + i)).toNatClampNeg)).2) i (((Ar h 170) (78 + i)).toNatClampNeg)).2, 198, sl) = some R := hh
  obtain ⟨n, hh⟩ := rn_i rfl rfl rfl rfl hh
  have ed : v236_32b q cc gc h m5 i x1 x2 x3 x4 = (cond (decide ((((Ar h 170) (78 + m5)).toNatClampNeg) = (((Ar h 170) (78 + i)).toNatClampNeg))) x1 (cond (pm_cmp .le (((v201 q cc gc h i (((Ar h 170) (78 + m5)).toNatClampNeg)).1) - ((v201 q cc gc ((v201 q cc gc h i (((Ar h 170) (78 + m5)).toNatClampNeg)).2) m5 (((Ar h 170) (78 + m5)).toNatClampNeg)).1)) 0) x1 (cond (pm_cmp .le (((v201 q cc gc ((v201 q cc gc ((v201 q cc gc h i (((Ar h 170) (78 + m5)).toNatClampNeg)).2) m5 (((Ar h 170) (78 + m5)).toNatClampNeg)).2) m5 (((Ar h 170) (78 + i)).toNatClampNeg)).1) - ((v201 q cc gc ((v201 q cc gc ((v201 q cc gc ((v201 q cc gc h i (((Ar h 170) (78 + m5)).toNatClampNeg)).2) m5 (((Ar h 170) (78 + m5)).toNatClampNeg)).2) m5 (((Ar h 170) (78 + i)).toNatClampNeg)).2) i (((Ar h 170) (78 + i)).toNatClampNeg)).1)) 0) x1 (x1 + Int32.ofInt 1))), cond (decide ((((Ar h 170) (78 + m5)).toNatClampNeg) = (((Ar h 170) (78 + i)).toNatClampNeg))) x2 (cond (pm_cmp .le (((v201 q cc gc h i (((Ar h 170) (78 + m5)).toNatClampNeg)).1) - ((v201 q cc gc ((v201 q cc gc h i (((Ar h 170) (78 + m5)).toNatClampNeg)).2) m5 (((Ar h 170) (78 + m5)).toNatClampNeg)).1)) 0) x2 (cond (pm_cmp .le (((v201 q cc gc ((v201 q cc gc ((v201 q cc gc h i (((Ar h 170) (78 + m5)).toNatClampNeg)).2) m5 (((Ar h 170) (78 + m5)).toNatClampNeg)).2) m5 (((Ar h 170) (78 + i)).toNatClampNeg)).1) - ((v201 q cc gc ((v201 q cc gc ((v201 q cc gc ((v201 q cc gc h i (((Ar h 170) (78 + m5)).toNatClampNeg)).2) m5 (((Ar h 170) (78 + m5)).toNatClampNeg)).2) m5 (((Ar h 170) (78 + i)).toNatClampNeg)).2) i (((Ar h 170) (78 + i)).toNatClampNeg)).1)) 0) x2 (cond (pm_cmp .le ((((v201 q cc gc h i (((Ar h 170) (78 + m5)).toNatClampNeg)).1) - ((v201 q cc gc ((v201 q cc gc h i (((Ar h 170) (78 + m5)).toNatClampNeg)).2) m5 (((Ar h 170) (78 + m5)).toNatClampNeg)).1)) + (((v201 q cc gc ((v201 q cc gc ((v201 q cc gc h i (((Ar h 170) (78 + m5)).toNatClampNeg)).2) m5 (((Ar h 170) (78 + m5)).toNatClampNeg)).2) m5 (((Ar h 170) (78 + i)).toNatClampNeg)).1) - ((v201 q cc gc ((v201 q cc gc ((v201 q cc gc ((v201 q cc gc h i (((Ar h 170) (78 + m5)).toNatClampNeg)).2) m5 (((Ar h 170) (78 + m5)).toNatClampNeg)).2) m5 (((Ar h 170) (78 + i)).toNatClampNeg)).2) i (((Ar h 170) (78 + i)).toNatClampNeg)).1))) x4) x2 (nI m5)))), cond (decide ((((Ar h 170) (78 + m5)).toNatClampNeg) = (((Ar h 170) (78 + i)).toNatClampNeg))) x3 (cond (pm_cmp .le (((v201 q cc gc h i (((Ar h 170) (78 + m5)).toNatClampNeg)).1) - ((v201 q cc gc ((v201 q cc gc h i (((Ar h 170) (78 + m5)).toNatClampNeg)).2) m5 (((Ar h 170) (78 + m5)).toNatClampNeg)).1)) 0) x3 (cond (pm_cmp .le (((v201 q cc gc ((v201 q cc gc ((v201 q cc gc h i (((Ar h 170) (78 + m5)).toNatClampNeg)).2) m5 (((Ar h 170) (78 + m5)).toNatClampNeg)).2) m5 (((Ar h 170) (78 + i)).toNatClampNeg)).1) - ((v201 q cc gc ((v201 q cc gc ((v201 q cc gc ((v201 q cc gc h i (((Ar h 170) (78 + m5)).toNatClampNeg)).2) m5 (((Ar h 170) (78 + m5)).toNatClampNeg)).2) m5 (((Ar h 170) (78 + i)).toNatClampNeg)).2) i (((Ar h 170) (78 + i)).toNatClampNeg)).1)) 0) x3 (cond (pm_cmp .le ((((v201 q cc gc h i (((Ar h 170) (78 + m5)).toNatClampNeg)).1) - ((v201 q cc gc ((v201 q cc gc h i (((Ar h 170) (78 + m5)).toNatClampNeg)).2) m5 (((Ar h 170) (78 + m5)).toNatClampNeg)).1)) + (((v201 q cc gc ((v201 q cc gc ((v201 q cc gc h i (((Ar h 170) (78 + m5)).toNatClampNeg)).2) m5 (((Ar h 170) (78 + m5)).toNatClampNeg)).2) m5 (((Ar h 170) (78 + i)).toNatClampNeg)).1) - ((v201 q cc gc ((v201 q cc gc ((v201 q cc gc ((v201 q cc gc h i (((Ar h 170) (78 + m5)).toNatClampNeg)).2) m5 (((Ar h 170) (78 + m5)).toNatClampNeg)).2) m5 (((Ar h 170) (78 + i)).toNatClampNeg)).2) i (((Ar h 170) (78 + i)).toNatClampNeg)).1))) x4) x3 (nI i)))), cond (decide ((((Ar h 170) (78 + m5)).toNatClampNeg) = (((Ar h 170) (78 + i)).toNatClampNeg))) x4 (cond (pm_cmp .le (((v201 q cc gc h i (((Ar h 170) (78 + m5)).toNatClampNeg)).1) - ((v201 q cc gc ((v201 q cc gc h i (((Ar h 170) (78 + m5)).toNatClampNeg)).2) m5 (((Ar h 170) (78 + m5)).toNatClampNeg)).1)) 0) x4 (cond (pm_cmp .le (((v201 q cc gc ((v201 q cc gc ((v201 q cc gc h i (((Ar h 170) (78 + m5)).toNatClampNeg)).2) m5 (((Ar h 170) (78 + m5)).toNatClampNeg)).2) m5 (((Ar h 170) (78 + i)).toNatClampNeg)).1) - ((v201 q cc gc ((v201 q cc gc ((v201 q cc gc ((v201 q cc gc h i (((Ar h 170) (78 + m5)).toNatClampNeg)).2) m5 (((Ar h 170) (78 + m5)).toNatClampNeg)).2) m5 (((Ar h 170) (78 + i)).toNatClampNeg)).2) i (((Ar h 170) (78 + i)).toNatClampNeg)).1)) 0) x4 (cond (pm_cmp .le ((((v201 q cc gc h i (((Ar h 170) (78 + m5)).toNatClampNeg)).1) - ((v201 q cc gc ((v201 q cc gc h i (((Ar h 170) (78 + m5)).toNatClampNeg)).2) m5 (((Ar h 170) (78 + m5)).toNatClampNeg)).1)) + (((v201 q cc gc ((v201 q cc gc ((v201 q cc gc h i (((Ar h 170) (78 + m5)).toNatClampNeg)).2) m5 (((Ar h 170) (78 + m5)).toNatClampNeg)).2) m5 (((Ar h 170) (78 + i)).toNatClampNeg)).1) - ((v201 q cc gc ((v201 q cc gc ((v201 q cc gc ((v201 q cc gc h i (((Ar h 170) (78 + m5)).toNatClampNeg)).2) m5 (((Ar h 170) (78 + m5)).toNatClampNeg)).2) m5 (((Ar h 170) (78 + i)).toNatClampNeg)).2) i (((Ar h 170) (78 + i)).toNatClampNeg)).1))) x4) x4 ((((v201 q cc gc h i (((Ar h 170) (78 + m5)).toNatClampNeg)).1) - ((v201 q cc gc ((v201 q cc gc h i (((Ar h 170) (78 + m5)).toNatClampNeg)).2) m5 (((Ar h 170) (78 + m5)).toNatClampNeg)).1)) + (((v201 q cc gc ((v201 q cc gc ((v201 q cc gc h i (((Ar h 170) (78 + m5)).toNatClampNeg)).2) m5 (((Ar h 170) (78 + m5)).toNatClampNeg)).2) m5 (((Ar h 170) (78 + i)).toNatClampNeg)).1) - ((v201 q cc gc ((v201 q cc gc ((v201 q cc gc ((v201 q cc gc h i (((Ar h 170) (78 + m5)).toNatClampNeg)).2) m5 (((Ar h 170) (78 + m5)).toNatClampNeg)).2) m5 (((Ar h 170) (78 + i)).toNatClampNeg)).2) i (((Ar h 170) (78 + i)).toNatClampNeg)).1)))))), (v201 q cc gc ((v201 q cc gc ((v201 q cc gc ((v201 q cc gc h i (((Ar h 170) (78 + m5)).toNatClampNeg)).2) m5 (((Ar h 170) (78 + m5)).toNatClampNeg)).2) m5 (((Ar h 170) (78 + i)).toNatClampNeg)).2) i (((Ar h 170) (78 + i)).toNatClampNeg)).2) := rfl
  rw [ed]
  exact ⟨n, some (.int (nI (((Ar h 170) (78 + m5)).toNatClampNeg))), some (.int (nI (((Ar h 170) (78 + i)).toNatClampNeg))), some (.int (((v201 q cc gc h i (((Ar h 170) (78 + m5)).toNatClampNeg)).1) - ((v201 q cc gc ((v201 q cc gc h i (((Ar h 170) (78 + m5)).toNatClampNeg)).2) m5 (((Ar h 170) (78 + m5)).toNatClampNeg)).1))), some (.int (((v201 q cc gc ((v201 q cc gc ((v201 q cc gc h i (((Ar h 170) (78 + m5)).toNatClampNeg)).2) m5 (((Ar h 170) (78 + m5)).toNatClampNeg)).2) m5 (((Ar h 170) (78 + i)).toNatClampNeg)).1) - ((v201 q cc gc ((v201 q cc gc ((v201 q cc gc ((v201 q cc gc h i (((Ar h 170) (78 + m5)).toNatClampNeg)).2) m5 (((Ar h 170) (78 + m5)).toNatClampNeg)).2) m5 (((Ar h 170) (78 + i)).toNatClampNeg)).2) i (((Ar h 170) (78 + i)).toNatClampNeg)).1))), hc15, (fr_g rfl rfl hf16 (fr_g rfl rfl hf13 (fr_g rfl rfl hf10 (fr_g rfl rfl hf7 fr_0)))), (NA_e ((Ar_e (hf16.1 170 rfl)).trans ((Ar_e (hf13.1 170 rfl)).trans ((Ar_e (hf10.1 170 rfl)).trans ((Ar_e (hf7.1 170 rfl)).trans rfl)))) hol), hh⟩
theorem v236_32_ok {fr lo sl cc gc : Nat} {q : QT} {R : pm_Rs} {m5 : Nat} : ∀ {j i : Nat} {x1 : Int32} {x2 : Int32} {x3 : Int32} {x4 : Int32} {o7 : Option Value} {o8 : Option Value} {o9 : Option Value} {o10 : Option Value} {h : pm_H} {n : Nat}, gc - i = j → i + j < 1000000 → HC q cc gc h → m5 < gc → NA h 170 78 86 6 → pm_run PT n fr lo 236 (32, [some (.ref 162), some (.int x1), some (.int x2), some (.int x3), some (.int x4), some (.int (nI m5)), some (.int (nI i)), o7, o8, o9, o10], [], h, 198, sl) = some R → ∃ m wc w7 w8 w9 w10, HC q cc gc ((v236_32 q cc gc m5 j i (x1, x2, x3, x4, h)).2.2.2.2) ∧ frm [176, 177] [] h ((v236_32 q cc gc m5 j i (x1, x2, x3, x4, h)).2.2.2.2) ∧ NA ((v236_32 q cc gc m5 j i (x1, x2, x3, x4, h)).2.2.2.2) 170 78 86 6 ∧ pm_run PT m fr lo 236 (168, [some (.ref 162), some (.int ((v236_32 q cc gc m5 j i (x1, x2, x3, x4, h)).1)), some (.int ((v236_32 q cc gc m5 j i (x1, x2, x3, x4, h)).2.1)), some (.int ((v236_32 q cc gc m5 j i (x1, x2, x3, x4, h)).2.2.1)), some (.int ((v236_32 q cc gc m5 j i (x1, x2, x3, x4, h)).2.2.2.1)), some (.int (nI m5)), wc, w7, w8, w9, w10], [], (v236_32 q cc gc m5 j i (x1, x2, x3, x4, h)).2.2.2.2, 198, sl) = some R := by
  intro j
  induction j with
  | zero =>
    intro i x1 x2 x3 x4 o7 o8 o9 o10 h n e eI hw h_m5 hol hh
    obtain ⟨n, hh⟩ := v236_32_e hw h_m5 hol (by omega) (by omega) hh
    exact ⟨n, _, o7, o8, o9, o10, hw, fr_0, hol, hh⟩
  | succ j ih =>
    intro i x1 x2 x3 x4 o7 o8 o9 o10 h n e eI hw h_m5 hol hh
    obtain ⟨n, w7, w8, w9, w10, hc, hf, hol', hh⟩ := v236_32_s hw h_m5 hol (by omega) (by omega) hh
    obtain ⟨n, wc, v7, v8, v9, v10, hc2, hf2, hol'', hh⟩ := ih (by omega) (by omega) hc h_m5 hol' hh
    exact ⟨n, wc, v7, v8, v9, v10, hc2, fr_t hf2 hf, hol'', hh⟩
theorem v236_32_fb {cc gc : Nat} {q : QT} {h : pm_H} {m5 : Nat} {i : Nat} {x1 : Int32} {x2 : Int32} {x3 : Int32} {x4 : Int32} (hw : HC q cc gc h) : HC q cc gc ((v236_32b q cc gc h m5 i x1 x2 x3 x4).2.2.2.2) ∧ frm [176, 177] [] h ((v236_32b q cc gc h m5 i x1 x2 x3 x4).2.2.2.2) := by
  unfold v236_32b
  show HC q cc gc ((v201 q cc gc ((v201 q cc gc ((v201 q cc gc ((v201 q cc gc h i (((Ar h 170) (78 + m5)).toNatClampNeg)).2) m5 (((Ar h 170) (78 + m5)).toNatClampNeg)).2) m5 (((Ar h 170) (78 + i)).toNatClampNeg)).2) i (((Ar h 170) (78 + i)).toNatClampNeg)).2) ∧ frm [176, 177] [] h ((v201 q cc gc ((v201 q cc gc ((v201 q cc gc ((v201 q cc gc h i (((Ar h 170) (78 + m5)).toNatClampNeg)).2) m5 (((Ar h 170) (78 + m5)).toNatClampNeg)).2) m5 (((Ar h 170) (78 + i)).toNatClampNeg)).2) i (((Ar h 170) (78 + i)).toNatClampNeg)).2)
  exact ⟨(v201_fr (g := i) (c := (((Ar h 170) (78 + i)).toNatClampNeg)) (v201_fr (g := m5) (c := (((Ar h 170) (78 + i)).toNatClampNeg)) (v201_fr (g := m5) (c := (((Ar h 170) (78 + m5)).toNatClampNeg)) (v201_fr (g := i) (c := (((Ar h 170) (78 + m5)).toNatClampNeg)) hw).1).1).1).1, (fr_g rfl rfl (v201_fr (g := i) (c := (((Ar h 170) (78 + i)).toNatClampNeg)) (v201_fr (g := m5) (c := (((Ar h 170) (78 + i)).toNatClampNeg)) (v201_fr (g := m5) (c := (((Ar h 170) (78 + m5)).toNatClampNeg)) (v201_fr (g := i) (c := (((Ar h 170) (78 + m5)).toNatClampNeg)) hw).1).1).1).2 (fr_g rfl rfl (v201_fr (g := m5) (c := (((Ar h 170) (78 + i)).toNatClampNeg)) (v201_fr (g := m5) (c := (((Ar h 170) (78 + m5)).toNatClampNeg)) (v201_fr (g := i) (c := (((Ar h 170) (78 + m5)).toNatClampNeg)) hw).1).1).2 (fr_g rfl rfl (v201_fr (g := m5) (c := (((Ar h 170) (78 + m5)).toNatClampNeg)) (v201_fr (g := i) (c := (((Ar h 170) (78 + m5)).toNatClampNeg)) hw).1).2 (fr_g rfl rfl (v201_fr (g := i) (c := (((Ar h 170) (78 + m5)).toNatClampNeg)) hw).2 fr_0))))⟩
theorem v236_32_fr {cc gc : Nat} {q : QT} {m5 : Nat} : ∀ {j i : Nat} {x1 : Int32} {x2 : Int32} {x3 : Int32} {x4 : Int32} {h : pm_H}, HC q cc gc h → HC q cc gc ((v236_32 q cc gc m5 j i (x1, x2, x3, x4, h)).2.2.2.2) ∧ frm [176, 177] [] h ((v236_32 q cc gc m5 j i (x1, x2, x3, x4, h)).2.2.2.2) := by
  intro j
  induction j with
  | zero =>
    intro i x1 x2 x3 x4 h hw
    exact ⟨hw, fr_0⟩
  | succ j ih =>
    intro i x1 x2 x3 x4 h hw
    obtain ⟨a1, a2⟩ := v236_32_fb (i := i) (m5 := m5) (x1 := x1) (x2 := x2) (x3 := x3) (x4 := x4) hw
    obtain ⟨b1, b2⟩ := ih (i := i + 1) a1
    exact ⟨b1, fr_t b2 a2⟩
def v236_17b (q : QT) (cc gc : Nat) (h : pm_H) (i : Nat) (x1 : Int32) (x2 : Int32) (x3 : Int32) (x4 : Int32) : Int32 × Int32 × Int32 × Int32 × pm_H := ((v236_32 q cc gc i (gc - (i + 1)) (i + 1) (x1, x2, x3, x4, h)).1, (v236_32 q cc gc i (gc - (i + 1)) (i + 1) (x1, x2, x3, x4, h)).2.1, (v236_32 q cc gc i (gc - (i + 1)) (i + 1) (x1, x2, x3, x4, h)).2.2.1, (v236_32 q cc gc i (gc - (i + 1)) (i + 1) (x1, x2, x3, x4, h)).2.2.2.1, (v236_32 q cc gc i (gc - (i + 1)) (i + 1) (x1, x2, x3, x4, h)).2.2.2.2)
def v236_17 (q : QT) (cc gc : Nat) (j i : Nat) (a : Int32 × Int32 × Int32 × Int32 × pm_H) : Int32 × Int32 × Int32 × Int32 × pm_H := lp (fun i a => v236_17b q cc gc a.2.2.2.2 i a.1 a.2.1 a.2.2.1 a.2.2.2.1) j i a
theorem v236_17_e {n fr lo sl cc gc : Nat} {q : QT} {h : pm_H} {R : pm_Rs} {i : Nat} {x1 : Int32} {x2 : Int32} {x3 : Int32} {x4 : Int32} {o6 : Option Value} {o7 : Option Value} {o8 : Option Value} {o9 : Option Value} {o10 : Option Value} (hw : HC q cc gc h) (hol : NA h 170 78 86 6) (hi : gc ≤ i) (hI : i < 1000000) (hh : pm_run PT n fr lo 236 (17, [some (.ref 162), some (.int x1), some (.int x2), some (.int x3), some (.int x4), some (.int (nI i)), o6, o7, o8, o9, o10], [], h, 198, sl) = some R) : ∃ m, pm_run PT m fr lo 236 (174, [some (.ref 162), some (.int x1), some (.int x2), some (.int x3), some (.int x4), some (.int (nI i)), o6, o7, o8, o9, o10], [], h, 198, sl) = some R := by
  have hcc := hw.cb
  have hgc := hw.gb
  have hzr := hw.zr
  obtain ⟨n, hh⟩ := rn_i rfl rfl rfl rfl hh
  obtain ⟨n, hh⟩ := rn_i rfl rfl rfl rfl hh
  have hh : pm_run PT n fr lo 236 (20, [some (.ref 162), some (.int x1), some (.int x2), some (.int x3), some (.int x4), some (.int (nI i)), o6, o7, o8, o9, o10], [.ref 162, .int (nI i)], h, 198, sl) = some R := hh
  obtain ⟨n, hh⟩ := rn_gi (x := nI gc) hw.wt rfl rfl (by decide) rfl (by decide) rfl hw.m4 hh
  have hh : pm_run PT n fr lo 236 (23, [some (.ref 162), some (.int x1), some (.int x2), some (.int x3), some (.int x4), some (.int (nI i)), o6, o7, o8, o9, o10], [.int (nI gc), .int (nI i)], h, 198, sl) = some R := hh
  obtain ⟨n, hh⟩ := en_cn (cc := .ge) (off := 151) (t := 174) (b := decide (gc ≤ i)) (hI_ge (by omega) (by omega)) rfl rfl hh
  have hh := en_t (show decide (gc ≤ i) = true from decide_eq_true (by omega)) hh
  have hh : pm_run PT n fr lo 236 (174, [some (.ref 162), some (.int x1), some (.int x2), some (.int x3), some (.int x4), some (.int (nI i)), o6, o7, o8, o9, o10], [], h, 198, sl) = some R := hh
  exact ⟨n, hh⟩
theorem v236_17_s {n fr lo sl cc gc : Nat} {q : QT} {h : pm_H} {R : pm_Rs} {i : Nat} {x1 : Int32} {x2 : Int32} {x3 : Int32} {x4 : Int32} {o6 : Option Value} {o7 : Option Value} {o8 : Option Value} {o9 : Option Value} {o10 : Option Value} (hw : HC q cc gc h) (hol : NA h 170 78 86 6) (hi : i < gc) (hI : i < 1000000) (hh : pm_run PT n fr lo 236 (17, [some (.ref 162), some (.int x1), some (.int x2), some (.int x3), some (.int x4), some (.int (nI i)), o6, o7, o8, o9, o10], [], h, 198, sl) = some R) : ∃ m w6 w7 w8 w9 w10, HC q cc gc ((v236_17b q cc gc h i x1 x2 x3 x4).2.2.2.2) ∧ frm [176, 177] [] h ((v236_17b q cc gc h i x1 x2 x3 x4).2.2.2.2) ∧ NA ((v236_17b q cc gc h i x1 x2 x3 x4).2.2.2.2) 170 78 86 6 ∧ pm_run PT m fr lo 236 (17, [some (.ref 162), some (.int ((v236_17b q cc gc h i x1 x2 x3 x4).1)), some (.int ((v236_17b q cc gc h i x1 x2 x3 x4).2.1)), some (.int ((v236_17b q cc gc h i x1 x2 x3 x4).2.2.1)), some (.int ((v236_17b q cc gc h i x1 x2 x3 x4).2.2.2.1)), some (.int (nI (i + 1))), w6, w7, w8, w9, w10], [], (v236_17b q cc gc h i x1 x2 x3 x4).2.2.2.2, 198, sl) = some R := by
  have hcc := hw.cb
  have hgc := hw.gb
  have hzr := hw.zr
  obtain ⟨n, hh⟩ := rn_i rfl rfl rfl rfl hh
  obtain ⟨n, hh⟩ := rn_i rfl rfl rfl rfl hh
  have hh : pm_run PT n fr lo 236 (20, [some (.ref 162), some (.int x1), some (.int x2), some (.int x3), some (.int x4), some (.int (nI i)), o6, o7, o8, o9, o10], [.ref 162, .int (nI i)], h, 198, sl) = some R := hh
  obtain ⟨n, hh⟩ := rn_gi (x := nI gc) hw.wt rfl rfl (by decide) rfl (by decide) rfl hw.m4 hh
  have hh : pm_run PT n fr lo 236 (23, [some (.ref 162), some (.int x1), some (.int x2), some (.int x3), some (.int x4), some (.int (nI i)), o6, o7, o8, o9, o10], [.int (nI gc), .int (nI i)], h, 198, sl) = some R := hh
  obtain ⟨n, hh⟩ := en_cn (cc := .ge) (off := 151) (t := 174) (b := decide (gc ≤ i)) (hI_ge (by omega) (by omega)) rfl rfl hh
  have hh := en_f (show decide (gc ≤ i) = false from decide_eq_false (by omega)) hh
  have hh : pm_run PT n fr lo 236 (26, [some (.ref 162), some (.int x1), some (.int x2), some (.int x3), some (.int x4), some (.int (nI i)), o6, o7, o8, o9, o10], [], h, 198, sl) = some R := hh
  obtain ⟨n, hh⟩ := rn_i rfl rfl rfl rfl hh
  obtain ⟨n, hh⟩ := rn_i rfl rfl rfl rfl hh
  have hh : pm_run PT n fr lo 236 (29, [some (.ref 162), some (.int x1), some (.int x2), some (.int x3), some (.int x4), some (.int (nI i)), o6, o7, o8, o9, o10], [.int (nI 1), .int (nI i)], h, 198, sl) = some R := hh
  obtain ⟨n, hh⟩ := en_add rfl hh
  have hh : pm_run PT n fr lo 236 (30, [some (.ref 162), some (.int x1), some (.int x2), some (.int x3), some (.int x4), some (.int (nI i)), o6, o7, o8, o9, o10], [.int (nI (i + 1))], h, 198, sl) = some R := hh
  obtain ⟨n, hh⟩ := rn_i rfl rfl rfl rfl hh
  have hh : pm_run PT n fr lo 236 (32, [some (.ref 162), some (.int x1), some (.int x2), some (.int x3), some (.int x4), some (.int (nI i)), some (.int (nI (i + 1))), o7, o8, o9, o10], [], h, 198, sl) = some R := hh
  obtain ⟨n, u5, u1, u2, u3, u4, hc7, hf8, hn6, hh⟩ := v236_32_ok (m5 := i)  (i := i + 1) (x1 := x1) (x2 := x2) (x3 := x3) (x4 := x4) (o7 := o7) (o8 := o8) (o9 := o9) (o10 := o10) (j := (gc - (i + 1))) (by omega) (by omega) hw (by omega) hol hh
  have hh : pm_run PT n fr lo 236 (168, [some (.ref 162), some (.int ((v236_32 q cc gc i (gc - (i + 1)) (i + 1) (x1, x2, x3, x4, h)).1)), some (.int ((v236_32 q cc gc i (gc - (i + 1)) (i + 1) (x1, x2, x3, x4, h)).2.1)), some (.int ((v236_32 q cc gc i (gc - (i + 1)) (i + 1) (x1, x2, x3, x4, h)).2.2.1)), some (.int ((v236_32 q cc gc i (gc - (i + 1)) (i + 1) (x1, x2, x3, x4, h)).2.2.2.1)), some (.int (nI i)), u5, u1, u2, u3, u4], [], (v236_32 q cc gc i (gc - (i + 1)) (i + 1) (x1, x2, x3, x4, h)).2.2.2.2, 198, sl) = some R := hh
  have hh : pm_run PT n fr lo 236 (168, [some (.ref 162), some (.int ((v236_32 q cc gc i (gc - (i + 1)) (i + 1) (x1, x2, x3, x4, h)).1)), some (.int ((v236_32 q cc gc i (gc - (i + 1)) (i + 1) (x1, x2, x3, x4, h)).2.1)), some (.int ((v236_32 q cc gc i (gc - (i + 1)) (i + 1) (x1, x2, x3, x4, h)).2.2.1)), some (.int ((v236_32 q cc gc i (gc - (i + 1)) (i + 1) (x1, x2, x3, x4, h)).2.2.2.1)), some (.int (nI i)), u5, u1, u2, u3, u4], [], (v236_32 q cc gc i (gc - (i + 1)) (i + 1) (x1, x2, x3, x4, h)).2.2.2.2, 198, sl) = some R := hh
  obtain ⟨n, hh⟩ := en_inc (x := i) (c := 1) (j := 5) rfl rfl (by decide) hh
  have hh : pm_run PT n fr lo 236 (171, [some (.ref 162), some (.int ((v236_32 q cc gc i (gc - (i + 1)) (i + 1) (x1, x2, x3, x4, h)).1)), some (.int ((v236_32 q cc gc i (gc - (i + 1)) (i + 1) (x1, x2, x3, x4, h)).2.1)), some (.int ((v236_32 q cc gc i (gc - (i + 1)) (i + 1) (x1, x2, x3, x4, h)).2.2.1)), some (.int ((v236_32 q cc gc i (gc - (i + 1)) (i + 1) (x1, x2, x3, x4, h)).2.2.2.1)), some (.int (nI (i + 1))), u5, u1, u2, u3, u4], [], (v236_32 q cc gc i (gc - (i + 1)) (i + 1) (x1, x2, x3, x4, h)).2.2.2.2, 198, sl) = some R := hh
  obtain ⟨n, hh⟩ := rn_i rfl rfl rfl rfl hh
  have ed : v236_17b q cc gc h i x1 x2 x3 x4 = ((v236_32 q cc gc i (gc - (i + 1)) (i + 1) (x1, x2, x3, x4, h)).1, (v236_32 q cc gc i (gc - (i + 1)) (i + 1) (x1, x2, x3, x4, h)).2.1, (v236_32 q cc gc i (gc - (i + 1)) (i + 1) (x1, x2, x3, x4, h)).2.2.1, (v236_32 q cc gc i (gc - (i + 1)) (i + 1) (x1, x2, x3, x4, h)).2.2.2.1, (v236_32 q cc gc i (gc - (i + 1)) (i + 1) (x1, x2, x3, x4, h)).2.2.2.2) := rfl
  rw [ed]
  exact ⟨n, u5, u1, u2, u3, u4, hc7, (fr_g rfl rfl hf8 fr_0), (NA_e ((Ar_e (hf8.1 170 rfl)).trans rfl) hol), hh⟩
theorem v236_17_ok {fr lo sl cc gc : Nat} {q : QT} {R : pm_Rs} : ∀ {j i : Nat} {x1 : Int32} {x2 : Int32} {x3 : Int32} {x4 : Int32} {o6 : Option Value} {o7 : Option Value} {o8 : Option Value} {o9 : Option Value} {o10 : Option Value} {h : pm_H} {n : Nat}, gc - i = j → i + j < 1000000 → HC q cc gc h → NA h 170 78 86 6 → pm_run PT n fr lo 236 (17, [some (.ref 162), some (.int x1), some (.int x2), some (.int x3), some (.int x4), some (.int (nI i)), o6, o7, o8, o9, o10], [], h, 198, sl) = some R → ∃ m wc w6 w7 w8 w9 w10, HC q cc gc ((v236_17 q cc gc j i (x1, x2, x3, x4, h)).2.2.2.2) ∧ frm [176, 177] [] h ((v236_17 q cc gc j i (x1, x2, x3, x4, h)).2.2.2.2) ∧ NA ((v236_17 q cc gc j i (x1, x2, x3, x4, h)).2.2.2.2) 170 78 86 6 ∧ pm_run PT m fr lo 236 (174, [some (.ref 162), some (.int ((v236_17 q cc gc j i (x1, x2, x3, x4, h)).1)), some (.int ((v236_17 q cc gc j i (x1, x2, x3, x4, h)).2.1)), some (.int ((v236_17 q cc gc j i (x1, x2, x3, x4, h)).2.2.1)), some (.int ((v236_17 q cc gc j i (x1, x2, x3, x4, h)).2.2.2.1)), wc, w6, w7, w8, w9, w10], [], (v236_17 q cc gc j i (x1, x2, x3, x4, h)).2.2.2.2, 198, sl) = some R := by
  intro j
  induction j with
  | zero =>
    intro i x1 x2 x3 x4 o6 o7 o8 o9 o10 h n e eI hw hol hh
    obtain ⟨n, hh⟩ := v236_17_e hw hol (by omega) (by omega) hh
    exact ⟨n, _, o6, o7, o8, o9, o10, hw, fr_0, hol, hh⟩
  | succ j ih =>
    intro i x1 x2 x3 x4 o6 o7 o8 o9 o10 h n e eI hw hol hh
    obtain ⟨n, w6, w7, w8, w9, w10, hc, hf, hol', hh⟩ := v236_17_s hw hol (by omega) (by omega) hh
    obtain ⟨n, wc, v6, v7, v8, v9, v10, hc2, hf2, hol'', hh⟩ := ih (by omega) (by omega) hc hol' hh
    exact ⟨n, wc, v6, v7, v8, v9, v10, hc2, fr_t hf2 hf, hol'', hh⟩
theorem v236_17_fb {cc gc : Nat} {q : QT} {h : pm_H} {i : Nat} {x1 : Int32} {x2 : Int32} {x3 : Int32} {x4 : Int32} (hw : HC q cc gc h) : HC q cc gc ((v236_17b q cc gc h i x1 x2 x3 x4).2.2.2.2) ∧ frm [176, 177] [] h ((v236_17b q cc gc h i x1 x2 x3 x4).2.2.2.2) := by
  unfold v236_17b
  show HC q cc gc ((v236_32 q cc gc i (gc - (i + 1)) (i + 1) (x1, x2, x3, x4, h)).2.2.2.2) ∧ frm [176, 177] [] h ((v236_32 q cc gc i (gc - (i + 1)) (i + 1) (x1, x2, x3, x4, h)).2.2.2.2)
  exact ⟨(v236_32_fr (m5 := i) (j := (gc - (i + 1))) (i := i + 1) (x1 := x1) (x2 := x2) (x3 := x3) (x4 := x4) hw).1, (fr_g rfl rfl (v236_32_fr (m5 := i) (j := (gc - (i + 1))) (i := i + 1) (x1 := x1) (x2 := x2) (x3 := x3) (x4 := x4) hw).2 fr_0)⟩
theorem v236_17_fr {cc gc : Nat} {q : QT} : ∀ {j i : Nat} {x1 : Int32} {x2 : Int32} {x3 : Int32} {x4 : Int32} {h : pm_H}, HC q cc gc h → HC q cc gc ((v236_17 q cc gc j i (x1, x2, x3, x4, h)).2.2.2.2) ∧ frm [176, 177] [] h ((v236_17 q cc gc j i (x1, x2, x3, x4, h)).2.2.2.2) := by
  intro j
  induction j with
  | zero =>
    intro i x1 x2 x3 x4 h hw
    exact ⟨hw, fr_0⟩
  | succ j ih =>
    intro i x1 x2 x3 x4 h hw
    obtain ⟨a1, a2⟩ := v236_17_fb (i := i) (x1 := x1) (x2 := x2) (x3 := x3) (x4 := x4) hw
    obtain ⟨b1, b2⟩ := ih (i := i + 1) a1
    exact ⟨b1, fr_t b2 a2⟩
def v236 (q : QT) (cc gc : Nat) (h : pm_H) : Int32 × pm_H := cond (pm_cmp .le ((v236_17 q cc gc gc 0 ((nI 0), (nI 0), (nI 0), (nI 0), fset h 162 0 (.int (nI 0)))).1) 0) ((v236_17 q cc gc gc 0 ((nI 0), (nI 0), (nI 0), (nI 0), fset h 162 0 (.int (nI 0)))).1, fset ((v236_17 q cc gc gc 0 ((nI 0), (nI 0), (nI 0), (nI 0), fset h 162 0 (.int (nI 0)))).2.2.2.2) 162 1 (.int (nI 0))) ((v236_17 q cc gc gc 0 ((nI 0), (nI 0), (nI 0), (nI 0), fset h 162 0 (.int (nI 0)))).1, v167 q cc gc (v167 q cc gc (v167 q cc gc (fset ((v236_17 q cc gc gc 0 ((nI 0), (nI 0), (nI 0), (nI 0), fset h 162 0 (.int (nI 0)))).2.2.2.2) 162 1 (.int (nI 0))) (((v236_17 q cc gc gc 0 ((nI 0), (nI 0), (nI 0), (nI 0), fset h 162 0 (.int (nI 0)))).2.1).toInt64)) (((v236_17 q cc gc gc 0 ((nI 0), (nI 0), (nI 0), (nI 0), fset h 162 0 (.int (nI 0)))).2.2.1).toInt64)) (((v236_17 q cc gc gc 0 ((nI 0), (nI 0), (nI 0), (nI 0), fset h 162 0 (.int (nI 0)))).2.2.2.1).toInt64))
theorem v236_ok {n fr lo sl cc gc : Nat} {q : QT} {h : pm_H} {R : pm_Rs} (hw : HC q cc gc h) (hol : NA h 170 78 86 6) (hh : pm_run PT n fr lo 236 (0, pm_l0 [.ref 162] 11, [], h, 198, sl) = some R) : R = (some (.int ((v236 q cc gc h).1)), (v236 q cc gc h).2, 198, sl) ∧ HC q cc gc ((v236 q cc gc h).2) ∧ frm [162, 163, 176, 177] [(162, 0), (162, 1)] h ((v236 q cc gc h).2) := by
  have hcc := hw.cb
  have hgc := hw.gb
  have hzr := hw.zr
  obtain ⟨n, hh⟩ := rn_i rfl rfl rfl rfl hh
  obtain ⟨n, hh⟩ := rn_i rfl rfl rfl rfl hh
  have hh : pm_run PT n fr lo 236 (2, [some (.ref 162), none, none, none, none, none, none, none, none, none, none], [.int (nI 0), .ref 162], h, 198, sl) = some R := hh
  obtain ⟨n, hh⟩ := rn_pi hw.wt rfl rfl (by decide) rfl (by decide) rfl hh
  obtain ⟨n, hh⟩ := rn_i rfl rfl rfl rfl hh
  obtain ⟨n, hh⟩ := rn_i rfl rfl rfl rfl hh
  obtain ⟨n, hh⟩ := rn_i rfl rfl rfl rfl hh
  obtain ⟨n, hh⟩ := rn_i rfl rfl rfl rfl hh
  obtain ⟨n, hh⟩ := rn_i rfl rfl rfl rfl hh
  obtain ⟨n, hh⟩ := rn_i rfl rfl rfl rfl hh
  obtain ⟨n, hh⟩ := rn_i rfl rfl rfl rfl hh
  obtain ⟨n, hh⟩ := rn_i rfl rfl rfl rfl hh
  obtain ⟨n, hh⟩ := rn_i rfl rfl rfl rfl hh
  obtain ⟨n, hh⟩ := rn_i rfl rfl rfl rfl hh
  have hh : pm_run PT n fr lo 236 (17, [some (.ref 162), some (.int (nI 0)), some (.int (nI 0)), some (.int (nI 0)), some (.int (nI 0)), some (.int (nI 0)), none, none, none, none, none], [], fset h 162 0 (.int (nI 0)), 198, sl) = some R := hh
  obtain ⟨n, u6, u1, u2, u3, u4, u5, hc8, hf9, hn7, hh⟩ := v236_17_ok  (i := 0) (x1 := (nI 0)) (x2 := (nI 0)) (x3 := (nI 0)) (x4 := (nI 0)) (o6 := none) (o7 := none) (o8 := none) (o9 := none) (o10 := none) (j := gc) (by omega) (by omega) (hc_f rfl rfl (by decide) rfl hw) (NA_e (Ar_f.trans rfl) hol) hh
  have hh : pm_run PT n fr lo 236 (174, [some (.ref 162), some (.int ((v236_17 q cc gc gc 0 ((nI 0), (nI 0), (nI 0), (nI 0), fset h 162 0 (.int (nI 0)))).1)), some (.int ((v236_17 q cc gc gc 0 ((nI 0), (nI 0), (nI 0), (nI 0), fset h 162 0 (.int (nI 0)))).2.1)), some (.int ((v236_17 q cc gc gc 0 ((nI 0), (nI 0), (nI 0), (nI 0), fset h 162 0 (.int (nI 0)))).2.2.1)), some (.int ((v236_17 q cc gc gc 0 ((nI 0), (nI 0), (nI 0), (nI 0), fset h 162 0 (.int (nI 0)))).2.2.2.1)), u6, u1, u2, u3, u4, u5], [], (v236_17 q cc gc gc 0 ((nI 0), (nI 0), (nI 0), (nI 0), fset h 162 0 (.int (nI 0)))).2.2.2.2, 198, sl) = some R := hh
  obtain ⟨n, hh⟩ := rn_i rfl rfl rfl rfl hh
  obtain ⟨n, hh⟩ := rn_i rfl rfl rfl rfl hh
  have hh : pm_run PT n fr lo 236 (176, [some (.ref 162), some (.int ((v236_17 q cc gc gc 0 ((nI 0), (nI 0), (nI 0), (nI 0), fset h 162 0 (.int (nI 0)))).1)), some (.int ((v236_17 q cc gc gc 0 ((nI 0), (nI 0), (nI 0), (nI 0), fset h 162 0 (.int (nI 0)))).2.1)), some (.int ((v236_17 q cc gc gc 0 ((nI 0), (nI 0), (nI 0), (nI 0), fset h 162 0 (.int (nI 0)))).2.2.1)), some (.int ((v236_17 q cc gc gc 0 ((nI 0), (nI 0), (nI 0), (nI 0), fset h 162 0 (.int (nI 0)))).2.2.2.1)), u6, u1, u2, u3, u4, u5], [.int (nI 0), .ref 162], (v236_17 q cc gc gc 0 ((nI 0), (nI 0), (nI 0), (nI 0), fset h 162 0 (.int (nI 0)))).2.2.2.2, 198, sl) = some R := hh
  obtain ⟨n, hh⟩ := rn_pi hc8.wt rfl rfl (by decide) rfl (by decide) rfl hh
  obtain ⟨n, hh⟩ := rn_i rfl rfl rfl rfl hh
  have hh : pm_run PT n fr lo 236 (180, [some (.ref 162), some (.int ((v236_17 q cc gc gc 0 ((nI 0), (nI 0), (nI 0), (nI 0), fset h 162 0 (.int (nI 0)))).1)), some (.int ((v236_17 q cc gc gc 0 ((nI 0), (nI 0), (nI 0), (nI 0), fset h 162 0 (.int (nI 0)))).2.1)), some (.int ((v236_17 q cc gc gc 0 ((nI 0), (nI 0), (nI 0), (nI 0), fset h 162 0 (.int (nI 0)))).2.2.1)), some (.int ((v236_17 q cc gc gc 0 ((nI 0), (nI 0), (nI 0), (nI 0), fset h 162 0 (.int (nI 0)))).2.2.2.1)), u6, u1, u2, u3, u4, u5], [.int ((v236_17 q cc gc gc 0 ((nI 0), (nI 0), (nI 0), (nI 0), fset h 162 0 (.int (nI 0)))).1)], fset ((v236_17 q cc gc gc 0 ((nI 0), (nI 0), (nI 0), (nI 0), fset h 162 0 (.int (nI 0)))).2.2.2.2) 162 1 (.int (nI 0)), 198, sl) = some R := hh
  obtain ⟨n, hh⟩ := en_zn (cc := .le) (off := 22) (t := 202) (b := pm_cmp .le ((v236_17 q cc gc gc 0 ((nI 0), (nI 0), (nI 0), (nI 0), fset h 162 0 (.int (nI 0)))).1) 0) rfl rfl rfl hh
  cases z10 : pm_cmp .le ((v236_17 q cc gc gc 0 ((nI 0), (nI 0), (nI 0), (nI 0), fset h 162 0 (.int (nI 0)))).1) 0 with
  | true =>
    have hh := en_t z10 hh
    have hh : pm_run PT n fr lo 236 (202, [some (.ref 162), some (.int ((v236_17 q cc gc gc 0 ((nI 0), (nI 0), (nI 0), (nI 0), fset h 162 0 (.int (nI 0)))).1)), some (.int ((v236_17 q cc gc gc 0 ((nI 0), (nI 0), (nI 0), (nI 0), fset h 162 0 (.int (nI 0)))).2.1)), some (.int ((v236_17 q cc gc gc 0 ((nI 0), (nI 0), (nI 0), (nI 0), fset h 162 0 (.int (nI 0)))).2.2.1)), some (.int ((v236_17 q cc gc gc 0 ((nI 0), (nI 0), (nI 0), (nI 0), fset h 162 0 (.int (nI 0)))).2.2.2.1)), u6, u1, u2, u3, u4, u5], [], fset ((v236_17 q cc gc gc 0 ((nI 0), (nI 0), (nI 0), (nI 0), fset h 162 0 (.int (nI 0)))).2.2.2.2) 162 1 (.int (nI 0)), 198, sl) = some R := hh
    obtain ⟨n, hh⟩ := rn_i rfl rfl rfl rfl hh
    have hh : pm_run PT n fr lo 236 (203, [some (.ref 162), some (.int ((v236_17 q cc gc gc 0 ((nI 0), (nI 0), (nI 0), (nI 0), fset h 162 0 (.int (nI 0)))).1)), some (.int ((v236_17 q cc gc gc 0 ((nI 0), (nI 0), (nI 0), (nI 0), fset h 162 0 (.int (nI 0)))).2.1)), some (.int ((v236_17 q cc gc gc 0 ((nI 0), (nI 0), (nI 0), (nI 0), fset h 162 0 (.int (nI 0)))).2.2.1)), some (.int ((v236_17 q cc gc gc 0 ((nI 0), (nI 0), (nI 0), (nI 0), fset h 162 0 (.int (nI 0)))).2.2.2.1)), u6, u1, u2, u3, u4, u5], [.int ((v236_17 q cc gc gc 0 ((nI 0), (nI 0), (nI 0), (nI 0), fset h 162 0 (.int (nI 0)))).1)], fset ((v236_17 q cc gc gc 0 ((nI 0), (nI 0), (nI 0), (nI 0), fset h 162 0 (.int (nI 0)))).2.2.2.2) 162 1 (.int (nI 0)), 198, sl) = some R := hh
    have er11 : R = (some (.int ((v236_17 q cc gc gc 0 ((nI 0), (nI 0), (nI 0), (nI 0), fset h 162 0 (.int (nI 0)))).1)), fset ((v236_17 q cc gc gc 0 ((nI 0), (nI 0), (nI 0), (nI 0), fset h 162 0 (.int (nI 0)))).2.2.2.2) 162 1 (.int (nI 0)), 198, sl) := (rn_ret rfl (Or.inl rfl) hh).2
    have ed : v236 q cc gc h = ((v236_17 q cc gc gc 0 ((nI 0), (nI 0), (nI 0), (nI 0), fset h 162 0 (.int (nI 0)))).1, fset ((v236_17 q cc gc gc 0 ((nI 0), (nI 0), (nI 0), (nI 0), fset h 162 0 (.int (nI 0)))).2.2.2.2) 162 1 (.int (nI 0))) := (ct z10).trans rfl
    refine ⟨?_, ?_, ?_⟩ <;> rw [ed]
    · exact er11
    · exact (hc_f rfl rfl (by decide) rfl hc8)
    · exact (fr_f rfl rfl (fr_g rfl rfl hf9 (fr_f rfl rfl fr_0)))
  | false =>
    have hh := en_f z10 hh
    have hh : pm_run PT n fr lo 236 (183, [some (.ref 162), some (.int ((v236_17 q cc gc gc 0 ((nI 0), (nI 0), (nI 0), (nI 0), fset h 162 0 (.int (nI 0)))).1)), some (.int ((v236_17 q cc gc gc 0 ((nI 0), (nI 0), (nI 0), (nI 0), fset h 162 0 (.int (nI 0)))).2.1)), some (.int ((v236_17 q cc gc gc 0 ((nI 0), (nI 0), (nI 0), (nI 0), fset h 162 0 (.int (nI 0)))).2.2.1)), some (.int ((v236_17 q cc gc gc 0 ((nI 0), (nI 0), (nI 0), (nI 0), fset h 162 0 (.int (nI 0)))).2.2.2.1)), u6, u1, u2, u3, u4, u5], [], fset ((v236_17 q cc gc gc 0 ((nI 0), (nI 0), (nI 0), (nI 0), fset h 162 0 (.int (nI 0)))).2.2.2.2) 162 1 (.int (nI 0)), 198, sl) = some R := hh
    obtain ⟨n, hh⟩ := rn_i rfl rfl rfl rfl hh
    obtain ⟨n, hh⟩ := rn_i rfl rfl rfl rfl hh
    obtain ⟨n, hh⟩ := rn_i rfl rfl rfl rfl hh
    have hh : pm_run PT n fr lo 236 (186, [some (.ref 162), some (.int ((v236_17 q cc gc gc 0 ((nI 0), (nI 0), (nI 0), (nI 0), fset h 162 0 (.int (nI 0)))).1)), some (.int ((v236_17 q cc gc gc 0 ((nI 0), (nI 0), (nI 0), (nI 0), fset h 162 0 (.int (nI 0)))).2.1)), some (.int ((v236_17 q cc gc gc 0 ((nI 0), (nI 0), (nI 0), (nI 0), fset h 162 0 (.int (nI 0)))).2.2.1)), some (.int ((v236_17 q cc gc gc 0 ((nI 0), (nI 0), (nI 0), (nI 0), fset h 162 0 (.int (nI 0)))).2.2.2.1)), u6, u1, u2, u3, u4, u5], [.long (((v236_17 q cc gc gc 0 ((nI 0), (nI 0), (nI 0), (nI 0), fset h 162 0 (.int (nI 0)))).2.1).toInt64), .ref 162], fset ((v236_17 q cc gc gc 0 ((nI 0), (nI 0), (nI 0), (nI 0), fset h 162 0 (.int (nI 0)))).2.2.2.2) 162 1 (.int (nI 0)), 198, sl) = some R := hh
    obtain ⟨n, fr1, lo1, r1, hh1, hh⟩ := rn_call (w := 0) (t := 167) rfl rfl hh
    obtain ⟨er12, hc13, hf14⟩ := v167_ok (v := (((v236_17 q cc gc gc 0 ((nI 0), (nI 0), (nI 0), (nI 0), fset h 162 0 (.int (nI 0)))).2.1).toInt64)) (hc_f rfl rfl (by decide) rfl hc8) hh1
    subst er12
    obtain ⟨n, hh⟩ := rn_i rfl rfl rfl rfl hh
    obtain ⟨n, hh⟩ := rn_i rfl rfl rfl rfl hh
    obtain ⟨n, hh⟩ := rn_i rfl rfl rfl rfl hh
    have hh : pm_run PT n fr lo 236 (192, [some (.ref 162), some (.int ((v236_17 q cc gc gc 0 ((nI 0), (nI 0), (nI 0), (nI 0), fset h 162 0 (.int (nI 0)))).1)), some (.int ((v236_17 q cc gc gc 0 ((nI 0), (nI 0), (nI 0), (nI 0), fset h 162 0 (.int (nI 0)))).2.1)), some (.int ((v236_17 q cc gc gc 0 ((nI 0), (nI 0), (nI 0), (nI 0), fset h 162 0 (.int (nI 0)))).2.2.1)), some (.int ((v236_17 q cc gc gc 0 ((nI 0), (nI 0), (nI 0), (nI 0), fset h 162 0 (.int (nI 0)))).2.2.2.1)), u6, u1, u2, u3, u4, u5], [.long (((v236_17 q cc gc gc 0 ((nI 0), (nI 0), (nI 0), (nI 0), fset h 162 0 (.int (nI 0)))).2.2.1).toInt64), .ref 162], v167 q cc gc (fset ((v236_17 q cc gc gc 0 ((nI 0), (nI 0), (nI 0), (nI 0), fset h 162 0 (.int (nI 0)))).2.2.2.2) 162 1 (.int (nI 0))) (((v236_17 q cc gc gc 0 ((nI 0), (nI 0), (nI 0), (nI 0), fset h 162 0 (.int (nI 0)))).2.1).toInt64), 198, sl) = some R := hh
    obtain ⟨n, fr1, lo1, r1, hh1, hh⟩ := rn_call (w := 0) (t := 167) rfl rfl hh
    obtain ⟨er15, hc16, hf17⟩ := v167_ok (v := (((v236_17 q cc gc gc 0 ((nI 0), (nI 0), (nI 0), (nI 0), fset h 162 0 (.int (nI 0)))).2.2.1).toInt64)) hc13 hh1
    subst er15
    obtain ⟨n, hh⟩ := rn_i rfl rfl rfl rfl hh
    obtain ⟨n, hh⟩ := rn_i rfl rfl rfl rfl hh
    obtain ⟨n, hh⟩ := rn_i rfl rfl rfl rfl hh
    have hh : pm_run PT n fr lo 236 (199, [some (.ref 162), some (.int ((v236_17 q cc gc gc 0 ((nI 0), (nI 0), (nI 0), (nI 0), fset h 162 0 (.int (nI 0)))).1)), some (.int ((v236_17 q cc gc gc 0 ((nI 0), (nI 0), (nI 0), (nI 0), fset h 162 0 (.int (nI 0)))).2.1)), some (.int ((v236_17 q cc gc gc 0 ((nI 0), (nI 0), (nI 0), (nI 0), fset h 162 0 (.int (nI 0)))).2.2.1)), some (.int ((v236_17 q cc gc gc 0 ((nI 0), (nI 0), (nI 0), (nI 0), fset h 162 0 (.int (nI 0)))).2.2.2.1)), u6, u1, u2, u3, u4, u5], [.long (((v236_17 q cc gc gc 0 ((nI 0), (nI 0), (nI 0), (nI 0), fset h 162 0 (.int (nI 0)))).2.2.2.1).toInt64), .ref 162], v167 q cc gc (v167 q cc gc (fset ((v236_17 q cc gc gc 0 ((nI 0), (nI 0), (nI 0), (nI 0), fset h 162 0 (.int (nI 0)))).2.2.2.2) 162 1 (.int (nI 0))) (((v236_17 q cc gc gc 0 ((nI 0), (nI 0), (nI 0), (nI 0), fset h 162 0 (.int (nI 0)))).2.1).toInt64)) (((v236_17 q cc gc gc 0 ((nI 0), (nI 0), (nI 0), (nI 0), fset h 162 0 (.int (nI 0)))).2.2.1).toInt64), 198, sl) = some R := hh
    obtain ⟨n, fr1, lo1, r1, hh1, hh⟩ := rn_call (w := 0) (t := 167) rfl rfl hh
    obtain ⟨er18, hc19, hf20⟩ := v167_ok (v := (((v236_17 q cc gc gc 0 ((nI 0), (nI 0), (nI 0), (nI 0), fset h 162 0 (.int (nI 0)))).2.2.2.1).toInt64)) hc16 hh1
    subst er18
    obtain ⟨n, hh⟩ := rn_i rfl rfl rfl rfl hh
    have hh : pm_run PT n fr lo 236 (203, [some (.ref 162), some (.int ((v236_17 q cc gc gc 0 ((nI 0), (nI 0), (nI 0), (nI 0), fset h 162 0 (.int (nI 0)))).1)), some (.int ((v236_17 q cc gc gc 0 ((nI 0), (nI 0), (nI 0), (nI 0), fset h 162 0 (.int (nI 0)))).2.1)), some (.int ((v236_17 q cc gc gc 0 ((nI 0), (nI 0), (nI 0), (nI 0), fset h 162 0 (.int (nI 0)))).2.2.1)), some (.int ((v236_17 q cc gc gc 0 ((nI 0), (nI 0), (nI 0), (nI 0), fset h 162 0 (.int (nI 0)))).2.2.2.1)), u6, u1, u2, u3, u4, u5], [.int ((v236_17 q cc gc gc 0 ((nI 0), (nI 0), (nI 0), (nI 0), fset h 162 0 (.int (nI 0)))).1)], v167 q cc gc (v167 q cc gc (v167 q cc gc (fset ((v236_17 q cc gc gc 0 ((nI 0), (nI 0), (nI 0), (nI 0), fset h 162 0 (.int (nI 0)))).2.2.2.2) 162 1 (.int (nI 0))) (((v236_17 q cc gc gc 0 ((nI 0), (nI 0), (nI 0), (nI 0), fset h 162 0 (.int (nI 0)))).2.1).toInt64)) (((v236_17 q cc gc gc 0 ((nI 0), (nI 0), (nI 0), (nI 0), fset h 162 0 (.int (nI 0)))).2.2.1).toInt64)) (((v236_17 q cc gc gc 0 ((nI 0), (nI 0), (nI 0), (nI 0), fset h 162 0 (.int (nI 0)))).2.2.2.1).toInt64), 198, sl) = some R := hh
    have er21 : R = (some (.int ((v236_17 q cc gc gc 0 ((nI 0), (nI 0), (nI 0), (nI 0), fset h 162 0 (.int (nI 0)))).1)), v167 q cc gc (v167 q cc gc (v167 q cc gc (fset ((v236_17 q cc gc gc 0 ((nI 0), (nI 0), (nI 0), (nI 0), fset h 162 0 (.int (nI 0)))).2.2.2.2) 162 1 (.int (nI 0))) (((v236_17 q cc gc gc 0 ((nI 0), (nI 0), (nI 0), (nI 0), fset h 162 0 (.int (nI 0)))).2.1).toInt64)) (((v236_17 q cc gc gc 0 ((nI 0), (nI 0), (nI 0), (nI 0), fset h 162 0 (.int (nI 0)))).2.2.1).toInt64)) (((v236_17 q cc gc gc 0 ((nI 0), (nI 0), (nI 0), (nI 0), fset h 162 0 (.int (nI 0)))).2.2.2.1).toInt64), 198, sl) := (rn_ret rfl (Or.inl rfl) hh).2
    have ed : v236 q cc gc h = ((v236_17 q cc gc gc 0 ((nI 0), (nI 0), (nI 0), (nI 0), fset h 162 0 (.int (nI 0)))).1, v167 q cc gc (v167 q cc gc (v167 q cc gc (fset ((v236_17 q cc gc gc 0 ((nI 0), (nI 0), (nI 0), (nI 0), fset h 162 0 (.int (nI 0)))).2.2.2.2) 162 1 (.int (nI 0))) (((v236_17 q cc gc gc 0 ((nI 0), (nI 0), (nI 0), (nI 0), fset h 162 0 (.int (nI 0)))).2.1).toInt64)) (((v236_17 q cc gc gc 0 ((nI 0), (nI 0), (nI 0), (nI 0), fset h 162 0 (.int (nI 0)))).2.2.1).toInt64)) (((v236_17 q cc gc gc 0 ((nI 0), (nI 0), (nI 0), (nI 0), fset h 162 0 (.int (nI 0)))).2.2.2.1).toInt64)) := (cf z10).trans rfl
    refine ⟨?_, ?_, ?_⟩ <;> rw [ed]
    · exact er21
    · exact hc19
    · exact (fr_g rfl rfl hf20 (fr_g rfl rfl hf17 (fr_g rfl rfl hf14 (fr_f rfl rfl (fr_g rfl rfl hf9 (fr_f rfl rfl fr_0))))))
theorem v236_fr {cc gc : Nat} {q : QT} {h : pm_H} (hw : HC q cc gc h) : HC q cc gc ((v236 q cc gc h).2) ∧ frm [162, 163, 176, 177] [(162, 0), (162, 1)] h ((v236 q cc gc h).2) := by
  unfold v236
  refine cd_s (P := fun (p : Int32 × pm_H) => HC q cc gc ((p).2) ∧ frm [162, 163, 176, 177] [(162, 0), (162, 1)] h ((p).2)) (b := pm_cmp .le ((v236_17 q cc gc gc 0 ((nI 0), (nI 0), (nI 0), (nI 0), fset h 162 0 (.int (nI 0)))).1) 0) (fun _ => ?_) (fun _ => ?_)
  · show HC q cc gc (fset ((v236_17 q cc gc gc 0 ((nI 0), (nI 0), (nI 0), (nI 0), fset h 162 0 (.int (nI 0)))).2.2.2.2) 162 1 (.int (nI 0))) ∧ frm [162, 163, 176, 177] [(162, 0), (162, 1)] h (fset ((v236_17 q cc gc gc 0 ((nI 0), (nI 0), (nI 0), (nI 0), fset h 162 0 (.int (nI 0)))).2.2.2.2) 162 1 (.int (nI 0)))
    exact ⟨(hc_f rfl rfl (by decide) rfl (v236_17_fr (j := gc) (i := 0) (x1 := (nI 0)) (x2 := (nI 0)) (x3 := (nI 0)) (x4 := (nI 0)) (hc_f rfl rfl (by decide) rfl hw)).1), (fr_f rfl rfl (fr_g rfl rfl (v236_17_fr (j := gc) (i := 0) (x1 := (nI 0)) (x2 := (nI 0)) (x3 := (nI 0)) (x4 := (nI 0)) (hc_f rfl rfl (by decide) rfl hw)).2 (fr_f rfl rfl fr_0)))⟩
  · show HC q cc gc (v167 q cc gc (v167 q cc gc (v167 q cc gc (fset ((v236_17 q cc gc gc 0 ((nI 0), (nI 0), (nI 0), (nI 0), fset h 162 0 (.int (nI 0)))).2.2.2.2) 162 1 (.int (nI 0))) (((v236_17 q cc gc gc 0 ((nI 0), (nI 0), (nI 0), (nI 0), fset h 162 0 (.int (nI 0)))).2.1).toInt64)) (((v236_17 q cc gc gc 0 ((nI 0), (nI 0), (nI 0), (nI 0), fset h 162 0 (.int (nI 0)))).2.2.1).toInt64)) (((v236_17 q cc gc gc 0 ((nI 0), (nI 0), (nI 0), (nI 0), fset h 162 0 (.int (nI 0)))).2.2.2.1).toInt64)) ∧ frm [162, 163, 176, 177] [(162, 0), (162, 1)] h (v167 q cc gc (v167 q cc gc (v167 q cc gc (fset ((v236_17 q cc gc gc 0 ((nI 0), (nI 0), (nI 0), (nI 0), fset h 162 0 (.int (nI 0)))).2.2.2.2) 162 1 (.int (nI 0))) (((v236_17 q cc gc gc 0 ((nI 0), (nI 0), (nI 0), (nI 0), fset h 162 0 (.int (nI 0)))).2.1).toInt64)) (((v236_17 q cc gc gc 0 ((nI 0), (nI 0), (nI 0), (nI 0), fset h 162 0 (.int (nI 0)))).2.2.1).toInt64)) (((v236_17 q cc gc gc 0 ((nI 0), (nI 0), (nI 0), (nI 0), fset h 162 0 (.int (nI 0)))).2.2.2.1).toInt64))
    exact ⟨(v167_fr (v := (((v236_17 q cc gc gc 0 ((nI 0), (nI 0), (nI 0), (nI 0), fset h 162 0 (.int (nI 0)))).2.2.2.1).toInt64)) (v167_fr (v := (((v236_17 q cc gc gc 0 ((nI 0), (nI 0), (nI 0), (nI 0), fset h 162 0 (.int (nI 0)))).2.2.1).toInt64)) (v167_fr (v := (((v236_17 q cc gc gc 0 ((nI 0), (nI 0), (nI 0), (nI 0), fset h 162 0 (.int (nI 0)))).2.1).toInt64)) (hc_f rfl rfl (by decide) rfl (v236_17_fr (j := gc) (i := 0) (x1 := (nI 0)) (x2 := (nI 0)) (x3 := (nI 0)) (x4 := (nI 0)) (hc_f rfl rfl (by decide) rfl hw)).1)).1).1).1, (fr_g rfl rfl (v167_fr (v := (((v236_17 q cc gc gc 0 ((nI 0), (nI 0), (nI 0), (nI 0), fset h 162 0 (.int (nI 0)))).2.2.2.1).toInt64)) (v167_fr (v := (((v236_17 q cc gc gc 0 ((nI 0), (nI 0), (nI 0), (nI 0), fset h 162 0 (.int (nI 0)))).2.2.1).toInt64)) (v167_fr (v := (((v236_17 q cc gc gc 0 ((nI 0), (nI 0), (nI 0), (nI 0), fset h 162 0 (.int (nI 0)))).2.1).toInt64)) (hc_f rfl rfl (by decide) rfl (v236_17_fr (j := gc) (i := 0) (x1 := (nI 0)) (x2 := (nI 0)) (x3 := (nI 0)) (x4 := (nI 0)) (hc_f rfl rfl (by decide) rfl hw)).1)).1).1).2 (fr_g rfl rfl (v167_fr (v := (((v236_17 q cc gc gc 0 ((nI 0), (nI 0), (nI 0), (nI 0), fset h 162 0 (.int (nI 0)))).2.2.1).toInt64)) (v167_fr (v := (((v236_17 q cc gc gc 0 ((nI 0), (nI 0), (nI 0), (nI 0), fset h 162 0 (.int (nI 0)))).2.1).toInt64)) (hc_f rfl rfl (by decide) rfl (v236_17_fr (j := gc) (i := 0) (x1 := (nI 0)) (x2 := (nI 0)) (x3 := (nI 0)) (x4 := (nI 0)) (hc_f rfl rfl (by decide) rfl hw)).1)).1).2 (fr_g rfl rfl (v167_fr (v := (((v236_17 q cc gc gc 0 ((nI 0), (nI 0), (nI 0), (nI 0), fset h 162 0 (.int (nI 0)))).2.1).toInt64)) (hc_f rfl rfl (by decide) rfl (v236_17_fr (j := gc) (i := 0) (x1 := (nI 0)) (x2 := (nI 0)) (x3 := (nI 0)) (x4 := (nI 0)) (hc_f rfl rfl (by decide) rfl hw)).1)).2 (fr_f rfl rfl (fr_g rfl rfl (v236_17_fr (j := gc) (i := 0) (x1 := (nI 0)) (x2 := (nI 0)) (x3 := (nI 0)) (x4 := (nI 0)) (hc_f rfl rfl (by decide) rfl hw)).2 (fr_f rfl rfl fr_0))))))⟩
def v242 (q : QT) (cc gc : Nat) (h : pm_H) (c : Nat) : Int32 × pm_H := cond (decide (c < cc)) (cond (pm_cmp .ge ((v241 q cc gc (v229 q cc gc (fset h 162 0 (.int (nI 0)))) c).1) 0) ((v241 q cc gc (v229 q cc gc (fset h 162 0 (.int (nI 0)))) c).1, v167 q cc gc (v167 q cc gc (fset ((v241 q cc gc (v229 q cc gc (fset h 162 0 (.int (nI 0)))) c).2) 162 1 (.int (nI 0))) ((v269 q cc gc (Fi ((v241 q cc gc (v229 q cc gc (fset h 162 0 (.int (nI 0)))) c).2) 162 41)).toInt64)) (((Ar ((v241 q cc gc (v229 q cc gc (fset h 162 0 (.int (nI 0)))) c).2) 171) c).toInt64)) ((Int32.ofInt (-2)), (v241 q cc gc (v229 q cc gc (fset h 162 0 (.int (nI 0)))) c).2)) ((Int32.ofInt (-1)), fset h 162 0 (.int (nI 0)))
theorem v242_ok {n fr lo sl cc gc : Nat} {q : QT} {h : pm_H} {R : pm_Rs} {c : Nat} (hw : HC q cc gc h) (h_c : c < 10000) (hh : pm_run PT n fr lo 242 (0, pm_l0 [.ref 162, .int (nI c)] 3, [], h, 198, sl) = some R) : R = (some (.int ((v242 q cc gc h c).1)), (v242 q cc gc h c).2, 198, sl) ∧ HC q cc gc ((v242 q cc gc h c).2) ∧ frm [162, 163, 171] [(162, 0), (162, 1), (162, 41)] h ((v242 q cc gc h c).2) := by
  have hcc := hw.cb
  have hgc := hw.gb
  have hzr := hw.zr
  obtain ⟨n, hh⟩ := rn_i rfl rfl rfl rfl hh
  obtain ⟨n, hh⟩ := rn_i rfl rfl rfl rfl hh
  have hh : pm_run PT n fr lo 242 (2, [some (.ref 162), some (.int (nI c)), none], [.int (nI 0), .ref 162], h, 198, sl) = some R := hh
  obtain ⟨n, hh⟩ := rn_pi hw.wt rfl rfl (by decide) rfl (by decide) rfl hh
  obtain ⟨n, hh⟩ := rn_i rfl rfl rfl rfl hh
  obtain ⟨n, hh⟩ := rn_i rfl rfl rfl rfl hh
  have hh : pm_run PT n fr lo 242 (7, [some (.ref 162), some (.int (nI c)), none], [.int (nI c), .ref 162], fset h 162 0 (.int (nI 0)), 198, sl) = some R := hh
  obtain ⟨n, fr1, lo1, r1, hh1, hh⟩ := rn_call (w := 0) (t := 168) rfl rfl hh
  have er1 := mi_run hcc (hc_m3 (hc_f rfl rfl (by decide) rfl hw)) hh1
  rw [cB_n (by omega)] at er1
  subst er1
  have hh : pm_run PT n fr lo 242 (10, [some (.ref 162), some (.int (nI c)), none], [.int (cond (decide (c < cc)) 1 0)], fset h 162 0 (.int (nI 0)), 198, sl) = some R := hh
  obtain ⟨n, hh⟩ := en_zn (cc := .ne) (off := 5) (t := 15) (b := decide (c < cc)) eb_ne rfl rfl hh
  cases z2 : decide (c < cc) with
  | true =>
    have hh := en_t z2 hh
    have hh : pm_run PT n fr lo 242 (15, [some (.ref 162), some (.int (nI c)), none], [], fset h 162 0 (.int (nI 0)), 198, sl) = some R := hh
    have y3 := of_decide_eq_true z2
    obtain ⟨n, hh⟩ := rn_i rfl rfl rfl rfl hh
    have hh : pm_run PT n fr lo 242 (16, [some (.ref 162), some (.int (nI c)), none], [.ref 162], fset h 162 0 (.int (nI 0)), 198, sl) = some R := hh
    obtain ⟨n, fr1, lo1, r1, hh1, hh⟩ := rn_call (w := 0) (t := 229) rfl rfl hh
    obtain ⟨er4, hc5, hf6⟩ := v229_ok (hc_f rfl rfl (by decide) rfl hw) hh1
    subst er4
    obtain ⟨n, hh⟩ := rn_i rfl rfl rfl rfl hh
    obtain ⟨n, hh⟩ := rn_i rfl rfl rfl rfl hh
    have hh : pm_run PT n fr lo 242 (21, [some (.ref 162), some (.int (nI c)), none], [.int (nI c), .ref 162], v229 q cc gc (fset h 162 0 (.int (nI 0))), 198, sl) = some R := hh
    obtain ⟨n, fr1, lo1, r1, hh1, hh⟩ := rn_call (w := 0) (t := 241) rfl rfl hh
    obtain ⟨er7, hc8, hf9⟩ := v241_ok (c := c) hc5 (by omega) hh1
    subst er7
    obtain ⟨n, hh⟩ := rn_i rfl rfl rfl rfl hh
    obtain ⟨n, hh⟩ := rn_i rfl rfl rfl rfl hh
    have hh : pm_run PT n fr lo 242 (26, [some (.ref 162), some (.int (nI c)), some (.int ((v241 q cc gc (v229 q cc gc (fset h 162 0 (.int (nI 0)))) c).1))], [.int ((v241 q cc gc (v229 q cc gc (fset h 162 0 (.int (nI 0)))) c).1)], (v241 q cc gc (v229 q cc gc (fset h 162 0 (.int (nI 0)))) c).2, 198, sl) = some R := hh
    obtain ⟨n, hh⟩ := en_zn (cc := .ge) (off := 6) (t := 32) (b := pm_cmp .ge ((v241 q cc gc (v229 q cc gc (fset h 162 0 (.int (nI 0)))) c).1) 0) rfl rfl rfl hh
    cases z10 : pm_cmp .ge ((v241 q cc gc (v229 q cc gc (fset h 162 0 (.int (nI 0)))) c).1) 0 with
    | true =>
      have hh := en_t z10 hh
      have hh : pm_run PT n fr lo 242 (32, [some (.ref 162), some (.int (nI c)), some (.int ((v241 q cc gc (v229 q cc gc (fset h 162 0 (.int (nI 0)))) c).1))], [], (v241 q cc gc (v229 q cc gc (fset h 162 0 (.int (nI 0)))) c).2, 198, sl) = some R := hh
      obtain ⟨n, hh⟩ := rn_i rfl rfl rfl rfl hh
      obtain ⟨n, hh⟩ := rn_i rfl rfl rfl rfl hh
      have hh : pm_run PT n fr lo 242 (34, [some (.ref 162), some (.int (nI c)), some (.int ((v241 q cc gc (v229 q cc gc (fset h 162 0 (.int (nI 0)))) c).1))], [.int (nI 0), .ref 162], (v241 q cc gc (v229 q cc gc (fset h 162 0 (.int (nI 0)))) c).2, 198, sl) = some R := hh
      obtain ⟨n, hh⟩ := rn_pi hc8.wt rfl rfl (by decide) rfl (by decide) rfl hh
      obtain ⟨n, hh⟩ := rn_i rfl rfl rfl rfl hh
      obtain ⟨n, hh⟩ := rn_i rfl rfl rfl rfl hh
      have hh : pm_run PT n fr lo 242 (39, [some (.ref 162), some (.int (nI c)), some (.int ((v241 q cc gc (v229 q cc gc (fset h 162 0 (.int (nI 0)))) c).1))], [.ref 162, .ref 162], fset ((v241 q cc gc (v229 q cc gc (fset h 162 0 (.int (nI 0)))) c).2) 162 1 (.int (nI 0)), 198, sl) = some R := hh
      obtain ⟨n, hh⟩ := rn_gi (x := Fi ((v241 q cc gc (v229 q cc gc (fset h 162 0 (.int (nI 0)))) c).2) 162 41) (hc_f rfl rfl (by decide) rfl hc8).wt rfl rfl (by decide) rfl (by decide) rfl ((Fi_n (Or.inr (by decide))).trans rfl) hh
      have hh : pm_run PT n fr lo 242 (42, [some (.ref 162), some (.int (nI c)), some (.int ((v241 q cc gc (v229 q cc gc (fset h 162 0 (.int (nI 0)))) c).1))], [.int (Fi ((v241 q cc gc (v229 q cc gc (fset h 162 0 (.int (nI 0)))) c).2) 162 41), .ref 162], fset ((v241 q cc gc (v229 q cc gc (fset h 162 0 (.int (nI 0)))) c).2) 162 1 (.int (nI 0)), 198, sl) = some R := hh
      obtain ⟨n, fr1, lo1, r1, hh1, hh⟩ := rn_call (w := 2) (t := 269) rfl rfl hh
      have er11 := v269_ok (a := (Fi ((v241 q cc gc (v229 q cc gc (fset h 162 0 (.int (nI 0)))) c).2) 162 41)) (hc_f rfl rfl (by decide) rfl hc8) hh1
      subst er11
      obtain ⟨n, hh⟩ := rn_i rfl rfl rfl rfl hh
      have hh : pm_run PT n fr lo 242 (46, [some (.ref 162), some (.int (nI c)), some (.int ((v241 q cc gc (v229 q cc gc (fset h 162 0 (.int (nI 0)))) c).1))], [.long ((v269 q cc gc (Fi ((v241 q cc gc (v229 q cc gc (fset h 162 0 (.int (nI 0)))) c).2) 162 41)).toInt64), .ref 162], fset ((v241 q cc gc (v229 q cc gc (fset h 162 0 (.int (nI 0)))) c).2) 162 1 (.int (nI 0)), 198, sl) = some R := hh
      obtain ⟨n, fr1, lo1, r1, hh1, hh⟩ := rn_call (w := 0) (t := 167) rfl rfl hh
      obtain ⟨er12, hc13, hf14⟩ := v167_ok (v := ((v269 q cc gc (Fi ((v241 q cc gc (v229 q cc gc (fset h 162 0 (.int (nI 0)))) c).2) 162 41)).toInt64)) (hc_f rfl rfl (by decide) rfl hc8) hh1
      subst er12
      obtain ⟨n, hh⟩ := rn_i rfl rfl rfl rfl hh
      obtain ⟨n, hh⟩ := rn_i rfl rfl rfl rfl hh
      have hh : pm_run PT n fr lo 242 (51, [some (.ref 162), some (.int (nI c)), some (.int ((v241 q cc gc (v229 q cc gc (fset h 162 0 (.int (nI 0)))) c).1))], [.ref 162, .ref 162], v167 q cc gc (fset ((v241 q cc gc (v229 q cc gc (fset h 162 0 (.int (nI 0)))) c).2) 162 1 (.int (nI 0))) ((v269 q cc gc (Fi ((v241 q cc gc (v229 q cc gc (fset h 162 0 (.int (nI 0)))) c).2) 162 41)).toInt64), 198, sl) = some R := hh
      obtain ⟨n, hh⟩ := rn_gr hc13.wt rfl rfl (by decide) rfl (by decide) (show _ = some (2, ((171 : Nat) : Int), 1) from rfl) rfl hh
      obtain ⟨n, hh⟩ := rn_i rfl rfl rfl rfl hh
      have hh : pm_run PT n fr lo 242 (55, [some (.ref 162), some (.int (nI c)), some (.int ((v241 q cc gc (v229 q cc gc (fset h 162 0 (.int (nI 0)))) c).1))], [.int (nI c), .ref 171, .ref 162], v167 q cc gc (fset ((v241 q cc gc (v229 q cc gc (fset h 162 0 (.int (nI 0)))) c).2) 162 1 (.int (nI 0))) ((v269 q cc gc (Fi ((v241 q cc gc (v229 q cc gc (fset h 162 0 (.int (nI 0)))) c).2) 162 41)).toInt64), 198, sl) = some R := hh
      obtain ⟨n, hx15, hh⟩ := en_lu (t := c) (f := Ar ((v241 q cc gc (v229 q cc gc (fset h 162 0 (.int (nI 0)))) c).2) 171) (w := (Ar ((v241 q cc gc (v229 q cc gc (fset h 162 0 (.int (nI 0)))) c).2) 171) c) (nI_clamp (by omega)) hc13.wt rfl (by decide) rfl (by decide) ((Ar_e (hf14.1 171 rfl)).trans (Ar_f.trans rfl)) (fun _ => rfl) hh
      obtain ⟨n, hh⟩ := rn_i rfl rfl rfl rfl hh
      have hh : pm_run PT n fr lo 242 (57, [some (.ref 162), some (.int (nI c)), some (.int ((v241 q cc gc (v229 q cc gc (fset h 162 0 (.int (nI 0)))) c).1))], [.long (((Ar ((v241 q cc gc (v229 q cc gc (fset h 162 0 (.int (nI 0)))) c).2) 171) c).toInt64), .ref 162], v167 q cc gc (fset ((v241 q cc gc (v229 q cc gc (fset h 162 0 (.int (nI 0)))) c).2) 162 1 (.int (nI 0))) ((v269 q cc gc (Fi ((v241 q cc gc (v229 q cc gc (fset h 162 0 (.int (nI 0)))) c).2) 162 41)).toInt64), 198, sl) = some R := hh
      obtain ⟨n, fr1, lo1, r1, hh1, hh⟩ := rn_call (w := 0) (t := 167) rfl rfl hh
      obtain ⟨er16, hc17, hf18⟩ := v167_ok (v := (((Ar ((v241 q cc gc (v229 q cc gc (fset h 162 0 (.int (nI 0)))) c).2) 171) c).toInt64)) hc13 hh1
      subst er16
      obtain ⟨n, hh⟩ := rn_i rfl rfl rfl rfl hh
      have hh : pm_run PT n fr lo 242 (61, [some (.ref 162), some (.int (nI c)), some (.int ((v241 q cc gc (v229 q cc gc (fset h 162 0 (.int (nI 0)))) c).1))], [.int ((v241 q cc gc (v229 q cc gc (fset h 162 0 (.int (nI 0)))) c).1)], v167 q cc gc (v167 q cc gc (fset ((v241 q cc gc (v229 q cc gc (fset h 162 0 (.int (nI 0)))) c).2) 162 1 (.int (nI 0))) ((v269 q cc gc (Fi ((v241 q cc gc (v229 q cc gc (fset h 162 0 (.int (nI 0)))) c).2) 162 41)).toInt64)) (((Ar ((v241 q cc gc (v229 q cc gc (fset h 162 0 (.int (nI 0)))) c).2) 171) c).toInt64), 198, sl) = some R := hh
      have er19 : R = (some (.int ((v241 q cc gc (v229 q cc gc (fset h 162 0 (.int (nI 0)))) c).1)), v167 q cc gc (v167 q cc gc (fset ((v241 q cc gc (v229 q cc gc (fset h 162 0 (.int (nI 0)))) c).2) 162 1 (.int (nI 0))) ((v269 q cc gc (Fi ((v241 q cc gc (v229 q cc gc (fset h 162 0 (.int (nI 0)))) c).2) 162 41)).toInt64)) (((Ar ((v241 q cc gc (v229 q cc gc (fset h 162 0 (.int (nI 0)))) c).2) 171) c).toInt64), 198, sl) := (rn_ret rfl (Or.inl rfl) hh).2
      have ed : v242 q cc gc h c = ((v241 q cc gc (v229 q cc gc (fset h 162 0 (.int (nI 0)))) c).1, v167 q cc gc (v167 q cc gc (fset ((v241 q cc gc (v229 q cc gc (fset h 162 0 (.int (nI 0)))) c).2) 162 1 (.int (nI 0))) ((v269 q cc gc (Fi ((v241 q cc gc (v229 q cc gc (fset h 162 0 (.int (nI 0)))) c).2) 162 41)).toInt64)) (((Ar ((v241 q cc gc (v229 q cc gc (fset h 162 0 (.int (nI 0)))) c).2) 171) c).toInt64)) := (ct z2).trans ((ct z10).trans rfl)
      refine ⟨?_, ?_, ?_⟩ <;> rw [ed]
      · exact er19
      · exact hc17
      · exact (fr_g rfl rfl hf18 (fr_g rfl rfl hf14 (fr_f rfl rfl (fr_g rfl rfl hf9 (fr_g rfl rfl hf6 (fr_f rfl rfl fr_0))))))
    | false =>
      have hh := en_f z10 hh
      have hh : pm_run PT n fr lo 242 (29, [some (.ref 162), some (.int (nI c)), some (.int ((v241 q cc gc (v229 q cc gc (fset h 162 0 (.int (nI 0)))) c).1))], [], (v241 q cc gc (v229 q cc gc (fset h 162 0 (.int (nI 0)))) c).2, 198, sl) = some R := hh
      obtain ⟨n, hh⟩ := rn_i rfl rfl rfl rfl hh
      have hh : pm_run PT n fr lo 242 (31, [some (.ref 162), some (.int (nI c)), some (.int ((v241 q cc gc (v229 q cc gc (fset h 162 0 (.int (nI 0)))) c).1))], [.int (Int32.ofInt (-2))], (v241 q cc gc (v229 q cc gc (fset h 162 0 (.int (nI 0)))) c).2, 198, sl) = some R := hh
      have er20 : R = (some (.int (Int32.ofInt (-2))), (v241 q cc gc (v229 q cc gc (fset h 162 0 (.int (nI 0)))) c).2, 198, sl) := (rn_ret rfl (Or.inl rfl) hh).2
      have ed : v242 q cc gc h c = ((Int32.ofInt (-2)), (v241 q cc gc (v229 q cc gc (fset h 162 0 (.int (nI 0)))) c).2) := (ct z2).trans ((cf z10).trans rfl)
      refine ⟨?_, ?_, ?_⟩ <;> rw [ed]
      · exact er20
      · exact hc8
      · exact (fr_g rfl rfl hf9 (fr_g rfl rfl hf6 (fr_f rfl rfl fr_0)))
  | false =>
    have hh := en_f z2 hh
    have hh : pm_run PT n fr lo 242 (13, [some (.ref 162), some (.int (nI c)), none], [], fset h 162 0 (.int (nI 0)), 198, sl) = some R := hh
    have y21 := of_decide_eq_false z2
    obtain ⟨n, hh⟩ := rn_i rfl rfl rfl rfl hh
    have hh : pm_run PT n fr lo 242 (14, [some (.ref 162), some (.int (nI c)), none], [.int (Int32.ofInt (-1))], fset h 162 0 (.int (nI 0)), 198, sl) = some R := hh
    have er22 : R = (some (.int (Int32.ofInt (-1))), fset h 162 0 (.int (nI 0)), 198, sl) := (rn_ret rfl (Or.inl rfl) hh).2
    have ed : v242 q cc gc h c = ((Int32.ofInt (-1)), fset h 162 0 (.int (nI 0))) := (cf z2).trans rfl
    refine ⟨?_, ?_, ?_⟩ <;> rw [ed]
    · exact er22
    · exact (hc_f rfl rfl (by decide) rfl hw)
    · exact (fr_f rfl rfl fr_0)
theorem v242_fr {cc gc : Nat} {q : QT} {h : pm_H} {c : Nat} (hw : HC q cc gc h) : HC q cc gc ((v242 q cc gc h c).2) ∧ frm [162, 163, 171] [(162, 0), (162, 1), (162, 41)] h ((v242 q cc gc h c).2) := by
  unfold v242
  refine cd_s (P := fun (p : Int32 × pm_H) => HC q cc gc ((p).2) ∧ frm [162, 163, 171] [(162, 0), (162, 1), (162, 41)] h ((p).2)) (b := decide (c < cc)) (fun _ => ?_) (fun _ => ?_)
  · refine cd_s (P := fun (p : Int32 × pm_H) => HC q cc gc ((p).2) ∧ frm [162, 163, 171] [(162, 0), (162, 1), (162, 41)] h ((p).2)) (b := pm_cmp .ge ((v241 q cc gc (v229 q cc gc (fset h 162 0 (.int (nI 0)))) c).1) 0) (fun _ => ?_) (fun _ => ?_)
    · show HC q cc gc (v167 q cc gc (v167 q cc gc (fset ((v241 q cc gc (v229 q cc gc (fset h 162 0 (.int (nI 0)))) c).2) 162 1 (.int (nI 0))) ((v269 q cc gc (Fi ((v241 q cc gc (v229 q cc gc (fset h 162 0 (.int (nI 0)))) c).2) 162 41)).toInt64)) (((Ar ((v241 q cc gc (v229 q cc gc (fset h 162 0 (.int (nI 0)))) c).2) 171) c).toInt64)) ∧ frm [162, 163, 171] [(162, 0), (162, 1), (162, 41)] h (v167 q cc gc (v167 q cc gc (fset ((v241 q cc gc (v229 q cc gc (fset h 162 0 (.int (nI 0)))) c).2) 162 1 (.int (nI 0))) ((v269 q cc gc (Fi ((v241 q cc gc (v229 q cc gc (fset h 162 0 (.int (nI 0)))) c).2) 162 41)).toInt64)) (((Ar ((v241 q cc gc (v229 q cc gc (fset h 162 0 (.int (nI 0)))) c).2) 171) c).toInt64))
      exact ⟨(v167_fr (v := (((Ar ((v241 q cc gc (v229 q cc gc (fset h 162 0 (.int (nI 0)))) c).2) 171) c).toInt64)) (v167_fr (v := ((v269 q cc gc (Fi ((v241 q cc gc (v229 q cc gc (fset h 162 0 (.int (nI 0)))) c).2) 162 41)).toInt64)) (hc_f rfl rfl (by decide) rfl (v241_fr (c := c) (v229_fr (hc_f rfl rfl (by decide) rfl hw)).1).1)).1).1, (fr_g rfl rfl (v167_fr (v := (((Ar ((v241 q cc gc (v229 q cc gc (fset h 162 0 (.int (nI 0)))) c).2) 171) c).toInt64)) (v167_fr (v := ((v269 q cc gc (Fi ((v241 q cc gc (v229 q cc gc (fset h 162 0 (.int (nI 0)))) c).2) 162 41)).toInt64)) (hc_f rfl rfl (by decide) rfl (v241_fr (c := c) (v229_fr (hc_f rfl rfl (by decide) rfl hw)).1).1)).1).2 (fr_g rfl rfl (v167_fr (v := ((v269 q cc gc (Fi ((v241 q cc gc (v229 q cc gc (fset h 162 0 (.int (nI 0)))) c).2) 162 41)).toInt64)) (hc_f rfl rfl (by decide) rfl (v241_fr (c := c) (v229_fr (hc_f rfl rfl (by decide) rfl hw)).1).1)).2 (fr_f rfl rfl (fr_g rfl rfl (v241_fr (c := c) (v229_fr (hc_f rfl rfl (by decide) rfl hw)).1).2 (fr_g rfl rfl (v229_fr (hc_f rfl rfl (by decide) rfl hw)).2 (fr_f rfl rfl fr_0))))))⟩
    · show HC q cc gc ((v241 q cc gc (v229 q cc gc (fset h 162 0 (.int (nI 0)))) c).2) ∧ frm [162, 163, 171] [(162, 0), (162, 1), (162, 41)] h ((v241 q cc gc (v229 q cc gc (fset h 162 0 (.int (nI 0)))) c).2)
      exact ⟨(v241_fr (c := c) (v229_fr (hc_f rfl rfl (by decide) rfl hw)).1).1, (fr_g rfl rfl (v241_fr (c := c) (v229_fr (hc_f rfl rfl (by decide) rfl hw)).1).2 (fr_g rfl rfl (v229_fr (hc_f rfl rfl (by decide) rfl hw)).2 (fr_f rfl rfl fr_0)))⟩
  · show HC q cc gc (fset h 162 0 (.int (nI 0))) ∧ frm [162, 163, 171] [(162, 0), (162, 1), (162, 41)] h (fset h 162 0 (.int (nI 0)))
    exact ⟨(hc_f rfl rfl (by decide) rfl hw), (fr_f rfl rfl fr_0)⟩
def v243_27b (q : QT) (cc gc : Nat) (h : pm_H) (m1 : Nat) (m2 : Nat) (i : Nat) (x3 : Int32) (x4 : Int32) : Int32 × Int32 × pm_H := cond (pm_cmp .ne ((Ar h 170) (78 + i)) (nI m1)) (x3, x4, h) (cond (v218 q cc gc (Ar h 166) (Ar h 170) i) (cond (pm_cmp .le ((v241 q cc gc (aset (v229 q cc gc h) 171 96 (upd (Ar (v229 q cc gc h) 171) (78 + i) (nI m2))) m2).1) 0) x3 (cond (pm_cmp .ge ((v241 q cc gc (aset (v229 q cc gc h) 171 96 (upd (Ar (v229 q cc gc h) 171) (78 + i) (nI m2))) m2).1) x4) x3 (nI i)), cond (pm_cmp .le ((v241 q cc gc (aset (v229 q cc gc h) 171 96 (upd (Ar (v229 q cc gc h) 171) (78 + i) (nI m2))) m2).1) 0) x4 (cond (pm_cmp .ge ((v241 q cc gc (aset (v229 q cc gc h) 171 96 (upd (Ar (v229 q cc gc h) 171) (78 + i) (nI m2))) m2).1) x4) x4 ((v241 q cc gc (aset (v229 q cc gc h) 171 96 (upd (Ar (v229 q cc gc h) 171) (78 + i) (nI m2))) m2).1)), (v241 q cc gc (aset (v229 q cc gc h) 171 96 (upd (Ar (v229 q cc gc h) 171) (78 + i) (nI m2))) m2).2) (x3, x4, h))
def v243_27 (q : QT) (cc gc : Nat) (m1 : Nat) (m2 : Nat) (j i : Nat) (a : Int32 × Int32 × pm_H) : Int32 × Int32 × pm_H := lp (fun i a => v243_27b q cc gc a.2.2 m1 m2 i a.1 a.2.1) j i a
theorem v243_27_e {n fr lo sl cc gc : Nat} {q : QT} {h : pm_H} {R : pm_Rs} {m1 : Nat} {m2 : Nat} {i : Nat} {x3 : Int32} {x4 : Int32} {o6 : Option Value} (hw : HC q cc gc h) (h_m1 : m1 < 10000) (h_m2 : m2 < 10000) (hi : gc ≤ i) (hI : i < 1000000) (hh : pm_run PT n fr lo 243 (27, [some (.ref 162), some (.int (nI m1)), some (.int (nI m2)), some (.int x3), some (.int x4), some (.int (nI i)), o6], [], h, 198, sl) = some R) : ∃ m, pm_run PT m fr lo 243 (110, [some (.ref 162), some (.int (nI m1)), some (.int (nI m2)), some (.int x3), some (.int x4), some (.int (nI i)), o6], [], h, 198, sl) = some R := by
  have hcc := hw.cb
  have hgc := hw.gb
  have hzr := hw.zr
  obtain ⟨n, hh⟩ := rn_i rfl rfl rfl rfl hh
  obtain ⟨n, hh⟩ := rn_i rfl rfl rfl rfl hh
  have hh : pm_run PT n fr lo 243 (30, [some (.ref 162), some (.int (nI m1)), some (.int (nI m2)), some (.int x3), some (.int x4), some (.int (nI i)), o6], [.ref 162, .int (nI i)], h, 198, sl) = some R := hh
  obtain ⟨n, hh⟩ := rn_gi (x := nI gc) hw.wt rfl rfl (by decide) rfl (by decide) rfl hw.m4 hh
  have hh : pm_run PT n fr lo 243 (33, [some (.ref 162), some (.int (nI m1)), some (.int (nI m2)), some (.int x3), some (.int x4), some (.int (nI i)), o6], [.int (nI gc), .int (nI i)], h, 198, sl) = some R := hh
  obtain ⟨n, hh⟩ := en_cn (cc := .ge) (off := 77) (t := 110) (b := decide (gc ≤ i)) (hI_ge (by omega) (by omega)) rfl rfl hh
  have hh := en_t (show decide (gc ≤ i) = true from decide_eq_true (by omega)) hh
  have hh : pm_run PT n fr lo 243 (110, [some (.ref 162), some (.int (nI m1)), some (.int (nI m2)), some (.int x3), some (.int x4), some (.int (nI i)), o6], [], h, 198, sl) = some R := hh
  exact ⟨n, hh⟩
theorem v243_27_s {n fr lo sl cc gc : Nat} {q : QT} {h : pm_H} {R : pm_Rs} {m1 : Nat} {m2 : Nat} {i : Nat} {x3 : Int32} {x4 : Int32} {o6 : Option Value} (hw : HC q cc gc h) (h_m1 : m1 < 10000) (h_m2 : m2 < 10000) (hi : i < gc) (hI : i < 1000000) (hh : pm_run PT n fr lo 243 (27, [some (.ref 162), some (.int (nI m1)), some (.int (nI m2)), some (.int x3), some (.int x4), some (.int (nI i)), o6], [], h, 198, sl) = some R) : ∃ m w6, HC q cc gc ((v243_27b q cc gc h m1 m2 i x3 x4).2.2) ∧ frm [162, 171] [(162, 41)] h ((v243_27b q cc gc h m1 m2 i x3 x4).2.2) ∧ pm_run PT m fr lo 243 (27, [some (.ref 162), some (.int (nI m1)), some (.int (nI m2)), some (.int ((v243_27b q cc gc h m1 m2 i x3 x4).1)), some (.int ((v243_27b q cc gc h m1 m2 i x3 x4).2.1)), some (.int (nI (i + 1))), w6], [], (v243_27b q cc gc h m1 m2 i x3 x4).2.2, 198, sl) = some R := by
  have hcc := hw.cb
  have hgc := hw.gb
  have hzr := hw.zr
  obtain ⟨n, hh⟩ := rn_i rfl rfl rfl rfl hh
  obtain ⟨n, hh⟩ := rn_i rfl rfl rfl rfl hh
  have hh : pm_run PT n fr lo 243 (30, [some (.ref 162), some (.int (nI m1)), some (.int (nI m2)), some (.int x3), some (.int x4), some (.int (nI i)), o6], [.ref 162, .int (nI i)], h, 198, sl) = some R := hh
  obtain ⟨n, hh⟩ := rn_gi (x := nI gc) hw.wt rfl rfl (by decide) rfl (by decide) rfl hw.m4 hh
  have hh : pm_run PT n fr lo 243 (33, [some (.ref 162), some (.int (nI m1)), some (.int (nI m2)), some (.int x3), some (.int x4), some (.int (nI i)), o6], [.int (nI gc), .int (nI i)], h, 198, sl) = some R := hh
  obtain ⟨n, hh⟩ := en_cn (cc := .ge) (off := 77) (t := 110) (b := decide (gc ≤ i)) (hI_ge (by omega) (by omega)) rfl rfl hh
  have hh := en_f (show decide (gc ≤ i) = false from decide_eq_false (by omega)) hh
  have hh : pm_run PT n fr lo 243 (36, [some (.ref 162), some (.int (nI m1)), some (.int (nI m2)), some (.int x3), some (.int x4), some (.int (nI i)), o6], [], h, 198, sl) = some R := hh
  obtain ⟨n, hh⟩ := rn_i rfl rfl rfl rfl hh
  have hh : pm_run PT n fr lo 243 (37, [some (.ref 162), some (.int (nI m1)), some (.int (nI m2)), some (.int x3), some (.int x4), some (.int (nI i)), o6], [.ref 162], h, 198, sl) = some R := hh
  obtain ⟨n, hh⟩ := rn_gr hw.wt rfl rfl (by decide) rfl (by decide) (show _ = some (2, ((170 : Nat) : Int), 1) from rfl) rfl hh
  obtain ⟨n, hh⟩ := rn_i rfl rfl rfl rfl hh
  obtain ⟨n, hh⟩ := rn_i rfl rfl rfl rfl hh
  have hh : pm_run PT n fr lo 243 (44, [some (.ref 162), some (.int (nI m1)), some (.int (nI m2)), some (.int x3), some (.int x4), some (.int (nI i)), o6], [.int (nI i), .int (nI 78), .ref 170], h, 198, sl) = some R := hh
  obtain ⟨n, hh⟩ := en_add rfl hh
  have hh : pm_run PT n fr lo 243 (45, [some (.ref 162), some (.int (nI m1)), some (.int (nI m2)), some (.int x3), some (.int x4), some (.int (nI i)), o6], [.int (nI (78 + i)), .ref 170], h, 198, sl) = some R := hh
  have hh : pm_run PT n fr lo 243 (45, [some (.ref 162), some (.int (nI m1)), some (.int (nI m2)), some (.int x3), some (.int x4), some (.int (nI i)), o6], [.int (nI (78 + i)), .ref 170], h, 198, sl) = some R := hh
  obtain ⟨n, hx3, hh⟩ := en_lu (t := 78 + i) (f := Ar h 170) (w := (Ar h 170) (78 + i)) (nI_clamp (by omega)) hw.wt rfl (by decide) rfl (by decide) rfl (fun _ => rfl) hh
  obtain ⟨n, hh⟩ := rn_i rfl rfl rfl rfl hh
  have hh : pm_run PT n fr lo 243 (47, [some (.ref 162), some (.int (nI m1)), some (.int (nI m2)), some (.int x3), some (.int x4), some (.int (nI i)), o6], [.int (nI m1), .int ((Ar h 170) (78 + i))], h, 198, sl) = some R := hh
  obtain ⟨n, hh⟩ := en_cn (cc := .ne) (off := 57) (t := 104) (b := pm_cmp .ne ((Ar h 170) (78 + i)) (nI m1)) rfl rfl rfl hh
  cases z4 : pm_cmp .ne ((Ar h 170) (78 + i)) (nI m1) with
  | true =>
    have hh := en_t z4 hh
    have hh : pm_run PT n fr lo 243 (104, [some (.ref 162), some (.int (nI m1)), some (.int (nI m2)), some (.int x3), some (.int x4), some (.int (nI i)), o6], [], h, 198, sl) = some R := hh
    have hh : pm_run PT n fr lo 243 (104, [some (.ref 162), some (.int (nI m1)), some (.int (nI m2)), some (.int x3), some (.int x4), some (.int (nI i)), o6], [], h, 198, sl) = some R := hh
    obtain ⟨n, hh⟩ := en_inc (x := i) (c := 1) (j := 5) rfl rfl (by decide) hh
    have hh : pm_run PT n fr lo 243 (107, [some (.ref 162), some (.int (nI m1)), some (.int (nI m2)), some (.int x3), some (.int x4), some (.int (nI (i + 1))), o6], [], h, 198, sl) = some R := hh
    obtain ⟨n, hh⟩ := rn_i rfl rfl rfl rfl hh
    have ed : v243_27b q cc gc h m1 m2 i x3 x4 = (x3, x4, h) := (ct z4).trans rfl
    rw [ed]
    exact ⟨n, o6, hw, fr_0, hh⟩
  | false =>
    have hh := en_f z4 hh
    have hh : pm_run PT n fr lo 243 (50, [some (.ref 162), some (.int (nI m1)), some (.int (nI m2)), some (.int x3), some (.int x4), some (.int (nI i)), o6], [], h, 198, sl) = some R := hh
    obtain ⟨n, hh⟩ := rn_i rfl rfl rfl rfl hh
    obtain ⟨n, hh⟩ := rn_i rfl rfl rfl rfl hh
    have hh : pm_run PT n fr lo 243 (52, [some (.ref 162), some (.int (nI m1)), some (.int (nI m2)), some (.int x3), some (.int x4), some (.int (nI i)), o6], [.ref 162, .ref 162], h, 198, sl) = some R := hh
    obtain ⟨n, hh⟩ := rn_gr hw.wt rfl rfl (by decide) rfl (by decide) (show _ = some (2, ((170 : Nat) : Int), 1) from rfl) rfl hh
    obtain ⟨n, hh⟩ := rn_i rfl rfl rfl rfl hh
    have hh : pm_run PT n fr lo 243 (57, [some (.ref 162), some (.int (nI m1)), some (.int (nI m2)), some (.int x3), some (.int x4), some (.int (nI i)), o6], [.int (nI i), .ref 170, .ref 162], h, 198, sl) = some R := hh
    obtain ⟨n, fr1, lo1, r1, hh1, hh⟩ := rn_call (w := 0) (t := 218) rfl rfl hh
    have er5 := v218_ok (g := i) hw (by omega) hh1
    subst er5
    have hh : pm_run PT n fr lo 243 (60, [some (.ref 162), some (.int (nI m1)), some (.int (nI m2)), some (.int x3), some (.int x4), some (.int (nI i)), o6], [.int (cond (v218 q cc gc (Ar h 166) (Ar h 170) i) 1 0)], h, 198, sl) = some R := hh
    obtain ⟨n, hh⟩ := en_zn (cc := .eq) (off := 44) (t := 104) (b := !(v218 q cc gc (Ar h 166) (Ar h 170) i)) eb_eq rfl rfl hh
    cases z6 : v218 q cc gc (Ar h 166) (Ar h 170) i with
    | true =>
      have hh := en_nt z6 hh
      have hh : pm_run PT n fr lo 243 (63, [some (.ref 162), some (.int (nI m1)), some (.int (nI m2)), some (.int x3), some (.int x4), some (.int (nI i)), o6], [], h, 198, sl) = some R := hh
      obtain ⟨n, hh⟩ := rn_i rfl rfl rfl rfl hh
      have hh : pm_run PT n fr lo 243 (64, [some (.ref 162), some (.int (nI m1)), some (.int (nI m2)), some (.int x3), some (.int x4), some (.int (nI i)), o6], [.ref 162], h, 198, sl) = some R := hh
      obtain ⟨n, fr1, lo1, r1, hh1, hh⟩ := rn_call (w := 0) (t := 229) rfl rfl hh
      obtain ⟨er7, hc8, hf9⟩ := v229_ok hw hh1
      subst er7
      obtain ⟨n, hh⟩ := rn_i rfl rfl rfl rfl hh
      have hh : pm_run PT n fr lo 243 (68, [some (.ref 162), some (.int (nI m1)), some (.int (nI m2)), some (.int x3), some (.int x4), some (.int (nI i)), o6], [.ref 162], v229 q cc gc h, 198, sl) = some R := hh
      obtain ⟨n, hh⟩ := rn_gr hc8.wt rfl rfl (by decide) rfl (by decide) (show _ = some (2, ((171 : Nat) : Int), 1) from rfl) rfl hh
      obtain ⟨n, hh⟩ := rn_i rfl rfl rfl rfl hh
      obtain ⟨n, hh⟩ := rn_i rfl rfl rfl rfl hh
      have hh : pm_run PT n fr lo 243 (75, [some (.ref 162), some (.int (nI m1)), some (.int (nI m2)), some (.int x3), some (.int x4), some (.int (nI i)), o6], [.int (nI i), .int (nI 78), .ref 171], v229 q cc gc h, 198, sl) = some R := hh
      obtain ⟨n, hh⟩ := en_add rfl hh
      have hh : pm_run PT n fr lo 243 (76, [some (.ref 162), some (.int (nI m1)), some (.int (nI m2)), some (.int x3), some (.int x4), some (.int (nI i)), o6], [.int (nI (78 + i)), .ref 171], v229 q cc gc h, 198, sl) = some R := hh
      obtain ⟨n, hh⟩ := rn_i rfl rfl rfl rfl hh
      have hh : pm_run PT n fr lo 243 (77, [some (.ref 162), some (.int (nI m1)), some (.int (nI m2)), some (.int x3), some (.int x4), some (.int (nI i)), o6], [.int (nI m2), .int (nI (78 + i)), .ref 171], v229 q cc gc h, 198, sl) = some R := hh
      obtain ⟨n, hx10, hh⟩ := en_st (t := 78 + i) (f := Ar (v229 q cc gc h) 171) (nI_clamp (by omega)) hc8.wt rfl (by decide) rfl (by decide) rfl hh
      obtain ⟨n, hh⟩ := rn_i rfl rfl rfl rfl hh
      obtain ⟨n, hh⟩ := rn_i rfl rfl rfl rfl hh
      have hh : pm_run PT n fr lo 243 (80, [some (.ref 162), some (.int (nI m1)), some (.int (nI m2)), some (.int x3), some (.int x4), some (.int (nI i)), o6], [.int (nI m2), .ref 162], aset (v229 q cc gc h) 171 96 (upd (Ar (v229 q cc gc h) 171) (78 + i) (nI m2)), 198, sl) = some R := hh
      obtain ⟨n, fr1, lo1, r1, hh1, hh⟩ := rn_call (w := 0) (t := 241) rfl rfl hh
      obtain ⟨er11, hc12, hf13⟩ := v241_ok (c := m2) (hc_a rfl rfl hc8) (by omega) hh1
      subst er11
      obtain ⟨n, hh⟩ := rn_i rfl rfl rfl rfl hh
      obtain ⟨n, hh⟩ := rn_i rfl rfl rfl rfl hh
      have hh : pm_run PT n fr lo 243 (87, [some (.ref 162), some (.int (nI m1)), some (.int (nI m2)), some (.int x3), some (.int x4), some (.int (nI i)), some (.int ((v241 q cc gc (aset (v229 q cc gc h) 171 96 (upd (Ar (v229 q cc gc h) 171) (78 + i) (nI m2))) m2).1))], [.int ((v241 q cc gc (aset (v229 q cc gc h) 171 96 (upd (Ar (v229 q cc gc h) 171) (78 + i) (nI m2))) m2).1)], (v241 q cc gc (aset (v229 q cc gc h) 171 96 (upd (Ar (v229 q cc gc h) 171) (78 + i) (nI m2))) m2).2, 198, sl) = some R := hh
      obtain ⟨n, hh⟩ := en_zn (cc := .le) (off := 17) (t := 104) (b := pm_cmp .le ((v241 q cc gc (aset (v229 q cc gc h) 171 96 (upd (Ar (v229 q cc gc h) 171) (78 + i) (nI m2))) m2).1) 0) rfl rfl rfl hh
      have hj17 : ∃ mJ, pm_run PT mJ fr lo 243 (cond (pm_cmp .le ((v241 q cc gc (aset (v229 q cc gc h) 171 96 (upd (Ar (v229 q cc gc h) 171) (78 + i) (nI m2))) m2).1) 0) (104, [some (.ref 162), some (.int (nI m1)), some (.int (nI m2)), some (.int x3), some (.int x4), some (.int (nI i)), some (.int ((v241 q cc gc (aset (v229 q cc gc h) 171 96 (upd (Ar (v229 q cc gc h) 171) (78 + i) (nI m2))) m2).1))], [], (v241 q cc gc (aset (v229 q cc gc h) 171 96 (upd (Ar (v229 q cc gc h) 171) (78 + i) (nI m2))) m2).2, 198, sl) (104, [some (.ref 162), some (.int (nI m1)), some (.int (nI m2)), some (.int (cond (pm_cmp .ge ((v241 q cc gc (aset (v229 q cc gc h) 171 96 (upd (Ar (v229 q cc gc h) 171) (78 + i) (nI m2))) m2).1) x4) x3 (nI i))), some (.int (cond (pm_cmp .ge ((v241 q cc gc (aset (v229 q cc gc h) 171 96 (upd (Ar (v229 q cc gc h) 171) (78 + i) (nI m2))) m2).1) x4) x4 ((v241 q cc gc (aset (v229 q cc gc h) 171 96 (upd (Ar (v229 q cc gc h) 171) (78 + i) (nI m2))) m2).1))), some (.int (nI i)), some (.int ((v241 q cc gc (aset (v229 q cc gc h) 171 96 (upd (Ar (v229 q cc gc h) 171) (78 + i) (nI m2))) m2).1))], [], (v241 q cc gc (aset (v229 q cc gc h) 171 96 (upd (Ar (v229 q cc gc h) 171) (78 + i) (nI m2))) m2).2, 198, sl)) = some R := en_J (fun z14 => by
          have hh := en_t z14 hh
          have hh : pm_run PT n fr lo 243 (104, [some (.ref 162), some (.int (nI m1)), some (.int (nI m2)), some (.int x3), some (.int x4), some (.int (nI i)), some (.int ((v241 q cc gc (aset (v229 q cc gc h) 171 96 (upd (Ar (v229 q cc gc h) 171) (78 + i) (nI m2))) m2).1))], [], (v241 q cc gc (aset (v229 q cc gc h) 171 96 (upd (Ar (v229 q cc gc h) 171) (78 + i) (nI m2))) m2).2, 198, sl) = some R := hh
          exact ⟨n, hh⟩) (fun z14 => by
          have hh := en_f z14 hh
          have hh : pm_run PT n fr lo 243 (90, [some (.ref 162), some (.int (nI m1)), some (.int (nI m2)), some (.int x3), some (.int x4), some (.int (nI i)), some (.int ((v241 q cc gc (aset (v229 q cc gc h) 171 96 (upd (Ar (v229 q cc gc h) 171) (78 + i) (nI m2))) m2).1))], [], (v241 q cc gc (aset (v229 q cc gc h) 171 96 (upd (Ar (v229 q cc gc h) 171) (78 + i) (nI m2))) m2).2, 198, sl) = some R := hh
          obtain ⟨n, hh⟩ := rn_i rfl rfl rfl rfl hh
          obtain ⟨n, hh⟩ := rn_i rfl rfl rfl rfl hh
          have hh : pm_run PT n fr lo 243 (94, [some (.ref 162), some (.int (nI m1)), some (.int (nI m2)), some (.int x3), some (.int x4), some (.int (nI i)), some (.int ((v241 q cc gc (aset (v229 q cc gc h) 171 96 (upd (Ar (v229 q cc gc h) 171) (78 + i) (nI m2))) m2).1))], [.int x4, .int ((v241 q cc gc (aset (v229 q cc gc h) 171 96 (upd (Ar (v229 q cc gc h) 171) (78 + i) (nI m2))) m2).1)], (v241 q cc gc (aset (v229 q cc gc h) 171 96 (upd (Ar (v229 q cc gc h) 171) (78 + i) (nI m2))) m2).2, 198, sl) = some R := hh
          obtain ⟨n, hh⟩ := en_cn (cc := .ge) (off := 10) (t := 104) (b := pm_cmp .ge ((v241 q cc gc (aset (v229 q cc gc h) 171 96 (upd (Ar (v229 q cc gc h) 171) (78 + i) (nI m2))) m2).1) x4) rfl rfl rfl hh
          have hj16 : ∃ mJ, pm_run PT mJ fr lo 243 (cond (pm_cmp .ge ((v241 q cc gc (aset (v229 q cc gc h) 171 96 (upd (Ar (v229 q cc gc h) 171) (78 + i) (nI m2))) m2).1) x4) (104, [some (.ref 162), some (.int (nI m1)), some (.int (nI m2)), some (.int x3), some (.int x4), some (.int (nI i)), some (.int ((v241 q cc gc (aset (v229 q cc gc h) 171 96 (upd (Ar (v229 q cc gc h) 171) (78 + i) (nI m2))) m2).1))], [], (v241 q cc gc (aset (v229 q cc gc h) 171 96 (upd (Ar (v229 q cc gc h) 171) (78 + i) (nI m2))) m2).2, 198, sl) (104, [some (.ref 162), some (.int (nI m1)), some (.int (nI m2)), some (.int (nI i)), some (.int ((v241 q cc gc (aset (v229 q cc gc h) 171 96 (upd (Ar (v229 q cc gc h) 171) (78 + i) (nI m2))) m2).1)), some (.int (nI i)), some (.int ((v241 q cc gc (aset (v229 q cc gc h) 171 96 (upd (Ar (v229 q cc gc h) 171) (78 + i) (nI m2))) m2).1))], [], (v241 q cc gc (aset (v229 q cc gc h) 171 96 (upd (Ar (v229 q cc gc h) 171) (78 + i) (nI m2))) m2).2, 198, sl)) = some R := en_J (fun z15 => by
              have hh := en_t z15 hh
              have hh : pm_run PT n fr lo 243 (104, [some (.ref 162), some (.int (nI m1)), some (.int (nI m2)), some (.int x3), some (.int x4), some (.int (nI i)), some (.int ((v241 q cc gc (aset (v229 q cc gc h) 171 96 (upd (Ar (v229 q cc gc h) 171) (78 + i) (nI m2))) m2).1))], [], (v241 q cc gc (aset (v229 q cc gc h) 171 96 (upd (Ar (v229 q cc gc h) 171) (78 + i) (nI m2))) m2).2, 198, sl) = some R := hh
              exact ⟨n, hh⟩) (fun z15 => by
              have hh := en_f z15 hh
              have hh : pm_run PT n fr lo 243 (97, [some (.ref 162), some (.int (nI m1)), some (.int (nI m2)), some (.int x3), some (.int x4), some (.int (nI i)), some (.int ((v241 q cc gc (aset (v229 q cc gc h) 171 96 (upd (Ar (v229 q cc gc h) 171) (78 + i) (nI m2))) m2).1))], [], (v241 q cc gc (aset (v229 q cc gc h) 171 96 (upd (Ar (v229 q cc gc h) 171) (78 + i) (nI m2))) m2).2, 198, sl) = some R := hh
              obtain ⟨n, hh⟩ := rn_i rfl rfl rfl rfl hh
              obtain ⟨n, hh⟩ := rn_i rfl rfl rfl rfl hh
              obtain ⟨n, hh⟩ := rn_i rfl rfl rfl rfl hh
              obtain ⟨n, hh⟩ := rn_i rfl rfl rfl rfl hh
              exact ⟨n, hh⟩)
          obtain ⟨n, hh⟩ := hj16
          rw [show (cond (pm_cmp .ge ((v241 q cc gc (aset (v229 q cc gc h) 171 96 (upd (Ar (v229 q cc gc h) 171) (78 + i) (nI m2))) m2).1) x4) (104, [some (.ref 162), some (.int (nI m1)), some (.int (nI m2)), some (.int x3), some (.int x4), some (.int (nI i)), some (.int ((v241 q cc gc (aset (v229 q cc gc h) 171 96 (upd (Ar (v229 q cc gc h) 171) (78 + i) (nI m2))) m2).1))], [], (v241 q cc gc (aset (v229 q cc gc h) 171 96 (upd (Ar (v229 q cc gc h) 171) (78 + i) (nI m2))) m2).2, 198, sl) (104, [some (.ref 162), some (.int (nI m1)), some (.int (nI m2)), some (.int (nI i)), some (.int ((v241 q cc gc (aset (v229 q cc gc h) 171 96 (upd (Ar (v229 q cc gc h) 171) (78 + i) (nI m2))) m2).1)), some (.int (nI i)), some (.int ((v241 q cc gc (aset (v229 q cc gc h) 171 96 (upd (Ar (v229 q cc gc h) 171) (78 + i) (nI m2))) m2).1))], [], (v241 q cc gc (aset (v229 q cc gc h) 171 96 (upd (Ar (v229 q cc gc h) 171) (78 + i) (nI m2))) m2).2, 198, sl) : pm_St) = (104, [some (.ref 162), some (.int (nI m1)), some (.int (nI m2)), some (.int (cond (pm_cmp .ge ((v241 q cc gc (aset (v229 q cc gc h) 171 96 (upd (Ar (v229 q cc gc h) 171) (78 + i) (nI m2))) m2).1) x4) x3 (nI i))), some (.int (cond (pm_cmp .ge ((v241 q cc gc (aset (v229 q cc gc h) 171 96 (upd (Ar (v229 q cc gc h) 171) (78 + i) (nI m2))) m2).1) x4) x4 ((v241 q cc gc (aset (v229 q cc gc h) 171 96 (upd (Ar (v229 q cc gc h) 171) (78 + i) (nI m2))) m2).1))), some (.int (nI i)), some (.int ((v241 q cc gc (aset (v229 q cc gc h) 171 96 (upd (Ar (v229 q cc gc h) 171) (78 + i) (nI m2))) m2).1))], [], (v241 q cc gc (aset (v229 q cc gc h) 171 96 (upd (Ar (v229 q cc gc h) 171) (78 + i) (nI m2))) m2).2, 198, sl) from by cases (pm_cmp .ge ((v241 q cc gc (aset (v229 q cc gc h) 171 96 (upd (Ar (v229 q cc gc h) 171) (78 + i) (nI m2))) m2).1) x4) <;> rfl] at hh
          exact ⟨n, hh⟩)
      obtain ⟨n, hh⟩ := hj17
      rw [show (cond (pm_cmp .le ((v241 q cc gc (aset (v229 q cc gc h) 171 96 (upd (Ar (v229 q cc gc h) 171) (78 + i) (nI m2))) m2).1) 0) (104, [some (.ref 162), some (.int (nI m1)), some (.int (nI m2)), some (.int x3), some (.int x4), some (.int (nI i)), some (.int ((v241 q cc gc (aset (v229 q cc gc h) 171 96 (upd (Ar (v229 q cc gc h) 171) (78 + i) (nI m2))) m2).1))], [], (v241 q cc gc (aset (v229 q cc gc h) 171 96 (upd (Ar (v229 q cc gc h) 171) (78 + i) (nI m2))) m2).2, 198, sl) (104, [some (.ref 162), some (.int (nI m1)), some (.int (nI m2)), some (.int (cond (pm_cmp .ge ((v241 q cc gc (aset (v229 q cc gc h) 171 96 (upd (Ar (v229 q cc gc h) 171) (78 + i) (nI m2))) m2).1) x4) x3 (nI i))), some (.int (cond (pm_cmp .ge ((v241 q cc gc (aset (v229 q cc gc h) 171 96 (upd (Ar (v229 q cc gc h) 171) (78 + i) (nI m2))) m2).1) x4) x4 ((v241 q cc gc (aset (v229 q cc gc h) 171 96 (upd (Ar (v229 q cc gc h) 171) (78 + i) (nI m2))) m2).1))), some (.int (nI i)), some (.int ((v241 q cc gc (aset (v229 q cc gc h) 171 96 (upd (Ar (v229 q cc gc h) 171) (78 + i) (nI m2))) m2).1))], [], (v241 q cc gc (aset (v229 q cc gc h) 171 96 (upd (Ar (v229 q cc gc h) 171) (78 + i) (nI m2))) m2).2, 198, sl) : pm_St) = (104, [some (.ref 162), some (.int (nI m1)), some (.int (nI m2)), some (.int (cond (pm_cmp .le ((v241 q cc gc (aset (v229 q cc gc h) 171 96 (upd (Ar (v229 q cc gc h) 171) (78 + i) (nI m2))) m2).1) 0) x3 (cond (pm_cmp .ge ((v241 q cc gc (aset (v229 q cc gc h) 171 96 (upd (Ar (v229 q cc gc h) 171) (78 + i) (nI m2))) m2).1) x4) x3 (nI i)))), some (.int (cond (pm_cmp .le ((v241 q cc gc (aset (v229 q cc gc h) 171 96 (upd (Ar (v229 q cc gc h) 171) (78 + i) (nI m2))) m2).1) 0) x4 (cond (pm_cmp .ge ((v241 q cc gc (aset (v229 q cc gc h) 171 96 (upd (Ar (v229 q cc gc h) 171) (78 + i) (nI m2))) m2).1) x4) x4 ((v241 q cc gc (aset (v229 q cc gc h) 171 96 (upd (Ar (v229 q cc gc h) 171) (78 + i) (nI m2))) m2).1)))), some (.int (nI i)), some (.int ((v241 q cc gc (aset (v229 q cc gc h) 171 96 (upd (Ar (v229 q cc gc h) 171) (78 + i) (nI m2))) m2).1))], [], (v241 q cc gc (aset (v229 q cc gc h) 171 96 (upd (Ar (v229 q cc gc h) 171) (78 + i) (nI m2))) m2).2, 198, sl) from by cases (pm_cmp .le ((v241 q cc gc (aset (v229 q cc gc h) 171 96 (upd (Ar (v229 q cc gc h) 171) (78 + i) (nI m2))) m2).1) 0) <;> rfl] at hh
      have hh : pm_run PT n fr lo 243 (104, [some (.ref 162), some (.int (nI m1)), some (.int (nI m2)), some (.int (cond (pm_cmp .le ((v241 q cc gc (aset (v229 q cc gc h) 171 96 (upd (Ar (v229 q cc gc h) 171) (78 + i) (nI m2))) m2).1) 0) x3 (cond (pm_cmp .ge ((v241 q cc gc (aset (v229 q cc gc h) 171 96 (upd (Ar (v229 q cc gc h) 171) (78 + i) (nI m2))) m2).1) x4) x3 (nI i)))), some (.int (cond (pm_cmp .le ((v241 q cc gc (aset (v229 q cc gc h) 171 96 (upd (Ar (v229 q cc gc h) 171) (78 + i) (nI m2))) m2).1) 0) x4 (cond (pm_cmp .ge ((v241 q cc gc (aset (v229 q cc gc h) 171 96 (upd (Ar (v229 q cc gc h) 171) (78 + i) (nI m2))) m2).1) x4) x4 ((v241 q cc gc (aset (v229 q cc gc h) 171 96 (upd (Ar (v229 q cc gc h) 171) (78 + i) (nI m2))) m2).1)))), some (.int (nI i)), some (.int ((v241 q cc gc (aset (v229 q cc gc h) 171 96 (upd (Ar (v229 q cc gc h) 171) (78 + i) (nI m2))) m2).1))], [], (v241 q cc gc (aset (v229 q cc gc h) 171 96 (upd (Ar (v229 q cc gc h) 171) (78 + i) (nI m2))) m2).2, 198, sl) = some R := hh
      obtain ⟨n, hh⟩ := en_inc (x := i) (c := 1) (j := 5) rfl rfl (by decide) hh
      have hh : pm_run PT n fr lo 243 (107, [some (.ref 162), some (.int (nI m1)), some (.int (nI m2)), some (.int (cond (pm_cmp .le ((v241 q cc gc (aset (v229 q cc gc h) 171 96 (upd (Ar (v229 q cc gc h) 171) (78 + i) (nI m2))) m2).1) 0) x3 (cond (pm_cmp .ge ((v241 q cc gc (aset (v229 q cc gc h) 171 96 (upd (Ar (v229 q cc gc h) 171) (78 + i) (nI m2))) m2).1) x4) x3 (nI i)))), some (.int (cond (pm_cmp .le ((v241 q cc gc (aset (v229 q cc gc h) 171 96 (upd (Ar (v229 q cc gc h) 171) (78 + i) (nI m2))) m2).1) 0) x4 (cond (pm_cmp .ge ((v241 q cc gc (aset (v229 q cc gc h) 171 96 (upd (Ar (v229 q cc gc h) 171) (78 + i) (nI m2))) m2).1) x4) x4 ((v241 q cc gc (aset (v229 q cc gc h) 171 96 (upd (Ar (v229 q cc gc h) 171) (78 + i) (nI m2))) m2).1)))), some (.int (nI (i + 1))), some (.int ((v241 q cc gc (aset (v229 q cc gc h) 171 96 (upd (Ar (v229 q cc gc h) 171) (78 + i) (nI m2))) m2).1))], [], (v241 q cc gc (aset (v229 q cc gc h) 171 96 (upd (Ar (v229 q cc gc h) 171) (78 + i) (nI m2))) m2).2, 198, sl) = some R := hh
      obtain ⟨n, hh⟩ := rn_i rfl rfl rfl rfl hh
      have ed : v243_27b q cc gc h m1 m2 i x3 x4 = (cond (pm_cmp .le ((v241 q cc gc (aset (v229 q cc gc h) 171 96 (upd (Ar (v229 q cc gc h) 171) (78 + i) (nI m2))) m2).1) 0) x3 (cond (pm_cmp .ge ((v241 q cc gc (aset (v229 q cc gc h) 171 96 (upd (Ar (v229 q cc gc h) 171) (78 + i) (nI m2))) m2).1) x4) x3 (nI i)), cond (pm_cmp .le ((v241 q cc gc (aset (v229 q cc gc h) 171 96 (upd (Ar (v229 q cc gc h) 171) (78 + i) (nI m2))) m2).1) 0) x4 (cond (pm_cmp .ge ((v241 q cc gc (aset (v229 q cc gc h) 171 96 (upd (Ar (v229 q cc gc h) 171) (78 + i) (nI m2))) m2).1) x4) x4 ((v241 q cc gc (aset (v229 q cc gc h) 171 96 (upd (Ar (v229 q cc gc h) 171) (78 + i) (nI m2))) m2).1)), (v241 q cc gc (aset (v229 q cc gc h) 171 96 (upd (Ar (v229 q cc gc h) 171) (78 + i) (nI m2))) m2).2) := (cf z4).trans ((ct z6).trans rfl)
      rw [ed]
      exact ⟨n, some (.int ((v241 q cc gc (aset (v229 q cc gc h) 171 96 (upd (Ar (v229 q cc gc h) 171) (78 + i) (nI m2))) m2).1)), hc12, (fr_g rfl rfl hf13 (fr_a rfl rfl (fr_g rfl rfl hf9 fr_0))), hh⟩
    | false =>
      have hh := en_nf z6 hh
      have hh : pm_run PT n fr lo 243 (104, [some (.ref 162), some (.int (nI m1)), some (.int (nI m2)), some (.int x3), some (.int x4), some (.int (nI i)), o6], [], h, 198, sl) = some R := hh
      have hh : pm_run PT n fr lo 243 (104, [some (.ref 162), some (.int (nI m1)), some (.int (nI m2)), some (.int x3), some (.int x4), some (.int (nI i)), o6], [], h, 198, sl) = some R := hh
      obtain ⟨n, hh⟩ := en_inc (x := i) (c := 1) (j := 5) rfl rfl (by decide) hh
      have hh : pm_run PT n fr lo 243 (107, [some (.ref 162), some (.int (nI m1)), some (.int (nI m2)), some (.int x3), some (.int x4), some (.int (nI (i + 1))), o6], [], h, 198, sl) = some R := hh
      obtain ⟨n, hh⟩ := rn_i rfl rfl rfl rfl hh
      have ed : v243_27b q cc gc h m1 m2 i x3 x4 = (x3, x4, h) := (cf z4).trans ((cf z6).trans rfl)
      rw [ed]
      exact ⟨n, o6, hw, fr_0, hh⟩
theorem v243_27_ok {fr lo sl cc gc : Nat} {q : QT} {R : pm_Rs} {m1 : Nat} {m2 : Nat} : ∀ {j i : Nat} {x3 : Int32} {x4 : Int32} {o6 : Option Value} {h : pm_H} {n : Nat}, gc - i = j → i + j < 1000000 → HC q cc gc h → m1 < 10000 → m2 < 10000 → pm_run PT n fr lo 243 (27, [some (.ref 162), some (.int (nI m1)), some (.int (nI m2)), some (.int x3), some (.int x4), some (.int (nI i)), o6], [], h, 198, sl) = some R → ∃ m wc w6, HC q cc gc ((v243_27 q cc gc m1 m2 j i (x3, x4, h)).2.2) ∧ frm [162, 171] [(162, 41)] h ((v243_27 q cc gc m1 m2 j i (x3, x4, h)).2.2) ∧ pm_run PT m fr lo 243 (110, [some (.ref 162), some (.int (nI m1)), some (.int (nI m2)), some (.int ((v243_27 q cc gc m1 m2 j i (x3, x4, h)).1)), some (.int ((v243_27 q cc gc m1 m2 j i (x3, x4, h)).2.1)), wc, w6], [], (v243_27 q cc gc m1 m2 j i (x3, x4, h)).2.2, 198, sl) = some R := by
  intro j
  induction j with
  | zero =>
    intro i x3 x4 o6 h n e eI hw h_m1 h_m2 hh
    obtain ⟨n, hh⟩ := v243_27_e hw h_m1 h_m2 (by omega) (by omega) hh
    exact ⟨n, _, o6, hw, fr_0, hh⟩
  | succ j ih =>
    intro i x3 x4 o6 h n e eI hw h_m1 h_m2 hh
    obtain ⟨n, w6, hc, hf, hh⟩ := v243_27_s hw h_m1 h_m2 (by omega) (by omega) hh
    obtain ⟨n, wc, v6, hc2, hf2, hh⟩ := ih (by omega) (by omega) hc h_m1 h_m2 hh
    exact ⟨n, wc, v6, hc2, fr_t hf2 hf, hh⟩
theorem v243_27_fb {cc gc : Nat} {q : QT} {h : pm_H} {m1 : Nat} {m2 : Nat} {i : Nat} {x3 : Int32} {x4 : Int32} (hw : HC q cc gc h) : HC q cc gc ((v243_27b q cc gc h m1 m2 i x3 x4).2.2) ∧ frm [162, 171] [(162, 41)] h ((v243_27b q cc gc h m1 m2 i x3 x4).2.2) := by
  unfold v243_27b
  refine cd_s (P := fun (p : Int32 × Int32 × pm_H) => HC q cc gc ((p).2.2) ∧ frm [162, 171] [(162, 41)] h ((p).2.2)) (b := pm_cmp .ne ((Ar h 170) (78 + i)) (nI m1)) (fun _ => ?_) (fun _ => ?_)
  · show HC q cc gc (h) ∧ frm [162, 171] [(162, 41)] h (h)
    exact ⟨hw, fr_0⟩
  · refine cd_s (P := fun (p : Int32 × Int32 × pm_H) => HC q cc gc ((p).2.2) ∧ frm [162, 171] [(162, 41)] h ((p).2.2)) (b := v218 q cc gc (Ar h 166) (Ar h 170) i) (fun _ => ?_) (fun _ => ?_)
    · show HC q cc gc ((v241 q cc gc (aset (v229 q cc gc h) 171 96 (upd (Ar (v229 q cc gc h) 171) (78 + i) (nI m2))) m2).2) ∧ frm [162, 171] [(162, 41)] h ((v241 q cc gc (aset (v229 q cc gc h) 171 96 (upd (Ar (v229 q cc gc h) 171) (78 + i) (nI m2))) m2).2)
      exact ⟨(v241_fr (c := m2) (hc_a rfl rfl (v229_fr hw).1)).1, (fr_g rfl rfl (v241_fr (c := m2) (hc_a rfl rfl (v229_fr hw).1)).2 (fr_a rfl rfl (fr_g rfl rfl (v229_fr hw).2 fr_0)))⟩
    · show HC q cc gc (h) ∧ frm [162, 171] [(162, 41)] h (h)
      exact ⟨hw, fr_0⟩
theorem v243_27_fr {cc gc : Nat} {q : QT} {m1 : Nat} {m2 : Nat} : ∀ {j i : Nat} {x3 : Int32} {x4 : Int32} {h : pm_H}, HC q cc gc h → HC q cc gc ((v243_27 q cc gc m1 m2 j i (x3, x4, h)).2.2) ∧ frm [162, 171] [(162, 41)] h ((v243_27 q cc gc m1 m2 j i (x3, x4, h)).2.2) := by
  intro j
  induction j with
  | zero =>
    intro i x3 x4 h hw
    exact ⟨hw, fr_0⟩
  | succ j ih =>
    intro i x3 x4 h hw
    obtain ⟨a1, a2⟩ := v243_27_fb (i := i) (m1 := m1) (m2 := m2) (x3 := x3) (x4 := x4) hw
    obtain ⟨b1, b2⟩ := ih (i := i + 1) a1
    exact ⟨b1, fr_t b2 a2⟩
def v243 (q : QT) (cc gc : Nat) (h : pm_H) (a : Nat) (b : Nat) : Int32 × pm_H := cond (pP cc (nI a) (nI b)) (cond (pm_cmp .lt ((v243_27 q cc gc a b gc 0 ((Int32.ofInt (-2)), (nI 1000000), fset h 162 0 (.int (nI 0)))).1) 0) ((v243_27 q cc gc a b gc 0 ((Int32.ofInt (-2)), (nI 1000000), fset h 162 0 (.int (nI 0)))).1, (v243_27 q cc gc a b gc 0 ((Int32.ofInt (-2)), (nI 1000000), fset h 162 0 (.int (nI 0)))).2.2) ((v243_27 q cc gc a b gc 0 ((Int32.ofInt (-2)), (nI 1000000), fset h 162 0 (.int (nI 0)))).1, v167 q cc gc (fset ((v243_27 q cc gc a b gc 0 ((Int32.ofInt (-2)), (nI 1000000), fset h 162 0 (.int (nI 0)))).2.2) 162 1 (.int (nI 0))) (((v243_27 q cc gc a b gc 0 ((Int32.ofInt (-2)), (nI 1000000), fset h 162 0 (.int (nI 0)))).2.1).toInt64))) ((Int32.ofInt (-1)), fset h 162 0 (.int (nI 0)))
theorem v243_ok {n fr lo sl cc gc : Nat} {q : QT} {h : pm_H} {R : pm_Rs} {a : Nat} {b : Nat} (hw : HC q cc gc h) (h_a : a < 10000) (h_b : b < 10000) (hh : pm_run PT n fr lo 243 (0, pm_l0 [.ref 162, .int (nI a), .int (nI b)] 7, [], h, 198, sl) = some R) : R = (some (.int ((v243 q cc gc h a b).1)), (v243 q cc gc h a b).2, 198, sl) ∧ HC q cc gc ((v243 q cc gc h a b).2) ∧ frm [162, 163, 171] [(162, 0), (162, 1), (162, 41)] h ((v243 q cc gc h a b).2) := by
  have hcc := hw.cb
  have hgc := hw.gb
  have hzr := hw.zr
  obtain ⟨n, hh⟩ := rn_i rfl rfl rfl rfl hh
  obtain ⟨n, hh⟩ := rn_i rfl rfl rfl rfl hh
  have hh : pm_run PT n fr lo 243 (2, [some (.ref 162), some (.int (nI a)), some (.int (nI b)), none, none, none, none], [.int (nI 0), .ref 162], h, 198, sl) = some R := hh
  obtain ⟨n, hh⟩ := rn_pi hw.wt rfl rfl (by decide) rfl (by decide) rfl hh
  obtain ⟨n, hh⟩ := rn_i rfl rfl rfl rfl hh
  obtain ⟨n, hh⟩ := rn_i rfl rfl rfl rfl hh
  obtain ⟨n, hh⟩ := rn_i rfl rfl rfl rfl hh
  have hh : pm_run PT n fr lo 243 (8, [some (.ref 162), some (.int (nI a)), some (.int (nI b)), none, none, none, none], [.int (nI b), .int (nI a), .ref 162], fset h 162 0 (.int (nI 0)), 198, sl) = some R := hh
  obtain ⟨n, fr1, lo1, r1, hh1, hh⟩ := rn_call (w := 0) (t := 170) rfl rfl hh
  have er1 := ma_run hcc (hc_m3 (hc_f rfl rfl (by decide) rfl hw)) hh1
  subst er1
  have hh : pm_run PT n fr lo 243 (11, [some (.ref 162), some (.int (nI a)), some (.int (nI b)), none, none, none, none], [.int (cond (pP cc (nI a) (nI b)) 1 0)], fset h 162 0 (.int (nI 0)), 198, sl) = some R := hh
  obtain ⟨n, hh⟩ := en_zn (cc := .ne) (off := 5) (t := 16) (b := pP cc (nI a) (nI b)) eb_ne rfl rfl hh
  cases z2 : pP cc (nI a) (nI b) with
  | true =>
    have hh := en_t z2 hh
    have hh : pm_run PT n fr lo 243 (16, [some (.ref 162), some (.int (nI a)), some (.int (nI b)), none, none, none, none], [], fset h 162 0 (.int (nI 0)), 198, sl) = some R := hh
    obtain ⟨n, hh⟩ := rn_i rfl rfl rfl rfl hh
    obtain ⟨n, hh⟩ := rn_i rfl rfl rfl rfl hh
    obtain ⟨n, hh⟩ := rn_i rfl rfl rfl rfl hh
    obtain ⟨n, hh⟩ := rn_i rfl rfl rfl rfl hh
    obtain ⟨n, hh⟩ := rn_i rfl rfl rfl rfl hh
    obtain ⟨n, hh⟩ := rn_i rfl rfl rfl rfl hh
    have hh : pm_run PT n fr lo 243 (27, [some (.ref 162), some (.int (nI a)), some (.int (nI b)), some (.int (Int32.ofInt (-2))), some (.int (nI 1000000)), some (.int (nI 0)), none], [], fset h 162 0 (.int (nI 0)), 198, sl) = some R := hh
    obtain ⟨n, u4, u3, hc5, hf6, hh⟩ := v243_27_ok (m1 := a) (m2 := b)  (i := 0) (x3 := (Int32.ofInt (-2))) (x4 := (nI 1000000)) (o6 := none) (j := gc) (by omega) (by omega) (hc_f rfl rfl (by decide) rfl hw) (by omega) (by omega) hh
    have hh : pm_run PT n fr lo 243 (110, [some (.ref 162), some (.int (nI a)), some (.int (nI b)), some (.int ((v243_27 q cc gc a b gc 0 ((Int32.ofInt (-2)), (nI 1000000), fset h 162 0 (.int (nI 0)))).1)), some (.int ((v243_27 q cc gc a b gc 0 ((Int32.ofInt (-2)), (nI 1000000), fset h 162 0 (.int (nI 0)))).2.1)), u4, u3], [], (v243_27 q cc gc a b gc 0 ((Int32.ofInt (-2)), (nI 1000000), fset h 162 0 (.int (nI 0)))).2.2, 198, sl) = some R := hh
    obtain ⟨n, hh⟩ := rn_i rfl rfl rfl rfl hh
    have hh : pm_run PT n fr lo 243 (111, [some (.ref 162), some (.int (nI a)), some (.int (nI b)), some (.int ((v243_27 q cc gc a b gc 0 ((Int32.ofInt (-2)), (nI 1000000), fset h 162 0 (.int (nI 0)))).1)), some (.int ((v243_27 q cc gc a b gc 0 ((Int32.ofInt (-2)), (nI 1000000), fset h 162 0 (.int (nI 0)))).2.1)), u4, u3], [.int ((v243_27 q cc gc a b gc 0 ((Int32.ofInt (-2)), (nI 1000000), fset h 162 0 (.int (nI 0)))).1)], (v243_27 q cc gc a b gc 0 ((Int32.ofInt (-2)), (nI 1000000), fset h 162 0 (.int (nI 0)))).2.2, 198, sl) = some R := hh
    obtain ⟨n, hh⟩ := en_zn (cc := .lt) (off := 15) (t := 126) (b := pm_cmp .lt ((v243_27 q cc gc a b gc 0 ((Int32.ofInt (-2)), (nI 1000000), fset h 162 0 (.int (nI 0)))).1) 0) rfl rfl rfl hh
    cases z7 : pm_cmp .lt ((v243_27 q cc gc a b gc 0 ((Int32.ofInt (-2)), (nI 1000000), fset h 162 0 (.int (nI 0)))).1) 0 with
    | true =>
      have hh := en_t z7 hh
      have hh : pm_run PT n fr lo 243 (126, [some (.ref 162), some (.int (nI a)), some (.int (nI b)), some (.int ((v243_27 q cc gc a b gc 0 ((Int32.ofInt (-2)), (nI 1000000), fset h 162 0 (.int (nI 0)))).1)), some (.int ((v243_27 q cc gc a b gc 0 ((Int32.ofInt (-2)), (nI 1000000), fset h 162 0 (.int (nI 0)))).2.1)), u4, u3], [], (v243_27 q cc gc a b gc 0 ((Int32.ofInt (-2)), (nI 1000000), fset h 162 0 (.int (nI 0)))).2.2, 198, sl) = some R := hh
      obtain ⟨n, hh⟩ := rn_i rfl rfl rfl rfl hh
      have hh : pm_run PT n fr lo 243 (127, [some (.ref 162), some (.int (nI a)), some (.int (nI b)), some (.int ((v243_27 q cc gc a b gc 0 ((Int32.ofInt (-2)), (nI 1000000), fset h 162 0 (.int (nI 0)))).1)), some (.int ((v243_27 q cc gc a b gc 0 ((Int32.ofInt (-2)), (nI 1000000), fset h 162 0 (.int (nI 0)))).2.1)), u4, u3], [.int ((v243_27 q cc gc a b gc 0 ((Int32.ofInt (-2)), (nI 1000000), fset h 162 0 (.int (nI 0)))).1)], (v243_27 q cc gc a b gc 0 ((Int32.ofInt (-2)), (nI 1000000), fset h 162 0 (.int (nI 0)))).2.2, 198, sl) = some R := hh
      have er8 : R = (some (.int ((v243_27 q cc gc a b gc 0 ((Int32.ofInt (-2)), (nI 1000000), fset h 162 0 (.int (nI 0)))).1)), (v243_27 q cc gc a b gc 0 ((Int32.ofInt (-2)), (nI 1000000), fset h 162 0 (.int (nI 0)))).2.2, 198, sl) := (rn_ret rfl (Or.inl rfl) hh).2
      have ed : v243 q cc gc h a b = ((v243_27 q cc gc a b gc 0 ((Int32.ofInt (-2)), (nI 1000000), fset h 162 0 (.int (nI 0)))).1, (v243_27 q cc gc a b gc 0 ((Int32.ofInt (-2)), (nI 1000000), fset h 162 0 (.int (nI 0)))).2.2) := (ct z2).trans ((ct z7).trans rfl)
      refine ⟨?_, ?_, ?_⟩ <;> rw [ed]
      · exact er8
      · exact hc5
      · exact (fr_g rfl rfl hf6 (fr_f rfl rfl fr_0))
    | false =>
      have hh := en_f z7 hh
      have hh : pm_run PT n fr lo 243 (114, [some (.ref 162), some (.int (nI a)), some (.int (nI b)), some (.int ((v243_27 q cc gc a b gc 0 ((Int32.ofInt (-2)), (nI 1000000), fset h 162 0 (.int (nI 0)))).1)), some (.int ((v243_27 q cc gc a b gc 0 ((Int32.ofInt (-2)), (nI 1000000), fset h 162 0 (.int (nI 0)))).2.1)), u4, u3], [], (v243_27 q cc gc a b gc 0 ((Int32.ofInt (-2)), (nI 1000000), fset h 162 0 (.int (nI 0)))).2.2, 198, sl) = some R := hh
      obtain ⟨n, hh⟩ := rn_i rfl rfl rfl rfl hh
      obtain ⟨n, hh⟩ := rn_i rfl rfl rfl rfl hh
      have hh : pm_run PT n fr lo 243 (116, [some (.ref 162), some (.int (nI a)), some (.int (nI b)), some (.int ((v243_27 q cc gc a b gc 0 ((Int32.ofInt (-2)), (nI 1000000), fset h 162 0 (.int (nI 0)))).1)), some (.int ((v243_27 q cc gc a b gc 0 ((Int32.ofInt (-2)), (nI 1000000), fset h 162 0 (.int (nI 0)))).2.1)), u4, u3], [.int (nI 0), .ref 162], (v243_27 q cc gc a b gc 0 ((Int32.ofInt (-2)), (nI 1000000), fset h 162 0 (.int (nI 0)))).2.2, 198, sl) = some R := hh
      obtain ⟨n, hh⟩ := rn_pi hc5.wt rfl rfl (by decide) rfl (by decide) rfl hh
      obtain ⟨n, hh⟩ := rn_i rfl rfl rfl rfl hh
      obtain ⟨n, hh⟩ := rn_i rfl rfl rfl rfl hh
      obtain ⟨n, hh⟩ := rn_i rfl rfl rfl rfl hh
      have hh : pm_run PT n fr lo 243 (123, [some (.ref 162), some (.int (nI a)), some (.int (nI b)), some (.int ((v243_27 q cc gc a b gc 0 ((Int32.ofInt (-2)), (nI 1000000), fset h 162 0 (.int (nI 0)))).1)), some (.int ((v243_27 q cc gc a b gc 0 ((Int32.ofInt (-2)), (nI 1000000), fset h 162 0 (.int (nI 0)))).2.1)), u4, u3], [.long (((v243_27 q cc gc a b gc 0 ((Int32.ofInt (-2)), (nI 1000000), fset h 162 0 (.int (nI 0)))).2.1).toInt64), .ref 162], fset ((v243_27 q cc gc a b gc 0 ((Int32.ofInt (-2)), (nI 1000000), fset h 162 0 (.int (nI 0)))).2.2) 162 1 (.int (nI 0)), 198, sl) = some R := hh
      obtain ⟨n, fr1, lo1, r1, hh1, hh⟩ := rn_call (w := 0) (t := 167) rfl rfl hh
      obtain ⟨er9, hc10, hf11⟩ := v167_ok (v := (((v243_27 q cc gc a b gc 0 ((Int32.ofInt (-2)), (nI 1000000), fset h 162 0 (.int (nI 0)))).2.1).toInt64)) (hc_f rfl rfl (by decide) rfl hc5) hh1
      subst er9
      obtain ⟨n, hh⟩ := rn_i rfl rfl rfl rfl hh
      have hh : pm_run PT n fr lo 243 (127, [some (.ref 162), some (.int (nI a)), some (.int (nI b)), some (.int ((v243_27 q cc gc a b gc 0 ((Int32.ofInt (-2)), (nI 1000000), fset h 162 0 (.int (nI 0)))).1)), some (.int ((v243_27 q cc gc a b gc 0 ((Int32.ofInt (-2)), (nI 1000000), fset h 162 0 (.int (nI 0)))).2.1)), u4, u3], [.int ((v243_27 q cc gc a b gc 0 ((Int32.ofInt (-2)), (nI 1000000), fset h 162 0 (.int (nI 0)))).1)], v167 q cc gc (fset ((v243_27 q cc gc a b gc 0 ((Int32.ofInt (-2)), (nI 1000000), fset h 162 0 (.int (nI 0)))).2.2) 162 1 (.int (nI 0))) (((v243_27 q cc gc a b gc 0 ((Int32.ofInt (-2)), (nI 1000000), fset h 162 0 (.int (nI 0)))).2.1).toInt64), 198, sl) = some R := hh
      have er12 : R = (some (.int ((v243_27 q cc gc a b gc 0 ((Int32.ofInt (-2)), (nI 1000000), fset h 162 0 (.int (nI 0)))).1)), v167 q cc gc (fset ((v243_27 q cc gc a b gc 0 ((Int32.ofInt (-2)), (nI 1000000), fset h 162 0 (.int (nI 0)))).2.2) 162 1 (.int (nI 0))) (((v243_27 q cc gc a b gc 0 ((Int32.ofInt (-2)), (nI 1000000), fset h 162 0 (.int (nI 0)))).2.1).toInt64), 198, sl) := (rn_ret rfl (Or.inl rfl) hh).2
      have ed : v243 q cc gc h a b = ((v243_27 q cc gc a b gc 0 ((Int32.ofInt (-2)), (nI 1000000), fset h 162 0 (.int (nI 0)))).1, v167 q cc gc (fset ((v243_27 q cc gc a b gc 0 ((Int32.ofInt (-2)), (nI 1000000), fset h 162 0 (.int (nI 0)))).2.2) 162 1 (.int (nI 0))) (((v243_27 q cc gc a b gc 0 ((Int32.ofInt (-2)), (nI 1000000), fset h 162 0 (.int (nI 0)))).2.1).toInt64)) := (ct z2).trans ((cf z7).trans rfl)
      refine ⟨?_, ?_, ?_⟩ <;> rw [ed]
      · exact er12
      · exact hc10
      · exact (fr_g rfl rfl hf11 (fr_f rfl rfl (fr_g rfl rfl hf6 (fr_f rfl rfl fr_0))))
  | false =>
    have hh := en_f z2 hh
    have hh : pm_run PT n fr lo 243 (14, [some (.ref 162), some (.int (nI a)), some (.int (nI b)), none, none, none, none], [], fset h 162 0 (.int (nI 0)), 198, sl) = some R := hh
    obtain ⟨n, hh⟩ := rn_i rfl rfl rfl rfl hh
    have hh : pm_run PT n fr lo 243 (15, [some (.ref 162), some (.int (nI a)), some (.int (nI b)), none, none, none, none], [.int (Int32.ofInt (-1))], fset h 162 0 (.int (nI 0)), 198, sl) = some R := hh
    have er13 : R = (some (.int (Int32.ofInt (-1))), fset h 162 0 (.int (nI 0)), 198, sl) := (rn_ret rfl (Or.inl rfl) hh).2
    have ed : v243 q cc gc h a b = ((Int32.ofInt (-1)), fset h 162 0 (.int (nI 0))) := (cf z2).trans rfl
    refine ⟨?_, ?_, ?_⟩ <;> rw [ed]
    · exact er13
    · exact (hc_f rfl rfl (by decide) rfl hw)
    · exact (fr_f rfl rfl fr_0)
theorem v243_fr {cc gc : Nat} {q : QT} {h : pm_H} {a : Nat} {b : Nat} (hw : HC q cc gc h) : HC q cc gc ((v243 q cc gc h a b).2) ∧ frm [162, 163, 171] [(162, 0), (162, 1), (162, 41)] h ((v243 q cc gc h a b).2) := by
  unfold v243
  refine cd_s (P := fun (p : Int32 × pm_H) => HC q cc gc ((p).2) ∧ frm [162, 163, 171] [(162, 0), (162, 1), (162, 41)] h ((p).2)) (b := pP cc (nI a) (nI b)) (fun _ => ?_) (fun _ => ?_)
  · refine cd_s (P := fun (p : Int32 × pm_H) => HC q cc gc ((p).2) ∧ frm [162, 163, 171] [(162, 0), (162, 1), (162, 41)] h ((p).2)) (b := pm_cmp .lt ((v243_27 q cc gc a b gc 0 ((Int32.ofInt (-2)), (nI 1000000), fset h 162 0 (.int (nI 0)))).1) 0) (fun _ => ?_) (fun _ => ?_)
    · show HC q cc gc ((v243_27 q cc gc a b gc 0 ((Int32.ofInt (-2)), (nI 1000000), fset h 162 0 (.int (nI 0)))).2.2) ∧ frm [162, 163, 171] [(162, 0), (162, 1), (162, 41)] h ((v243_27 q cc gc a b gc 0 ((Int32.ofInt (-2)), (nI 1000000), fset h 162 0 (.int (nI 0)))).2.2)
      exact ⟨(v243_27_fr (m1 := a) (m2 := b) (j := gc) (i := 0) (x3 := (Int32.ofInt (-2))) (x4 := (nI 1000000)) (hc_f rfl rfl (by decide) rfl hw)).1, (fr_g rfl rfl (v243_27_fr (m1 := a) (m2 := b) (j := gc) (i := 0) (x3 := (Int32.ofInt (-2))) (x4 := (nI 1000000)) (hc_f rfl rfl (by decide) rfl hw)).2 (fr_f rfl rfl fr_0))⟩
    · show HC q cc gc (v167 q cc gc (fset ((v243_27 q cc gc a b gc 0 ((Int32.ofInt (-2)), (nI 1000000), fset h 162 0 (.int (nI 0)))).2.2) 162 1 (.int (nI 0))) (((v243_27 q cc gc a b gc 0 ((Int32.ofInt (-2)), (nI 1000000), fset h 162 0 (.int (nI 0)))).2.1).toInt64)) ∧ frm [162, 163, 171] [(162, 0), (162, 1), (162, 41)] h (v167 q cc gc (fset ((v243_27 q cc gc a b gc 0 ((Int32.ofInt (-2)), (nI 1000000), fset h 162 0 (.int (nI 0)))).2.2) 162 1 (.int (nI 0))) (((v243_27 q cc gc a b gc 0 ((Int32.ofInt (-2)), (nI 1000000), fset h 162 0 (.int (nI 0)))).2.1).toInt64))
      exact ⟨(v167_fr (v := (((v243_27 q cc gc a b gc 0 ((Int32.ofInt (-2)), (nI 1000000), fset h 162 0 (.int (nI 0)))).2.1).toInt64)) (hc_f rfl rfl (by decide) rfl (v243_27_fr (m1 := a) (m2 := b) (j := gc) (i := 0) (x3 := (Int32.ofInt (-2))) (x4 := (nI 1000000)) (hc_f rfl rfl (by decide) rfl hw)).1)).1, (fr_g rfl rfl (v167_fr (v := (((v243_27 q cc gc a b gc 0 ((Int32.ofInt (-2)), (nI 1000000), fset h 162 0 (.int (nI 0)))).2.1).toInt64)) (hc_f rfl rfl (by decide) rfl (v243_27_fr (m1 := a) (m2 := b) (j := gc) (i := 0) (x3 := (Int32.ofInt (-2))) (x4 := (nI 1000000)) (hc_f rfl rfl (by decide) rfl hw)).1)).2 (fr_f rfl rfl (fr_g rfl rfl (v243_27_fr (m1 := a) (m2 := b) (j := gc) (i := 0) (x3 := (Int32.ofInt (-2))) (x4 := (nI 1000000)) (hc_f rfl rfl (by decide) rfl hw)).2 (fr_f rfl rfl fr_0))))⟩
  · show HC q cc gc (fset h 162 0 (.int (nI 0))) ∧ frm [162, 163, 171] [(162, 0), (162, 1), (162, 41)] h (fset h 162 0 (.int (nI 0)))
    exact ⟨(hc_f rfl rfl (by decide) rfl hw), (fr_f rfl rfl fr_0)⟩
def v244 (q : QT) (cc gc : Nat) (h : pm_H) (c : Nat) : Int32 × pm_H := cond (decide (c < cc)) ((v205 q cc gc (Ar h 170) c) - (v204 q cc gc (Ar h 170) c), v167 q cc gc (v167 q cc gc (fset (fset h 162 0 (.int (nI 0))) 162 1 (.int (nI 0))) ((v205 q cc gc (Ar h 170) c).toInt64)) ((v204 q cc gc (Ar h 170) c).toInt64)) ((Int32.ofInt (-100000)), fset h 162 0 (.int (nI 0)))
theorem v244_ok {n fr lo sl cc gc : Nat} {q : QT} {h : pm_H} {R : pm_Rs} {c : Nat} (hw : HC q cc gc h) (h_c : c < 10000) (hh : pm_run PT n fr lo 244 (0, pm_l0 [.ref 162, .int (nI c)] 2, [], h, 198, sl) = some R) : R = (some (.int ((v244 q cc gc h c).1)), (v244 q cc gc h c).2, 198, sl) ∧ HC q cc gc ((v244 q cc gc h c).2) ∧ frm [162, 163] [(162, 0), (162, 1)] h ((v244 q cc gc h c).2) := by
  have hcc := hw.cb
  have hgc := hw.gb
  have hzr := hw.zr
  obtain ⟨n, hh⟩ := rn_i rfl rfl rfl rfl hh
  obtain ⟨n, hh⟩ := rn_i rfl rfl rfl rfl hh
  have hh : pm_run PT n fr lo 244 (2, [some (.ref 162), some (.int (nI c))], [.int (nI 0), .ref 162], h, 198, sl) = some R := hh
  obtain ⟨n, hh⟩ := rn_pi hw.wt rfl rfl (by decide) rfl (by decide) rfl hh
  obtain ⟨n, hh⟩ := rn_i rfl rfl rfl rfl hh
  obtain ⟨n, hh⟩ := rn_i rfl rfl rfl rfl hh
  have hh : pm_run PT n fr lo 244 (7, [some (.ref 162), some (.int (nI c))], [.int (nI c), .ref 162], fset h 162 0 (.int (nI 0)), 198, sl) = some R := hh
  obtain ⟨n, fr1, lo1, r1, hh1, hh⟩ := rn_call (w := 0) (t := 168) rfl rfl hh
  have er1 := mi_run hcc (hc_m3 (hc_f rfl rfl (by decide) rfl hw)) hh1
  rw [cB_n (by omega)] at er1
  subst er1
  have hh : pm_run PT n fr lo 244 (10, [some (.ref 162), some (.int (nI c))], [.int (cond (decide (c < cc)) 1 0)], fset h 162 0 (.int (nI 0)), 198, sl) = some R := hh
  obtain ⟨n, hh⟩ := en_zn (cc := .ne) (off := 7) (t := 17) (b := decide (c < cc)) eb_ne rfl rfl hh
  cases z2 : decide (c < cc) with
  | true =>
    have hh := en_t z2 hh
    have hh : pm_run PT n fr lo 244 (17, [some (.ref 162), some (.int (nI c))], [], fset h 162 0 (.int (nI 0)), 198, sl) = some R := hh
    have y3 := of_decide_eq_true z2
    obtain ⟨n, hh⟩ := rn_i rfl rfl rfl rfl hh
    obtain ⟨n, hh⟩ := rn_i rfl rfl rfl rfl hh
    have hh : pm_run PT n fr lo 244 (19, [some (.ref 162), some (.int (nI c))], [.int (nI 0), .ref 162], fset h 162 0 (.int (nI 0)), 198, sl) = some R := hh
    obtain ⟨n, hh⟩ := rn_pi (hc_f rfl rfl (by decide) rfl hw).wt rfl rfl (by decide) rfl (by decide) rfl hh
    obtain ⟨n, hh⟩ := rn_i rfl rfl rfl rfl hh
    obtain ⟨n, hh⟩ := rn_i rfl rfl rfl rfl hh
    obtain ⟨n, hh⟩ := rn_i rfl rfl rfl rfl hh
    have hh : pm_run PT n fr lo 244 (25, [some (.ref 162), some (.int (nI c))], [.int (nI c), .ref 162, .ref 162], fset (fset h 162 0 (.int (nI 0))) 162 1 (.int (nI 0)), 198, sl) = some R := hh
    obtain ⟨n, fr1, lo1, r1, hh1, hh⟩ := rn_call (w := 0) (t := 205) rfl rfl hh
    have er4 := v205_ok (c := c) (hc_f rfl rfl (by decide) rfl (hc_f rfl rfl (by decide) rfl hw)) (by omega) hh1
    rw [show Ar (fset (fset h 162 0 (.int (nI 0))) 162 1 (.int (nI 0))) 170 = Ar h 170 from (Ar_f.trans (Ar_f.trans rfl))] at er4
    subst er4
    obtain ⟨n, hh⟩ := rn_i rfl rfl rfl rfl hh
    have hh : pm_run PT n fr lo 244 (29, [some (.ref 162), some (.int (nI c))], [.long ((v205 q cc gc (Ar h 170) c).toInt64), .ref 162], fset (fset h 162 0 (.int (nI 0))) 162 1 (.int (nI 0)), 198, sl) = some R := hh
    obtain ⟨n, fr1, lo1, r1, hh1, hh⟩ := rn_call (w := 0) (t := 167) rfl rfl hh
    obtain ⟨er5, hc6, hf7⟩ := v167_ok (v := ((v205 q cc gc (Ar h 170) c).toInt64)) (hc_f rfl rfl (by decide) rfl (hc_f rfl rfl (by decide) rfl hw)) hh1
    subst er5
    obtain ⟨n, hh⟩ := rn_i rfl rfl rfl rfl hh
    obtain ⟨n, hh⟩ := rn_i rfl rfl rfl rfl hh
    obtain ⟨n, hh⟩ := rn_i rfl rfl rfl rfl hh
    have hh : pm_run PT n fr lo 244 (35, [some (.ref 162), some (.int (nI c))], [.int (nI c), .ref 162, .ref 162], v167 q cc gc (fset (fset h 162 0 (.int (nI 0))) 162 1 (.int (nI 0))) ((v205 q cc gc (Ar h 170) c).toInt64), 198, sl) = some R := hh
    obtain ⟨n, fr1, lo1, r1, hh1, hh⟩ := rn_call (w := 0) (t := 204) rfl rfl hh
    have er8 := v204_ok (c := c) hc6 (by omega) hh1
    rw [show Ar (v167 q cc gc (fset (fset h 162 0 (.int (nI 0))) 162 1 (.int (nI 0))) ((v205 q cc gc (Ar h 170) c).toInt64)) 170 = Ar h 170 from ((Ar_e (hf7.1 170 rfl)).trans (Ar_f.trans (Ar_f.trans rfl)))] at er8
    subst er8
    obtain ⟨n, hh⟩ := rn_i rfl rfl rfl rfl hh
    have hh : pm_run PT n fr lo 244 (39, [some (.ref 162), some (.int (nI c))], [.long ((v204 q cc gc (Ar h 170) c).toInt64), .ref 162], v167 q cc gc (fset (fset h 162 0 (.int (nI 0))) 162 1 (.int (nI 0))) ((v205 q cc gc (Ar h 170) c).toInt64), 198, sl) = some R := hh
    obtain ⟨n, fr1, lo1, r1, hh1, hh⟩ := rn_call (w := 0) (t := 167) rfl rfl hh
    obtain ⟨er9, hc10, hf11⟩ := v167_ok (v := ((v204 q cc gc (Ar h 170) c).toInt64)) hc6 hh1
    subst er9
    obtain ⟨n, hh⟩ := rn_i rfl rfl rfl rfl hh
    obtain ⟨n, hh⟩ := rn_i rfl rfl rfl rfl hh
    have hh : pm_run PT n fr lo 244 (44, [some (.ref 162), some (.int (nI c))], [.int (nI c), .ref 162], v167 q cc gc (v167 q cc gc (fset (fset h 162 0 (.int (nI 0))) 162 1 (.int (nI 0))) ((v205 q cc gc (Ar h 170) c).toInt64)) ((v204 q cc gc (Ar h 170) c).toInt64), 198, sl) = some R := hh
    obtain ⟨n, fr1, lo1, r1, hh1, hh⟩ := rn_call (w := 0) (t := 205) rfl rfl hh
    have er12 := v205_ok (c := c) hc10 (by omega) hh1
    rw [show Ar (v167 q cc gc (v167 q cc gc (fset (fset h 162 0 (.int (nI 0))) 162 1 (.int (nI 0))) ((v205 q cc gc (Ar h 170) c).toInt64)) ((v204 q cc gc (Ar h 170) c).toInt64)) 170 = Ar h 170 from ((Ar_e (hf11.1 170 rfl)).trans ((Ar_e (hf7.1 170 rfl)).trans (Ar_f.trans (Ar_f.trans rfl))))] at er12
    subst er12
    obtain ⟨n, hh⟩ := rn_i rfl rfl rfl rfl hh
    obtain ⟨n, hh⟩ := rn_i rfl rfl rfl rfl hh
    have hh : pm_run PT n fr lo 244 (49, [some (.ref 162), some (.int (nI c))], [.int (nI c), .ref 162, .int (v205 q cc gc (Ar h 170) c)], v167 q cc gc (v167 q cc gc (fset (fset h 162 0 (.int (nI 0))) 162 1 (.int (nI 0))) ((v205 q cc gc (Ar h 170) c).toInt64)) ((v204 q cc gc (Ar h 170) c).toInt64), 198, sl) = some R := hh
    obtain ⟨n, fr1, lo1, r1, hh1, hh⟩ := rn_call (w := 0) (t := 204) rfl rfl hh
    have er13 := v204_ok (c := c) hc10 (by omega) hh1
    rw [show Ar (v167 q cc gc (v167 q cc gc (fset (fset h 162 0 (.int (nI 0))) 162 1 (.int (nI 0))) ((v205 q cc gc (Ar h 170) c).toInt64)) ((v204 q cc gc (Ar h 170) c).toInt64)) 170 = Ar h 170 from ((Ar_e (hf11.1 170 rfl)).trans ((Ar_e (hf7.1 170 rfl)).trans (Ar_f.trans (Ar_f.trans rfl))))] at er13
    subst er13
    obtain ⟨n, hh⟩ := rn_i rfl rfl rfl rfl hh
    have hh : pm_run PT n fr lo 244 (53, [some (.ref 162), some (.int (nI c))], [.int ((v205 q cc gc (Ar h 170) c) - (v204 q cc gc (Ar h 170) c))], v167 q cc gc (v167 q cc gc (fset (fset h 162 0 (.int (nI 0))) 162 1 (.int (nI 0))) ((v205 q cc gc (Ar h 170) c).toInt64)) ((v204 q cc gc (Ar h 170) c).toInt64), 198, sl) = some R := hh
    have er14 : R = (some (.int ((v205 q cc gc (Ar h 170) c) - (v204 q cc gc (Ar h 170) c))), v167 q cc gc (v167 q cc gc (fset (fset h 162 0 (.int (nI 0))) 162 1 (.int (nI 0))) ((v205 q cc gc (Ar h 170) c).toInt64)) ((v204 q cc gc (Ar h 170) c).toInt64), 198, sl) := (rn_ret rfl (Or.inl rfl) hh).2
    have ed : v244 q cc gc h c = ((v205 q cc gc (Ar h 170) c) - (v204 q cc gc (Ar h 170) c), v167 q cc gc (v167 q cc gc (fset (fset h 162 0 (.int (nI 0))) 162 1 (.int (nI 0))) ((v205 q cc gc (Ar h 170) c).toInt64)) ((v204 q cc gc (Ar h 170) c).toInt64)) := (ct z2).trans rfl
    refine ⟨?_, ?_, ?_⟩ <;> rw [ed]
    · exact er14
    · exact hc10
    · exact (fr_g rfl rfl hf11 (fr_g rfl rfl hf7 (fr_f rfl rfl (fr_f rfl rfl fr_0))))
  | false =>
    have hh := en_f z2 hh
    have hh : pm_run PT n fr lo 244 (13, [some (.ref 162), some (.int (nI c))], [], fset h 162 0 (.int (nI 0)), 198, sl) = some R := hh
    have y15 := of_decide_eq_false z2
    obtain ⟨n, hh⟩ := rn_i rfl rfl rfl rfl hh
    have hh : pm_run PT n fr lo 244 (16, [some (.ref 162), some (.int (nI c))], [.int (Int32.ofInt (-100000))], fset h 162 0 (.int (nI 0)), 198, sl) = some R := hh
    have er16 : R = (some (.int (Int32.ofInt (-100000))), fset h 162 0 (.int (nI 0)), 198, sl) := (rn_ret rfl (Or.inl rfl) hh).2
    have ed : v244 q cc gc h c = ((Int32.ofInt (-100000)), fset h 162 0 (.int (nI 0))) := (cf z2).trans rfl
    refine ⟨?_, ?_, ?_⟩ <;> rw [ed]
    · exact er16
    · exact (hc_f rfl rfl (by decide) rfl hw)
    · exact (fr_f rfl rfl fr_0)
theorem v244_fr {cc gc : Nat} {q : QT} {h : pm_H} {c : Nat} (hw : HC q cc gc h) : HC q cc gc ((v244 q cc gc h c).2) ∧ frm [162, 163] [(162, 0), (162, 1)] h ((v244 q cc gc h c).2) := by
  unfold v244
  refine cd_s (P := fun (p : Int32 × pm_H) => HC q cc gc ((p).2) ∧ frm [162, 163] [(162, 0), (162, 1)] h ((p).2)) (b := decide (c < cc)) (fun _ => ?_) (fun _ => ?_)
  · show HC q cc gc (v167 q cc gc (v167 q cc gc (fset (fset h 162 0 (.int (nI 0))) 162 1 (.int (nI 0))) ((v205 q cc gc (Ar h 170) c).toInt64)) ((v204 q cc gc (Ar h 170) c).toInt64)) ∧ frm [162, 163] [(162, 0), (162, 1)] h (v167 q cc gc (v167 q cc gc (fset (fset h 162 0 (.int (nI 0))) 162 1 (.int (nI 0))) ((v205 q cc gc (Ar h 170) c).toInt64)) ((v204 q cc gc (Ar h 170) c).toInt64))
    exact ⟨(v167_fr (v := ((v204 q cc gc (Ar h 170) c).toInt64)) (v167_fr (v := ((v205 q cc gc (Ar h 170) c).toInt64)) (hc_f rfl rfl (by decide) rfl (hc_f rfl rfl (by decide) rfl hw))).1).1, (fr_g rfl rfl (v167_fr (v := ((v204 q cc gc (Ar h 170) c).toInt64)) (v167_fr (v := ((v205 q cc gc (Ar h 170) c).toInt64)) (hc_f rfl rfl (by decide) rfl (hc_f rfl rfl (by decide) rfl hw))).1).2 (fr_g rfl rfl (v167_fr (v := ((v205 q cc gc (Ar h 170) c).toInt64)) (hc_f rfl rfl (by decide) rfl (hc_f rfl rfl (by decide) rfl hw))).2 (fr_f rfl rfl (fr_f rfl rfl fr_0))))⟩
  · show HC q cc gc (fset h 162 0 (.int (nI 0))) ∧ frm [162, 163] [(162, 0), (162, 1)] h (fset h 162 0 (.int (nI 0)))
    exact ⟨(hc_f rfl rfl (by decide) rfl hw), (fr_f rfl rfl fr_0)⟩
def v245_9b (q : QT) (cc gc : Nat) (d0 : Nat → Int32) (i : Nat) (x1 : Int32) : Int32 := x1 ||| (cond (pm_cmp .eq (v205 q cc gc (d0) i) (v204 q cc gc (d0) i)) (nI 0) (nI (2 ^ i)))
def v245_9 (q : QT) (cc gc : Nat) (d0 : Nat → Int32) (j i : Nat) (a : Int32) : Int32 := lp (fun i a => v245_9b q cc gc d0 i a) j i a
theorem v245_9_e {n fr lo sl cc gc : Nat} {q : QT} {h : pm_H} {R : pm_Rs} {i : Nat} {x1 : Int32} (hw : HC q cc gc h) (hi : cc ≤ i) (hI : i < 1000000) (hh : pm_run PT n fr lo 245 (9, [some (.ref 162), some (.int x1), some (.int (nI i)), none], [], h, 198, sl) = some R) : ∃ m, pm_run PT m fr lo 245 (46, [some (.ref 162), some (.int x1), some (.int (nI i)), none], [], h, 198, sl) = some R := by
  have hcc := hw.cb
  have hgc := hw.gb
  have hzr := hw.zr
  obtain ⟨n, hh⟩ := rn_i rfl rfl rfl rfl hh
  obtain ⟨n, hh⟩ := rn_i rfl rfl rfl rfl hh
  have hh : pm_run PT n fr lo 245 (11, [some (.ref 162), some (.int x1), some (.int (nI i)), none], [.ref 162, .int (nI i)], h, 198, sl) = some R := hh
  obtain ⟨n, hh⟩ := rn_gi (x := nI cc) hw.wt rfl rfl (by decide) rfl (by decide) rfl hw.m3 hh
  have hh : pm_run PT n fr lo 245 (14, [some (.ref 162), some (.int x1), some (.int (nI i)), none], [.int (nI cc), .int (nI i)], h, 198, sl) = some R := hh
  obtain ⟨n, hh⟩ := en_cn (cc := .ge) (off := 32) (t := 46) (b := decide (cc ≤ i)) (hI_ge (by omega) (by omega)) rfl rfl hh
  have hh := en_t (show decide (cc ≤ i) = true from decide_eq_true (by omega)) hh
  have hh : pm_run PT n fr lo 245 (46, [some (.ref 162), some (.int x1), some (.int (nI i)), none], [], h, 198, sl) = some R := hh
  exact ⟨n, hh⟩
theorem v245_9_s {n fr lo sl cc gc : Nat} {q : QT} {h : pm_H} {R : pm_Rs} {i : Nat} {x1 : Int32} (hw : HC q cc gc h) (hi : i < cc) (hI : i < 1000000) (hh : pm_run PT n fr lo 245 (9, [some (.ref 162), some (.int x1), some (.int (nI i)), none], [], h, 198, sl) = some R) : ∃ m, pm_run PT m fr lo 245 (9, [some (.ref 162), some (.int (v245_9b q cc gc (Ar h 170) i x1)), some (.int (nI (i + 1))), none], [], h, 198, sl) = some R := by
  have hcc := hw.cb
  have hgc := hw.gb
  have hzr := hw.zr
  obtain ⟨n, hh⟩ := rn_i rfl rfl rfl rfl hh
  obtain ⟨n, hh⟩ := rn_i rfl rfl rfl rfl hh
  have hh : pm_run PT n fr lo 245 (11, [some (.ref 162), some (.int x1), some (.int (nI i)), none], [.ref 162, .int (nI i)], h, 198, sl) = some R := hh
  obtain ⟨n, hh⟩ := rn_gi (x := nI cc) hw.wt rfl rfl (by decide) rfl (by decide) rfl hw.m3 hh
  have hh : pm_run PT n fr lo 245 (14, [some (.ref 162), some (.int x1), some (.int (nI i)), none], [.int (nI cc), .int (nI i)], h, 198, sl) = some R := hh
  obtain ⟨n, hh⟩ := en_cn (cc := .ge) (off := 32) (t := 46) (b := decide (cc ≤ i)) (hI_ge (by omega) (by omega)) rfl rfl hh
  have hh := en_f (show decide (cc ≤ i) = false from decide_eq_false (by omega)) hh
  have hh : pm_run PT n fr lo 245 (17, [some (.ref 162), some (.int x1), some (.int (nI i)), none], [], h, 198, sl) = some R := hh
  obtain ⟨n, hh⟩ := rn_i rfl rfl rfl rfl hh
  obtain ⟨n, hh⟩ := rn_i rfl rfl rfl rfl hh
  obtain ⟨n, hh⟩ := rn_i rfl rfl rfl rfl hh
  have hh : pm_run PT n fr lo 245 (20, [some (.ref 162), some (.int x1), some (.int (nI i)), none], [.int (nI i), .ref 162, .int x1], h, 198, sl) = some R := hh
  obtain ⟨n, fr1, lo1, r1, hh1, hh⟩ := rn_call (w := 0) (t := 205) rfl rfl hh
  have er1 := v205_ok (c := i) hw (by omega) hh1
  subst er1
  obtain ⟨n, hh⟩ := rn_i rfl rfl rfl rfl hh
  obtain ⟨n, hh⟩ := rn_i rfl rfl rfl rfl hh
  have hh : pm_run PT n fr lo 245 (25, [some (.ref 162), some (.int x1), some (.int (nI i)), none], [.int (nI i), .ref 162, .int (v205 q cc gc (Ar h 170) i), .int x1], h, 198, sl) = some R := hh
  obtain ⟨n, fr1, lo1, r1, hh1, hh⟩ := rn_call (w := 0) (t := 204) rfl rfl hh
  have er2 := v204_ok (c := i) hw (by omega) hh1
  subst er2
  have hh : pm_run PT n fr lo 245 (28, [some (.ref 162), some (.int x1), some (.int (nI i)), none], [.int (v204 q cc gc (Ar h 170) i), .int (v205 q cc gc (Ar h 170) i), .int x1], h, 198, sl) = some R := hh
  obtain ⟨n, hh⟩ := en_cn (cc := .eq) (off := 9) (t := 37) (b := pm_cmp .eq (v205 q cc gc (Ar h 170) i) (v204 q cc gc (Ar h 170) i)) rfl rfl rfl hh
  have hj5 : ∃ mJ, pm_run PT mJ fr lo 245 (cond (pm_cmp .eq (v205 q cc gc (Ar h 170) i) (v204 q cc gc (Ar h 170) i)) (38, [some (.ref 162), some (.int x1), some (.int (nI i)), none], [.int (nI 0), .int x1], h, 198, sl) (38, [some (.ref 162), some (.int x1), some (.int (nI i)), none], [.int (nI (2 ^ i)), .int x1], h, 198, sl)) = some R := en_J (fun z3 => by
      have hh := en_t z3 hh
      have hh : pm_run PT n fr lo 245 (37, [some (.ref 162), some (.int x1), some (.int (nI i)), none], [.int x1], h, 198, sl) = some R := hh
      obtain ⟨n, hh⟩ := rn_i rfl rfl rfl rfl hh
      exact ⟨n, hh⟩) (fun z3 => by
      have hh := en_f z3 hh
      have hh : pm_run PT n fr lo 245 (31, [some (.ref 162), some (.int x1), some (.int (nI i)), none], [.int x1], h, 198, sl) = some R := hh
      obtain ⟨n, hh⟩ := rn_i rfl rfl rfl rfl hh
      obtain ⟨n, hh⟩ := rn_i rfl rfl rfl rfl hh
      have hh : pm_run PT n fr lo 245 (33, [some (.ref 162), some (.int x1), some (.int (nI i)), none], [.int (nI i), .int (nI 1), .int x1], h, 198, sl) = some R := hh
      have hb4 := en_pw (show i ≤ 8 by omega)
      obtain ⟨n, hh⟩ := en_shl (y := i) (by omega) rfl hh
      have hh : pm_run PT n fr lo 245 (34, [some (.ref 162), some (.int x1), some (.int (nI i)), none], [.int (nI (2 ^ i)), .int x1], h, 198, sl) = some R := hh
      obtain ⟨n, hh⟩ := rn_i rfl rfl rfl rfl hh
      exact ⟨n, hh⟩)
  obtain ⟨n, hh⟩ := hj5
  rw [show (cond (pm_cmp .eq (v205 q cc gc (Ar h 170) i) (v204 q cc gc (Ar h 170) i)) (38, [some (.ref 162), some (.int x1), some (.int (nI i)), none], [.int (nI 0), .int x1], h, 198, sl) (38, [some (.ref 162), some (.int x1), some (.int (nI i)), none], [.int (nI (2 ^ i)), .int x1], h, 198, sl) : pm_St) = (38, [some (.ref 162), some (.int x1), some (.int (nI i)), none], [.int (cond (pm_cmp .eq (v205 q cc gc (Ar h 170) i) (v204 q cc gc (Ar h 170) i)) (nI 0) (nI (2 ^ i))), .int x1], h, 198, sl) from by cases (pm_cmp .eq (v205 q cc gc (Ar h 170) i) (v204 q cc gc (Ar h 170) i)) <;> rfl] at hh
  obtain ⟨n, hh⟩ := rn_i rfl rfl rfl rfl hh
  obtain ⟨n, hh⟩ := rn_i rfl rfl rfl rfl hh
  have hh : pm_run PT n fr lo 245 (40, [some (.ref 162), some (.int (x1 ||| (cond (pm_cmp .eq (v205 q cc gc (Ar h 170) i) (v204 q cc gc (Ar h 170) i)) (nI 0) (nI (2 ^ i))))), some (.int (nI i)), none], [], h, 198, sl) = some R := hh
  obtain ⟨n, hh⟩ := en_inc (x := i) (c := 1) (j := 2) rfl rfl (by decide) hh
  have hh : pm_run PT n fr lo 245 (43, [some (.ref 162), some (.int (x1 ||| (cond (pm_cmp .eq (v205 q cc gc (Ar h 170) i) (v204 q cc gc (Ar h 170) i)) (nI 0) (nI (2 ^ i))))), some (.int (nI (i + 1))), none], [], h, 198, sl) = some R := hh
  obtain ⟨n, hh⟩ := rn_i rfl rfl rfl rfl hh
  have ed : v245_9b q cc gc (Ar h 170) i x1 = x1 ||| (cond (pm_cmp .eq (v205 q cc gc (Ar h 170) i) (v204 q cc gc (Ar h 170) i)) (nI 0) (nI (2 ^ i))) := rfl
  rw [ed]
  exact ⟨n, hh⟩
theorem v245_9_ok {fr lo sl cc gc : Nat} {q : QT} {R : pm_Rs} : ∀ {j i : Nat} {x1 : Int32} {h : pm_H} {n : Nat}, cc - i = j → i + j < 1000000 → HC q cc gc h → pm_run PT n fr lo 245 (9, [some (.ref 162), some (.int x1), some (.int (nI i)), none], [], h, 198, sl) = some R → ∃ m wc, pm_run PT m fr lo 245 (46, [some (.ref 162), some (.int (v245_9 q cc gc (Ar h 170) j i x1)), wc, none], [], h, 198, sl) = some R := by
  intro j
  induction j with
  | zero =>
    intro i x1 h n e eI hw hh
    obtain ⟨n, hh⟩ := v245_9_e hw (by omega) (by omega) hh
    exact ⟨n, _, hh⟩
  | succ j ih =>
    intro i x1 h n e eI hw hh
    obtain ⟨n, hh⟩ := v245_9_s hw (by omega) (by omega) hh
    obtain ⟨n, wc, hh⟩ := ih (by omega) (by omega) hw hh
    exact ⟨n, wc, hh⟩
def v245_74b (q : QT) (cc gc : Nat) (h : pm_H) (t1 : Int32) (m2 : Nat) (i : Nat) : pm_H := cond (v164 q cc gc (nI m2) (nI i)) (aset (aset h 187 64 (upd (Ar h 187) m2 (((Ar h 187) m2) + ((v205 q cc gc (Ar h 170) i) - (v204 q cc gc (Ar h 170) i))))) 188 64 (upd (Ar h 188) m2 (imax ((Ar h 188) m2) ((Ar h 188) (((nI m2) &&& ((nI (2 ^ i)) ^^^ (Int32.ofInt (-1)))).toNatClampNeg))))) h
def v245_74 (q : QT) (cc gc : Nat) (t1 : Int32) (m2 : Nat) (j i : Nat) (a : pm_H) : pm_H := lp (fun i a => v245_74b q cc gc a t1 m2 i) j i a
theorem v245_74_e {n fr lo sl cc gc : Nat} {q : QT} {h : pm_H} {R : pm_Rs} {t1 : Int32} {m2 : Nat} {i : Nat} (hw : HC q cc gc h) (h_m2 : m2 < 10000) (hi : cc ≤ i) (hI : i < 1000000) (hh : pm_run PT n fr lo 245 (74, [some (.ref 162), some (.int t1), some (.int (nI m2)), some (.int (nI i))], [], h, 198, sl) = some R) : ∃ m, pm_run PT m fr lo 245 (143, [some (.ref 162), some (.int t1), some (.int (nI m2)), some (.int (nI i))], [], h, 198, sl) = some R := by
  have hcc := hw.cb
  have hgc := hw.gb
  have hzr := hw.zr
  obtain ⟨n, hh⟩ := rn_i rfl rfl rfl rfl hh
  obtain ⟨n, hh⟩ := rn_i rfl rfl rfl rfl hh
  have hh : pm_run PT n fr lo 245 (76, [some (.ref 162), some (.int t1), some (.int (nI m2)), some (.int (nI i))], [.ref 162, .int (nI i)], h, 198, sl) = some R := hh
  obtain ⟨n, hh⟩ := rn_gi (x := nI cc) hw.wt rfl rfl (by decide) rfl (by decide) rfl hw.m3 hh
  have hh : pm_run PT n fr lo 245 (79, [some (.ref 162), some (.int t1), some (.int (nI m2)), some (.int (nI i))], [.int (nI cc), .int (nI i)], h, 198, sl) = some R := hh
  obtain ⟨n, hh⟩ := en_cn (cc := .ge) (off := 64) (t := 143) (b := decide (cc ≤ i)) (hI_ge (by omega) (by omega)) rfl rfl hh
  have hh := en_t (show decide (cc ≤ i) = true from decide_eq_true (by omega)) hh
  have hh : pm_run PT n fr lo 245 (143, [some (.ref 162), some (.int t1), some (.int (nI m2)), some (.int (nI i))], [], h, 198, sl) = some R := hh
  exact ⟨n, hh⟩
theorem v245_74_s {n fr lo sl cc gc : Nat} {q : QT} {h : pm_H} {R : pm_Rs} {t1 : Int32} {m2 : Nat} {i : Nat} (hw : HC q cc gc h) (h_m2 : m2 < 10000) (hi : i < cc) (hI : i < 1000000) (hh : pm_run PT n fr lo 245 (74, [some (.ref 162), some (.int t1), some (.int (nI m2)), some (.int (nI i))], [], h, 198, sl) = some R) : ∃ m, HC q cc gc ((v245_74b q cc gc h t1 m2 i)) ∧ frm [187, 188] [] h ((v245_74b q cc gc h t1 m2 i)) ∧ pm_run PT m fr lo 245 (74, [some (.ref 162), some (.int t1), some (.int (nI m2)), some (.int (nI (i + 1)))], [], (v245_74b q cc gc h t1 m2 i), 198, sl) = some R := by
  have hcc := hw.cb
  have hgc := hw.gb
  have hzr := hw.zr
  obtain ⟨n, hh⟩ := rn_i rfl rfl rfl rfl hh
  obtain ⟨n, hh⟩ := rn_i rfl rfl rfl rfl hh
  have hh : pm_run PT n fr lo 245 (76, [some (.ref 162), some (.int t1), some (.int (nI m2)), some (.int (nI i))], [.ref 162, .int (nI i)], h, 198, sl) = some R := hh
  obtain ⟨n, hh⟩ := rn_gi (x := nI cc) hw.wt rfl rfl (by decide) rfl (by decide) rfl hw.m3 hh
  have hh : pm_run PT n fr lo 245 (79, [some (.ref 162), some (.int t1), some (.int (nI m2)), some (.int (nI i))], [.int (nI cc), .int (nI i)], h, 198, sl) = some R := hh
  obtain ⟨n, hh⟩ := en_cn (cc := .ge) (off := 64) (t := 143) (b := decide (cc ≤ i)) (hI_ge (by omega) (by omega)) rfl rfl hh
  have hh := en_f (show decide (cc ≤ i) = false from decide_eq_false (by omega)) hh
  have hh : pm_run PT n fr lo 245 (82, [some (.ref 162), some (.int t1), some (.int (nI m2)), some (.int (nI i))], [], h, 198, sl) = some R := hh
  obtain ⟨n, hh⟩ := rn_i rfl rfl rfl rfl hh
  obtain ⟨n, hh⟩ := rn_i rfl rfl rfl rfl hh
  have hh : pm_run PT n fr lo 245 (84, [some (.ref 162), some (.int t1), some (.int (nI m2)), some (.int (nI i))], [.int (nI i), .int (nI m2)], h, 198, sl) = some R := hh
  obtain ⟨n, fr1, lo1, r1, hh1, hh⟩ := rn_call (w := 2) (t := 164) rfl rfl hh
  have er7 := v164_ok (a := (nI m2)) (b := (nI i)) hw hh1
  subst er7
  have hh : pm_run PT n fr lo 245 (87, [some (.ref 162), some (.int t1), some (.int (nI m2)), some (.int (nI i))], [.int (cond (v164 q cc gc (nI m2) (nI i)) 1 0)], h, 198, sl) = some R := hh
  obtain ⟨n, hh⟩ := en_zn (cc := .eq) (off := 50) (t := 137) (b := !(v164 q cc gc (nI m2) (nI i))) eb_eq rfl rfl hh
  cases z8 : v164 q cc gc (nI m2) (nI i) with
  | true =>
    have hh := en_nt z8 hh
    have hh : pm_run PT n fr lo 245 (90, [some (.ref 162), some (.int t1), some (.int (nI m2)), some (.int (nI i))], [], h, 198, sl) = some R := hh
    obtain ⟨n, hh⟩ := rn_i rfl rfl rfl rfl hh
    have hh : pm_run PT n fr lo 245 (91, [some (.ref 162), some (.int t1), some (.int (nI m2)), some (.int (nI i))], [.ref 162], h, 198, sl) = some R := hh
    obtain ⟨n, hh⟩ := rn_gr hw.wt rfl rfl (by decide) rfl (by decide) (show _ = some (2, ((187 : Nat) : Int), 1) from rfl) rfl hh
    obtain ⟨n, hh⟩ := rn_i rfl rfl rfl rfl hh
    obtain ⟨n, hh⟩ := rn_i rfl rfl rfl rfl hh
    have hh : pm_run PT n fr lo 245 (96, [some (.ref 162), some (.int t1), some (.int (nI m2)), some (.int (nI i))], [.int (nI m2), .ref 187, .int (nI m2), .ref 187], h, 198, sl) = some R := hh
    obtain ⟨n, hx9, hh⟩ := en_lu (t := m2) (f := Ar h 187) (w := (Ar h 187) m2) (nI_clamp (by omega)) hw.wt rfl (by decide) rfl (by decide) rfl (fun _ => rfl) hh
    obtain ⟨n, hh⟩ := rn_i rfl rfl rfl rfl hh
    obtain ⟨n, hh⟩ := rn_i rfl rfl rfl rfl hh
    have hh : pm_run PT n fr lo 245 (99, [some (.ref 162), some (.int t1), some (.int (nI m2)), some (.int (nI i))], [.int (nI i), .ref 162, .int ((Ar h 187) m2), .int (nI m2), .ref 187], h, 198, sl) = some R := hh
    obtain ⟨n, fr1, lo1, r1, hh1, hh⟩ := rn_call (w := 0) (t := 205) rfl rfl hh
    have er10 := v205_ok (c := i) hw (by omega) hh1
    subst er10
    obtain ⟨n, hh⟩ := rn_i rfl rfl rfl rfl hh
    obtain ⟨n, hh⟩ := rn_i rfl rfl rfl rfl hh
    have hh : pm_run PT n fr lo 245 (104, [some (.ref 162), some (.int t1), some (.int (nI m2)), some (.int (nI i))], [.int (nI i), .ref 162, .int (v205 q cc gc (Ar h 170) i), .int ((Ar h 187) m2), .int (nI m2), .ref 187], h, 198, sl) = some R := hh
    obtain ⟨n, fr1, lo1, r1, hh1, hh⟩ := rn_call (w := 0) (t := 204) rfl rfl hh
    have er11 := v204_ok (c := i) hw (by omega) hh1
    subst er11
    obtain ⟨n, hh⟩ := rn_i rfl rfl rfl rfl hh
    obtain ⟨n, hh⟩ := rn_i rfl rfl rfl rfl hh
    have hh : pm_run PT n fr lo 245 (109, [some (.ref 162), some (.int t1), some (.int (nI m2)), some (.int (nI i))], [.int (((Ar h 187) m2) + ((v205 q cc gc (Ar h 170) i) - (v204 q cc gc (Ar h 170) i))), .int (nI m2), .ref 187], h, 198, sl) = some R := hh
    obtain ⟨n, hx12, hh⟩ := en_st (t := m2) (f := Ar h 187) (nI_clamp (by omega)) hw.wt rfl (by decide) rfl (by decide) rfl hh
    obtain ⟨n, hh⟩ := rn_i rfl rfl rfl rfl hh
    have hh : pm_run PT n fr lo 245 (111, [some (.ref 162), some (.int t1), some (.int (nI m2)), some (.int (nI i))], [.ref 162], aset h 187 64 (upd (Ar h 187) m2 (((Ar h 187) m2) + ((v205 q cc gc (Ar h 170) i) - (v204 q cc gc (Ar h 170) i)))), 198, sl) = some R := hh
    obtain ⟨n, hh⟩ := rn_gr (hc_a rfl rfl hw).wt rfl rfl (by decide) rfl (by decide) (show _ = some (2, ((188 : Nat) : Int), 1) from rfl) rfl hh
    obtain ⟨n, hh⟩ := rn_i rfl rfl rfl rfl hh
    obtain ⟨n, hh⟩ := rn_i rfl rfl rfl rfl hh
    have hh : pm_run PT n fr lo 245 (116, [some (.ref 162), some (.int t1), some (.int (nI m2)), some (.int (nI i))], [.ref 162, .int (nI m2), .ref 188], aset h 187 64 (upd (Ar h 187) m2 (((Ar h 187) m2) + ((v205 q cc gc (Ar h 170) i) - (v204 q cc gc (Ar h 170) i)))), 198, sl) = some R := hh
    obtain ⟨n, hh⟩ := rn_gr (hc_a rfl rfl hw).wt rfl rfl (by decide) rfl (by decide) (show _ = some (2, ((188 : Nat) : Int), 1) from rfl) rfl hh
    obtain ⟨n, hh⟩ := rn_i rfl rfl rfl rfl hh
    have hh : pm_run PT n fr lo 245 (120, [some (.ref 162), some (.int t1), some (.int (nI m2)), some (.int (nI i))], [.int (nI m2), .ref 188, .int (nI m2), .ref 188], aset h 187 64 (upd (Ar h 187) m2 (((Ar h 187) m2) + ((v205 q cc gc (Ar h 170) i) - (v204 q cc gc (Ar h 170) i)))), 198, sl) = some R := hh
    obtain ⟨n, hx13, hh⟩ := en_lu (t := m2) (f := Ar h 188) (w := (Ar h 188) m2) (nI_clamp (by omega)) (hc_a rfl rfl hw).wt rfl (by decide) rfl (by decide) ((Ar_n (by decide)).trans rfl) (fun _ => rfl) hh
    obtain ⟨n, hh⟩ := rn_i rfl rfl rfl rfl hh
    have hh : pm_run PT n fr lo 245 (122, [some (.ref 162), some (.int t1), some (.int (nI m2)), some (.int (nI i))], [.ref 162, .int ((Ar h 188) m2), .int (nI m2), .ref 188], aset h 187 64 (upd (Ar h 187) m2 (((Ar h 187) m2) + ((v205 q cc gc (Ar h 170) i) - (v204 q cc gc (Ar h 170) i)))), 198, sl) = some R := hh
    obtain ⟨n, hh⟩ := rn_gr (hc_a rfl rfl hw).wt rfl rfl (by decide) rfl (by decide) (show _ = some (2, ((188 : Nat) : Int), 1) from rfl) rfl hh
    obtain ⟨n, hh⟩ := rn_i rfl rfl rfl rfl hh
    obtain ⟨n, hh⟩ := rn_i rfl rfl rfl rfl hh
    obtain ⟨n, hh⟩ := rn_i rfl rfl rfl rfl hh
    have hh : pm_run PT n fr lo 245 (128, [some (.ref 162), some (.int t1), some (.int (nI m2)), some (.int (nI i))], [.int (nI i), .int (nI 1), .int (nI m2), .ref 188, .int ((Ar h 188) m2), .int (nI m2), .ref 188], aset h 187 64 (upd (Ar h 187) m2 (((Ar h 187) m2) + ((v205 q cc gc (Ar h 170) i) - (v204 q cc gc (Ar h 170) i)))), 198, sl) = some R := hh
    have hb14 := en_pw (show i ≤ 8 by omega)
    obtain ⟨n, hh⟩ := en_shl (y := i) (by omega) rfl hh
    have hh : pm_run PT n fr lo 245 (129, [some (.ref 162), some (.int t1), some (.int (nI m2)), some (.int (nI i))], [.int (nI (2 ^ i)), .int (nI m2), .ref 188, .int ((Ar h 188) m2), .int (nI m2), .ref 188], aset h 187 64 (upd (Ar h 187) m2 (((Ar h 187) m2) + ((v205 q cc gc (Ar h 170) i) - (v204 q cc gc (Ar h 170) i)))), 198, sl) = some R := hh
    obtain ⟨n, hh⟩ := rn_i rfl rfl rfl rfl hh
    obtain ⟨n, hh⟩ := rn_i rfl rfl rfl rfl hh
    obtain ⟨n, hh⟩ := rn_i rfl rfl rfl rfl hh
    have hh : pm_run PT n fr lo 245 (132, [some (.ref 162), some (.int t1), some (.int (nI m2)), some (.int (nI i))], [.int ((nI m2) &&& ((nI (2 ^ i)) ^^^ (Int32.ofInt (-1)))), .ref 188, .int ((Ar h 188) m2), .int (nI m2), .ref 188], aset h 187 64 (upd (Ar h 187) m2 (((Ar h 187) m2) + ((v205 q cc gc (Ar h 170) i) - (v204 q cc gc (Ar h 170) i)))), 198, sl) = some R := hh
    obtain ⟨n, hx15, hh⟩ := en_lu (t := ((nI m2) &&& ((nI (2 ^ i)) ^^^ (Int32.ofInt (-1)))).toNatClampNeg) (f := Ar h 188) (w := (Ar h 188) (((nI m2) &&& ((nI (2 ^ i)) ^^^ (Int32.ofInt (-1)))).toNatClampNeg)) rfl (hc_a rfl rfl hw).wt rfl (by decide) rfl (by decide) ((Ar_n (by decide)).trans rfl) (fun _ => rfl) hh
    have hh : pm_run PT n fr lo 245 (133, [some (.ref 162), some (.int t1), some (.int (nI m2)), some (.int (nI i))], [.int ((Ar h 188) (((nI m2) &&& ((nI (2 ^ i)) ^^^ (Int32.ofInt (-1)))).toNatClampNeg)), .int ((Ar h 188) m2), .int (nI m2), .ref 188], aset h 187 64 (upd (Ar h 187) m2 (((Ar h 187) m2) + ((v205 q cc gc (Ar h 170) i) - (v204 q cc gc (Ar h 170) i)))), 198, sl) = some R := hh
    obtain ⟨n, hh⟩ := en_max rfl rfl rfl hh
    have hh : pm_run PT n fr lo 245 (136, [some (.ref 162), some (.int t1), some (.int (nI m2)), some (.int (nI i))], [.int (imax ((Ar h 188) m2) ((Ar h 188) (((nI m2) &&& ((nI (2 ^ i)) ^^^ (Int32.ofInt (-1)))).toNatClampNeg))), .int (nI m2), .ref 188], aset h 187 64 (upd (Ar h 187) m2 (((Ar h 187) m2) + ((v205 q cc gc (Ar h 170) i) - (v204 q cc gc (Ar h 170) i)))), 198, sl) = some R := hh
    obtain ⟨n, hx16, hh⟩ := en_st (t := m2) (f := Ar h 188) (nI_clamp (by omega)) (hc_a rfl rfl hw).wt rfl (by decide) rfl (by decide) ((Ar_n (by decide)).trans rfl) hh
    have hh : pm_run PT n fr lo 245 (137, [some (.ref 162), some (.int t1), some (.int (nI m2)), some (.int (nI i))], [], aset (aset h 187 64 (upd (Ar h 187) m2 (((Ar h 187) m2) + ((v205 q cc gc (Ar h 170) i) - (v204 q cc gc (Ar h 170) i))))) 188 64 (upd (Ar h 188) m2 (imax ((Ar h 188) m2) ((Ar h 188) (((nI m2) &&& ((nI (2 ^ i)) ^^^ (Int32.ofInt (-1)))).toNatClampNeg)))), 198, sl) = some R := hh
    obtain ⟨n, hh⟩ := en_inc (x := i) (c := 1) (j := 3) rfl rfl (by decide) hh
    have hh : pm_run PT n fr lo 245 (140, [some (.ref 162), some (.int t1), some (.int (nI m2)), some (.int (nI (i + 1)))], [], aset (aset h 187 64 (upd (Ar h 187) m2 (((Ar h 187) m2) + ((v205 q cc gc (Ar h 170) i) - (v204 q cc gc (Ar h 170) i))))) 188 64 (upd (Ar h 188) m2 (imax ((Ar h 188) m2) ((Ar h 188) (((nI m2) &&& ((nI (2 ^ i)) ^^^ (Int32.ofInt (-1)))).toNatClampNeg)))), 198, sl) = some R := hh
    obtain ⟨n, hh⟩ := rn_i rfl rfl rfl rfl hh
    have ed : v245_74b q cc gc h t1 m2 i = aset (aset h 187 64 (upd (Ar h 187) m2 (((Ar h 187) m2) + ((v205 q cc gc (Ar h 170) i) - (v204 q cc gc (Ar h 170) i))))) 188 64 (upd (Ar h 188) m2 (imax ((Ar h 188) m2) ((Ar h 188) (((nI m2) &&& ((nI (2 ^ i)) ^^^ (Int32.ofInt (-1)))).toNatClampNeg)))) := (ct z8).trans rfl
    rw [ed]
    exact ⟨n, (hc_a rfl rfl (hc_a rfl rfl hw)), (fr_a rfl rfl (fr_a rfl rfl fr_0)), hh⟩
  | false =>
    have hh := en_nf z8 hh
    have hh : pm_run PT n fr lo 245 (137, [some (.ref 162), some (.int t1), some (.int (nI m2)), some (.int (nI i))], [], h, 198, sl) = some R := hh
    have hh : pm_run PT n fr lo 245 (137, [some (.ref 162), some (.int t1), some (.int (nI m2)), some (.int (nI i))], [], h, 198, sl) = some R := hh
    obtain ⟨n, hh⟩ := en_inc (x := i) (c := 1) (j := 3) rfl rfl (by decide) hh
    have hh : pm_run PT n fr lo 245 (140, [some (.ref 162), some (.int t1), some (.int (nI m2)), some (.int (nI (i + 1)))], [], h, 198, sl) = some R := hh
    obtain ⟨n, hh⟩ := rn_i rfl rfl rfl rfl hh
    have ed : v245_74b q cc gc h t1 m2 i = h := (cf z8).trans rfl
    rw [ed]
    exact ⟨n, hw, fr_0, hh⟩
theorem v245_74_ok {fr lo sl cc gc : Nat} {q : QT} {R : pm_Rs} {t1 : Int32} {m2 : Nat} : ∀ {j i : Nat} {h : pm_H} {n : Nat}, cc - i = j → i + j < 1000000 → HC q cc gc h → m2 < 10000 → pm_run PT n fr lo 245 (74, [some (.ref 162), some (.int t1), some (.int (nI m2)), some (.int (nI i))], [], h, 198, sl) = some R → ∃ m wc, HC q cc gc ((v245_74 q cc gc t1 m2 j i h)) ∧ frm [187, 188] [] h ((v245_74 q cc gc t1 m2 j i h)) ∧ pm_run PT m fr lo 245 (143, [some (.ref 162), some (.int t1), some (.int (nI m2)), wc], [], (v245_74 q cc gc t1 m2 j i h), 198, sl) = some R := by
  intro j
  induction j with
  | zero =>
    intro i h n e eI hw h_m2 hh
    obtain ⟨n, hh⟩ := v245_74_e hw h_m2 (by omega) (by omega) hh
    exact ⟨n, _, hw, fr_0, hh⟩
  | succ j ih =>
    intro i h n e eI hw h_m2 hh
    obtain ⟨n, hc, hf, hh⟩ := v245_74_s hw h_m2 (by omega) (by omega) hh
    obtain ⟨n, wc, hc2, hf2, hh⟩ := ih (by omega) (by omega) hc h_m2 hh
    exact ⟨n, wc, hc2, fr_t hf2 hf, hh⟩
theorem v245_74_fb {cc gc : Nat} {q : QT} {h : pm_H} {t1 : Int32} {m2 : Nat} {i : Nat} (hw : HC q cc gc h) : HC q cc gc ((v245_74b q cc gc h t1 m2 i)) ∧ frm [187, 188] [] h ((v245_74b q cc gc h t1 m2 i)) := by
  unfold v245_74b
  refine cd_s (P := fun (p : pm_H) => HC q cc gc ((p)) ∧ frm [187, 188] [] h ((p))) (b := v164 q cc gc (nI m2) (nI i)) (fun _ => ?_) (fun _ => ?_)
  · show HC q cc gc (aset (aset h 187 64 (upd (Ar h 187) m2 (((Ar h 187) m2) + ((v205 q cc gc (Ar h 170) i) - (v204 q cc gc (Ar h 170) i))))) 188 64 (upd (Ar h 188) m2 (imax ((Ar h 188) m2) ((Ar h 188) (((nI m2) &&& ((nI (2 ^ i)) ^^^ (Int32.ofInt (-1)))).toNatClampNeg))))) ∧ frm [187, 188] [] h (aset (aset h 187 64 (upd (Ar h 187) m2 (((Ar h 187) m2) + ((v205 q cc gc (Ar h 170) i) - (v204 q cc gc (Ar h 170) i))))) 188 64 (upd (Ar h 188) m2 (imax ((Ar h 188) m2) ((Ar h 188) (((nI m2) &&& ((nI (2 ^ i)) ^^^ (Int32.ofInt (-1)))).toNatClampNeg)))))
    exact ⟨(hc_a rfl rfl (hc_a rfl rfl hw)), (fr_a rfl rfl (fr_a rfl rfl fr_0))⟩
  · show HC q cc gc (h) ∧ frm [187, 188] [] h (h)
    exact ⟨hw, fr_0⟩
theorem v245_74_fr {cc gc : Nat} {q : QT} {t1 : Int32} {m2 : Nat} : ∀ {j i : Nat} {h : pm_H}, HC q cc gc h → HC q cc gc ((v245_74 q cc gc t1 m2 j i h)) ∧ frm [187, 188] [] h ((v245_74 q cc gc t1 m2 j i h)) := by
  intro j
  induction j with
  | zero =>
    intro i h hw
    exact ⟨hw, fr_0⟩
  | succ j ih =>
    intro i h hw
    obtain ⟨a1, a2⟩ := v245_74_fb (i := i) (t1 := t1) (m2 := m2) hw
    obtain ⟨b1, b2⟩ := ih (i := i + 1) a1
    exact ⟨b1, fr_t b2 a2⟩
def v245_48b (q : QT) (cc gc : Nat) (h : pm_H) (t1 : Int32) (i : Nat) : pm_H := aset (v245_74 q cc gc t1 i cc 0 (aset (aset h 187 64 (upd (Ar h 187) i (nI 0))) 188 64 (upd (Ar h 188) i (nI 0)))) 188 64 (upd (Ar (v245_74 q cc gc t1 i cc 0 (aset (aset h 187 64 (upd (Ar h 187) i (nI 0))) 188 64 (upd (Ar h 188) i (nI 0)))) 188) i (((Ar (v245_74 q cc gc t1 i cc 0 (aset (aset h 187 64 (upd (Ar h 187) i (nI 0))) 188 64 (upd (Ar h 188) i (nI 0)))) 188) i) + (cond (cond (decide (i = 0)) false (cond (pm_cmp .ne ((Ar (v245_74 q cc gc t1 i cc 0 (aset (aset h 187 64 (upd (Ar h 187) i (nI 0))) 188 64 (upd (Ar h 188) i (nI 0)))) 187) i) 0) false true)) 1 0)))
def v245_48 (q : QT) (cc gc : Nat) (t1 : Int32) (j i : Nat) (a : pm_H) : pm_H := lp (fun i a => v245_48b q cc gc a t1 i) j i a
theorem v245_48_e {n fr lo sl cc gc : Nat} {q : QT} {h : pm_H} {R : pm_Rs} {t1 : Int32} {i : Nat} {o3 : Option Value} (hw : HC q cc gc h) (hi : 2 ^ cc ≤ i) (hI : i < 1000000) (hh : pm_run PT n fr lo 245 (48, [some (.ref 162), some (.int t1), some (.int (nI i)), o3], [], h, 198, sl) = some R) : ∃ m, pm_run PT m fr lo 245 (179, [some (.ref 162), some (.int t1), some (.int (nI i)), o3], [], h, 198, sl) = some R := by
  have hcc := hw.cb
  have hgc := hw.gb
  have hzr := hw.zr
  obtain ⟨n, hh⟩ := rn_i rfl rfl rfl rfl hh
  obtain ⟨n, hh⟩ := rn_i rfl rfl rfl rfl hh
  obtain ⟨n, hh⟩ := rn_i rfl rfl rfl rfl hh
  have hh : pm_run PT n fr lo 245 (51, [some (.ref 162), some (.int t1), some (.int (nI i)), o3], [.ref 162, .int (nI 1), .int (nI i)], h, 198, sl) = some R := hh
  obtain ⟨n, hh⟩ := rn_gi (x := nI cc) hw.wt rfl rfl (by decide) rfl (by decide) rfl hw.m3 hh
  have hh : pm_run PT n fr lo 245 (54, [some (.ref 162), some (.int t1), some (.int (nI i)), o3], [.int (nI cc), .int (nI 1), .int (nI i)], h, 198, sl) = some R := hh
  have hb3 := en_pw (show cc ≤ 8 by omega)
  obtain ⟨n, hh⟩ := en_shl (y := cc) (by omega) rfl hh
  have hh : pm_run PT n fr lo 245 (55, [some (.ref 162), some (.int t1), some (.int (nI i)), o3], [.int (nI (2 ^ cc)), .int (nI i)], h, 198, sl) = some R := hh
  have hh : pm_run PT n fr lo 245 (55, [some (.ref 162), some (.int t1), some (.int (nI i)), o3], [.int (nI (2 ^ cc)), .int (nI i)], h, 198, sl) = some R := hh
  obtain ⟨n, hh⟩ := en_cn (cc := .ge) (off := 124) (t := 179) (b := decide (2 ^ cc ≤ i)) (hI_ge (by omega) (by omega)) rfl rfl hh
  have hh := en_t (show decide (2 ^ cc ≤ i) = true from decide_eq_true (by omega)) hh
  have hh : pm_run PT n fr lo 245 (179, [some (.ref 162), some (.int t1), some (.int (nI i)), o3], [], h, 198, sl) = some R := hh
  exact ⟨n, hh⟩
theorem v245_48_s {n fr lo sl cc gc : Nat} {q : QT} {h : pm_H} {R : pm_Rs} {t1 : Int32} {i : Nat} {o3 : Option Value} (hw : HC q cc gc h) (hi : i < 2 ^ cc) (hI : i < 1000000) (hh : pm_run PT n fr lo 245 (48, [some (.ref 162), some (.int t1), some (.int (nI i)), o3], [], h, 198, sl) = some R) : ∃ m w3, HC q cc gc ((v245_48b q cc gc h t1 i)) ∧ frm [187, 188] [] h ((v245_48b q cc gc h t1 i)) ∧ pm_run PT m fr lo 245 (48, [some (.ref 162), some (.int t1), some (.int (nI (i + 1))), w3], [], (v245_48b q cc gc h t1 i), 198, sl) = some R := by
  have hcc := hw.cb
  have hgc := hw.gb
  have hzr := hw.zr
  obtain ⟨n, hh⟩ := rn_i rfl rfl rfl rfl hh
  obtain ⟨n, hh⟩ := rn_i rfl rfl rfl rfl hh
  obtain ⟨n, hh⟩ := rn_i rfl rfl rfl rfl hh
  have hh : pm_run PT n fr lo 245 (51, [some (.ref 162), some (.int t1), some (.int (nI i)), o3], [.ref 162, .int (nI 1), .int (nI i)], h, 198, sl) = some R := hh
  obtain ⟨n, hh⟩ := rn_gi (x := nI cc) hw.wt rfl rfl (by decide) rfl (by decide) rfl hw.m3 hh
  have hh : pm_run PT n fr lo 245 (54, [some (.ref 162), some (.int t1), some (.int (nI i)), o3], [.int (nI cc), .int (nI 1), .int (nI i)], h, 198, sl) = some R := hh
  have hb4 := en_pw (show cc ≤ 8 by omega)
  obtain ⟨n, hh⟩ := en_shl (y := cc) (by omega) rfl hh
  have hh : pm_run PT n fr lo 245 (55, [some (.ref 162), some (.int t1), some (.int (nI i)), o3], [.int (nI (2 ^ cc)), .int (nI i)], h, 198, sl) = some R := hh
  have hh : pm_run PT n fr lo 245 (55, [some (.ref 162), some (.int t1), some (.int (nI i)), o3], [.int (nI (2 ^ cc)), .int (nI i)], h, 198, sl) = some R := hh
  obtain ⟨n, hh⟩ := en_cn (cc := .ge) (off := 124) (t := 179) (b := decide (2 ^ cc ≤ i)) (hI_ge (by omega) (by omega)) rfl rfl hh
  have hh := en_f (show decide (2 ^ cc ≤ i) = false from decide_eq_false (by omega)) hh
  have hh : pm_run PT n fr lo 245 (58, [some (.ref 162), some (.int t1), some (.int (nI i)), o3], [], h, 198, sl) = some R := hh
  obtain ⟨n, hh⟩ := rn_i rfl rfl rfl rfl hh
  have hh : pm_run PT n fr lo 245 (59, [some (.ref 162), some (.int t1), some (.int (nI i)), o3], [.ref 162], h, 198, sl) = some R := hh
  obtain ⟨n, hh⟩ := rn_gr hw.wt rfl rfl (by decide) rfl (by decide) (show _ = some (2, ((187 : Nat) : Int), 1) from rfl) rfl hh
  obtain ⟨n, hh⟩ := rn_i rfl rfl rfl rfl hh
  obtain ⟨n, hh⟩ := rn_i rfl rfl rfl rfl hh
  have hh : pm_run PT n fr lo 245 (64, [some (.ref 162), some (.int t1), some (.int (nI i)), o3], [.int (nI 0), .int (nI i), .ref 187], h, 198, sl) = some R := hh
  obtain ⟨n, hx5, hh⟩ := en_st (t := i) (f := Ar h 187) (nI_clamp (by omega)) hw.wt rfl (by decide) rfl (by decide) rfl hh
  obtain ⟨n, hh⟩ := rn_i rfl rfl rfl rfl hh
  have hh : pm_run PT n fr lo 245 (66, [some (.ref 162), some (.int t1), some (.int (nI i)), o3], [.ref 162], aset h 187 64 (upd (Ar h 187) i (nI 0)), 198, sl) = some R := hh
  obtain ⟨n, hh⟩ := rn_gr (hc_a rfl rfl hw).wt rfl rfl (by decide) rfl (by decide) (show _ = some (2, ((188 : Nat) : Int), 1) from rfl) rfl hh
  obtain ⟨n, hh⟩ := rn_i rfl rfl rfl rfl hh
  obtain ⟨n, hh⟩ := rn_i rfl rfl rfl rfl hh
  have hh : pm_run PT n fr lo 245 (71, [some (.ref 162), some (.int t1), some (.int (nI i)), o3], [.int (nI 0), .int (nI i), .ref 188], aset h 187 64 (upd (Ar h 187) i (nI 0)), 198, sl) = some R := hh
  obtain ⟨n, hx6, hh⟩ := en_st (t := i) (f := Ar h 188) (nI_clamp (by omega)) (hc_a rfl rfl hw).wt rfl (by decide) rfl (by decide) ((Ar_n (by decide)).trans rfl) hh
  obtain ⟨n, hh⟩ := rn_i rfl rfl rfl rfl hh
  obtain ⟨n, hh⟩ := rn_i rfl rfl rfl rfl hh
  have hh : pm_run PT n fr lo 245 (74, [some (.ref 162), some (.int t1), some (.int (nI i)), some (.int (nI 0))], [], aset (aset h 187 64 (upd (Ar h 187) i (nI 0))) 188 64 (upd (Ar h 188) i (nI 0)), 198, sl) = some R := hh
  obtain ⟨n, u7, hc8, hf9, hh⟩ := v245_74_ok (t1 := t1) (m2 := i)  (i := 0) (j := cc) (by omega) (by omega) (hc_a rfl rfl (hc_a rfl rfl hw)) (by omega) hh
  have hh : pm_run PT n fr lo 245 (143, [some (.ref 162), some (.int t1), some (.int (nI i)), u7], [], (v245_74 q cc gc t1 i cc 0 (aset (aset h 187 64 (upd (Ar h 187) i (nI 0))) 188 64 (upd (Ar h 188) i (nI 0)))), 198, sl) = some R := hh
  obtain ⟨n, hh⟩ := rn_i rfl rfl rfl rfl hh
  have hh : pm_run PT n fr lo 245 (144, [some (.ref 162), some (.int t1), some (.int (nI i)), u7], [.ref 162], (v245_74 q cc gc t1 i cc 0 (aset (aset h 187 64 (upd (Ar h 187) i (nI 0))) 188 64 (upd (Ar h 188) i (nI 0)))), 198, sl) = some R := hh
  obtain ⟨n, hh⟩ := rn_gr hc8.wt rfl rfl (by decide) rfl (by decide) (show _ = some (2, ((188 : Nat) : Int), 1) from rfl) rfl hh
  obtain ⟨n, hh⟩ := rn_i rfl rfl rfl rfl hh
  obtain ⟨n, hh⟩ := rn_i rfl rfl rfl rfl hh
  have hh : pm_run PT n fr lo 245 (149, [some (.ref 162), some (.int t1), some (.int (nI i)), u7], [.int (nI i), .ref 188, .int (nI i), .ref 188], (v245_74 q cc gc t1 i cc 0 (aset (aset h 187 64 (upd (Ar h 187) i (nI 0))) 188 64 (upd (Ar h 188) i (nI 0)))), 198, sl) = some R := hh
  obtain ⟨n, hx10, hh⟩ := en_lu (t := i) (f := Ar (v245_74 q cc gc t1 i cc 0 (aset (aset h 187 64 (upd (Ar h 187) i (nI 0))) 188 64 (upd (Ar h 188) i (nI 0)))) 188) (w := (Ar (v245_74 q cc gc t1 i cc 0 (aset (aset h 187 64 (upd (Ar h 187) i (nI 0))) 188 64 (upd (Ar h 188) i (nI 0)))) 188) i) (nI_clamp (by omega)) hc8.wt rfl (by decide) rfl (by decide) rfl (fun _ => rfl) hh
  obtain ⟨n, hh⟩ := rn_i rfl rfl rfl rfl hh
  have hh : pm_run PT n fr lo 245 (151, [some (.ref 162), some (.int t1), some (.int (nI i)), u7], [.int (nI i), .int ((Ar (v245_74 q cc gc t1 i cc 0 (aset (aset h 187 64 (upd (Ar h 187) i (nI 0))) 188 64 (upd (Ar h 188) i (nI 0)))) 188) i), .int (nI i), .ref 188], (v245_74 q cc gc t1 i cc 0 (aset (aset h 187 64 (upd (Ar h 187) i (nI 0))) 188 64 (upd (Ar h 188) i (nI 0)))), 198, sl) = some R := hh
  obtain ⟨n, hh⟩ := en_zn (cc := .eq) (off := 16) (t := 167) (b := decide (i = 0)) (hI_eq (b := 0) (by omega) (by omega)) rfl rfl hh
  have hj15 : ∃ mJ, pm_run PT mJ fr lo 245 (cond (decide (i = 0)) (168, [some (.ref 162), some (.int t1), some (.int (nI i)), u7], [.int (nI 0), .int ((Ar (v245_74 q cc gc t1 i cc 0 (aset (aset h 187 64 (upd (Ar h 187) i (nI 0))) 188 64 (upd (Ar h 188) i (nI 0)))) 188) i), .int (nI i), .ref 188], (v245_74 q cc gc t1 i cc 0 (aset (aset h 187 64 (upd (Ar h 187) i (nI 0))) 188 64 (upd (Ar h 188) i (nI 0)))), 198, sl) (168, [some (.ref 162), some (.int t1), some (.int (nI i)), u7], [.int (cond (cond (pm_cmp .ne ((Ar (v245_74 q cc gc t1 i cc 0 (aset (aset h 187 64 (upd (Ar h 187) i (nI 0))) 188 64 (upd (Ar h 188) i (nI 0)))) 187) i) 0) false true) 1 0), .int ((Ar (v245_74 q cc gc t1 i cc 0 (aset (aset h 187 64 (upd (Ar h 187) i (nI 0))) 188 64 (upd (Ar h 188) i (nI 0)))) 188) i), .int (nI i), .ref 188], (v245_74 q cc gc t1 i cc 0 (aset (aset h 187 64 (upd (Ar h 187) i (nI 0))) 188 64 (upd (Ar h 188) i (nI 0)))), 198, sl)) = some R := en_J (fun z11 => by
      have hh := en_t z11 hh
      have hh : pm_run PT n fr lo 245 (167, [some (.ref 162), some (.int t1), some (.int (nI i)), u7], [.int ((Ar (v245_74 q cc gc t1 i cc 0 (aset (aset h 187 64 (upd (Ar h 187) i (nI 0))) 188 64 (upd (Ar h 188) i (nI 0)))) 188) i), .int (nI i), .ref 188], (v245_74 q cc gc t1 i cc 0 (aset (aset h 187 64 (upd (Ar h 187) i (nI 0))) 188 64 (upd (Ar h 188) i (nI 0)))), 198, sl) = some R := hh
      have y_z11 := of_decide_eq_true z11
      obtain ⟨n, hh⟩ := rn_i rfl rfl rfl rfl hh
      exact ⟨n, hh⟩) (fun z11 => by
      have hh := en_f z11 hh
      have hh : pm_run PT n fr lo 245 (154, [some (.ref 162), some (.int t1), some (.int (nI i)), u7], [.int ((Ar (v245_74 q cc gc t1 i cc 0 (aset (aset h 187 64 (upd (Ar h 187) i (nI 0))) 188 64 (upd (Ar h 188) i (nI 0)))) 188) i), .int (nI i), .ref 188], (v245_74 q cc gc t1 i cc 0 (aset (aset h 187 64 (upd (Ar h 187) i (nI 0))) 188 64 (upd (Ar h 188) i (nI 0)))), 198, sl) = some R := hh
      have y_z11 := of_decide_eq_false z11
      obtain ⟨n, hh⟩ := rn_i rfl rfl rfl rfl hh
      have hh : pm_run PT n fr lo 245 (155, [some (.ref 162), some (.int t1), some (.int (nI i)), u7], [.ref 162, .int ((Ar (v245_74 q cc gc t1 i cc 0 (aset (aset h 187 64 (upd (Ar h 187) i (nI 0))) 188 64 (upd (Ar h 188) i (nI 0)))) 188) i), .int (nI i), .ref 188], (v245_74 q cc gc t1 i cc 0 (aset (aset h 187 64 (upd (Ar h 187) i (nI 0))) 188 64 (upd (Ar h 188) i (nI 0)))), 198, sl) = some R := hh
      obtain ⟨n, hh⟩ := rn_gr hc8.wt rfl rfl (by decide) rfl (by decide) (show _ = some (2, ((187 : Nat) : Int), 1) from rfl) rfl hh
      obtain ⟨n, hh⟩ := rn_i rfl rfl rfl rfl hh
      have hh : pm_run PT n fr lo 245 (159, [some (.ref 162), some (.int t1), some (.int (nI i)), u7], [.int (nI i), .ref 187, .int ((Ar (v245_74 q cc gc t1 i cc 0 (aset (aset h 187 64 (upd (Ar h 187) i (nI 0))) 188 64 (upd (Ar h 188) i (nI 0)))) 188) i), .int (nI i), .ref 188], (v245_74 q cc gc t1 i cc 0 (aset (aset h 187 64 (upd (Ar h 187) i (nI 0))) 188 64 (upd (Ar h 188) i (nI 0)))), 198, sl) = some R := hh
      obtain ⟨n, hx12, hh⟩ := en_lu (t := i) (f := Ar (v245_74 q cc gc t1 i cc 0 (aset (aset h 187 64 (upd (Ar h 187) i (nI 0))) 188 64 (upd (Ar h 188) i (nI 0)))) 187) (w := (Ar (v245_74 q cc gc t1 i cc 0 (aset (aset h 187 64 (upd (Ar h 187) i (nI 0))) 188 64 (upd (Ar h 188) i (nI 0)))) 187) i) (nI_clamp (by omega)) hc8.wt rfl (by decide) rfl (by decide) rfl (fun _ => rfl) hh
      have hh : pm_run PT n fr lo 245 (160, [some (.ref 162), some (.int t1), some (.int (nI i)), u7], [.int ((Ar (v245_74 q cc gc t1 i cc 0 (aset (aset h 187 64 (upd (Ar h 187) i (nI 0))) 188 64 (upd (Ar h 188) i (nI 0)))) 187) i), .int ((Ar (v245_74 q cc gc t1 i cc 0 (aset (aset h 187 64 (upd (Ar h 187) i (nI 0))) 188 64 (upd (Ar h 188) i (nI 0)))) 188) i), .int (nI i), .ref 188], (v245_74 q cc gc t1 i cc 0 (aset (aset h 187 64 (upd (Ar h 187) i (nI 0))) 188 64 (upd (Ar h 188) i (nI 0)))), 198, sl) = some R := hh
      obtain ⟨n, hh⟩ := en_zn (cc := .ne) (off := 7) (t := 167) (b := pm_cmp .ne ((Ar (v245_74 q cc gc t1 i cc 0 (aset (aset h 187 64 (upd (Ar h 187) i (nI 0))) 188 64 (upd (Ar h 188) i (nI 0)))) 187) i) 0) rfl rfl rfl hh
      have hj14 : ∃ mJ, pm_run PT mJ fr lo 245 (cond (pm_cmp .ne ((Ar (v245_74 q cc gc t1 i cc 0 (aset (aset h 187 64 (upd (Ar h 187) i (nI 0))) 188 64 (upd (Ar h 188) i (nI 0)))) 187) i) 0) (168, [some (.ref 162), some (.int t1), some (.int (nI i)), u7], [.int (nI 0), .int ((Ar (v245_74 q cc gc t1 i cc 0 (aset (aset h 187 64 (upd (Ar h 187) i (nI 0))) 188 64 (upd (Ar h 188) i (nI 0)))) 188) i), .int (nI i), .ref 188], (v245_74 q cc gc t1 i cc 0 (aset (aset h 187 64 (upd (Ar h 187) i (nI 0))) 188 64 (upd (Ar h 188) i (nI 0)))), 198, sl) (168, [some (.ref 162), some (.int t1), some (.int (nI i)), u7], [.int (nI 1), .int ((Ar (v245_74 q cc gc t1 i cc 0 (aset (aset h 187 64 (upd (Ar h 187) i (nI 0))) 188 64 (upd (Ar h 188) i (nI 0)))) 188) i), .int (nI i), .ref 188], (v245_74 q cc gc t1 i cc 0 (aset (aset h 187 64 (upd (Ar h 187) i (nI 0))) 188 64 (upd (Ar h 188) i (nI 0)))), 198, sl)) = some R := en_J (fun z13 => by
          have hh := en_t z13 hh
          have hh : pm_run PT n fr lo 245 (167, [some (.ref 162), some (.int t1), some (.int (nI i)), u7], [.int ((Ar (v245_74 q cc gc t1 i cc 0 (aset (aset h 187 64 (upd (Ar h 187) i (nI 0))) 188 64 (upd (Ar h 188) i (nI 0)))) 188) i), .int (nI i), .ref 188], (v245_74 q cc gc t1 i cc 0 (aset (aset h 187 64 (upd (Ar h 187) i (nI 0))) 188 64 (upd (Ar h 188) i (nI 0)))), 198, sl) = some R := hh
          obtain ⟨n, hh⟩ := rn_i rfl rfl rfl rfl hh
          exact ⟨n, hh⟩) (fun z13 => by
          have hh := en_f z13 hh
          have hh : pm_run PT n fr lo 245 (163, [some (.ref 162), some (.int t1), some (.int (nI i)), u7], [.int ((Ar (v245_74 q cc gc t1 i cc 0 (aset (aset h 187 64 (upd (Ar h 187) i (nI 0))) 188 64 (upd (Ar h 188) i (nI 0)))) 188) i), .int (nI i), .ref 188], (v245_74 q cc gc t1 i cc 0 (aset (aset h 187 64 (upd (Ar h 187) i (nI 0))) 188 64 (upd (Ar h 188) i (nI 0)))), 198, sl) = some R := hh
          obtain ⟨n, hh⟩ := rn_i rfl rfl rfl rfl hh
          obtain ⟨n, hh⟩ := rn_i rfl rfl rfl rfl hh
          exact ⟨n, hh⟩)
      obtain ⟨n, hh⟩ := hj14
      rw [show (cond (pm_cmp .ne ((Ar (v245_74 q cc gc t1 i cc 0 (aset (aset h 187 64 (upd (Ar h 187) i (nI 0))) 188 64 (upd (Ar h 188) i (nI 0)))) 187) i) 0) (168, [some (.ref 162), some (.int t1), some (.int (nI i)), u7], [.int (nI 0), .int ((Ar (v245_74 q cc gc t1 i cc 0 (aset (aset h 187 64 (upd (Ar h 187) i (nI 0))) 188 64 (upd (Ar h 188) i (nI 0)))) 188) i), .int (nI i), .ref 188], (v245_74 q cc gc t1 i cc 0 (aset (aset h 187 64 (upd (Ar h 187) i (nI 0))) 188 64 (upd (Ar h 188) i (nI 0)))), 198, sl) (168, [some (.ref 162), some (.int t1), some (.int (nI i)), u7], [.int (nI 1), .int ((Ar (v245_74 q cc gc t1 i cc 0 (aset (aset h 187 64 (upd (Ar h 187) i (nI 0))) 188 64 (upd (Ar h 188) i (nI 0)))) 188) i), .int (nI i), .ref 188], (v245_74 q cc gc t1 i cc 0 (aset (aset h 187 64 (upd (Ar h 187) i (nI 0))) 188 64 (upd (Ar h 188) i (nI 0)))), 198, sl) : pm_St) = (168, [some (.ref 162), some (.int t1), some (.int (nI i)), u7], [.int (cond (cond (pm_cmp .ne ((Ar (v245_74 q cc gc t1 i cc 0 (aset (aset h 187 64 (upd (Ar h 187) i (nI 0))) 188 64 (upd (Ar h 188) i (nI 0)))) 187) i) 0) false true) 1 0), .int ((Ar (v245_74 q cc gc t1 i cc 0 (aset (aset h 187 64 (upd (Ar h 187) i (nI 0))) 188 64 (upd (Ar h 188) i (nI 0)))) 188) i), .int (nI i), .ref 188], (v245_74 q cc gc t1 i cc 0 (aset (aset h 187 64 (upd (Ar h 187) i (nI 0))) 188 64 (upd (Ar h 188) i (nI 0)))), 198, sl) from by cases (pm_cmp .ne ((Ar (v245_74 q cc gc t1 i cc 0 (aset (aset h 187 64 (upd (Ar h 187) i (nI 0))) 188 64 (upd (Ar h 188) i (nI 0)))) 187) i) 0) <;> rfl] at hh
      exact ⟨n, hh⟩)
  obtain ⟨n, hh⟩ := hj15
  rw [show (cond (decide (i = 0)) (168, [some (.ref 162), some (.int t1), some (.int (nI i)), u7], [.int (nI 0), .int ((Ar (v245_74 q cc gc t1 i cc 0 (aset (aset h 187 64 (upd (Ar h 187) i (nI 0))) 188 64 (upd (Ar h 188) i (nI 0)))) 188) i), .int (nI i), .ref 188], (v245_74 q cc gc t1 i cc 0 (aset (aset h 187 64 (upd (Ar h 187) i (nI 0))) 188 64 (upd (Ar h 188) i (nI 0)))), 198, sl) (168, [some (.ref 162), some (.int t1), some (.int (nI i)), u7], [.int (cond (cond (pm_cmp .ne ((Ar (v245_74 q cc gc t1 i cc 0 (aset (aset h 187 64 (upd (Ar h 187) i (nI 0))) 188 64 (upd (Ar h 188) i (nI 0)))) 187) i) 0) false true) 1 0), .int ((Ar (v245_74 q cc gc t1 i cc 0 (aset (aset h 187 64 (upd (Ar h 187) i (nI 0))) 188 64 (upd (Ar h 188) i (nI 0)))) 188) i), .int (nI i), .ref 188], (v245_74 q cc gc t1 i cc 0 (aset (aset h 187 64 (upd (Ar h 187) i (nI 0))) 188 64 (upd (Ar h 188) i (nI 0)))), 198, sl) : pm_St) = (168, [some (.ref 162), some (.int t1), some (.int (nI i)), u7], [.int (cond (cond (decide (i = 0)) false (cond (pm_cmp .ne ((Ar (v245_74 q cc gc t1 i cc 0 (aset (aset h 187 64 (upd (Ar h 187) i (nI 0))) 188 64 (upd (Ar h 188) i (nI 0)))) 187) i) 0) false true)) 1 0), .int ((Ar (v245_74 q cc gc t1 i cc 0 (aset (aset h 187 64 (upd (Ar h 187) i (nI 0))) 188 64 (upd (Ar h 188) i (nI 0)))) 188) i), .int (nI i), .ref 188], (v245_74 q cc gc t1 i cc 0 (aset (aset h 187 64 (upd (Ar h 187) i (nI 0))) 188 64 (upd (Ar h 188) i (nI 0)))), 198, sl) from by cases (decide (i = 0)) <;> rfl] at hh
  have hh : pm_run PT n fr lo 245 (168, [some (.ref 162), some (.int t1), some (.int (nI i)), u7], [.int (cond (cond (decide (i = 0)) false (cond (pm_cmp .ne ((Ar (v245_74 q cc gc t1 i cc 0 (aset (aset h 187 64 (upd (Ar h 187) i (nI 0))) 188 64 (upd (Ar h 188) i (nI 0)))) 187) i) 0) false true)) 1 0), .int ((Ar (v245_74 q cc gc t1 i cc 0 (aset (aset h 187 64 (upd (Ar h 187) i (nI 0))) 188 64 (upd (Ar h 188) i (nI 0)))) 188) i), .int (nI i), .ref 188], (v245_74 q cc gc t1 i cc 0 (aset (aset h 187 64 (upd (Ar h 187) i (nI 0))) 188 64 (upd (Ar h 188) i (nI 0)))), 198, sl) = some R := hh
  obtain ⟨n, fr1, lo1, r1, hh1, hh⟩ := rn_call (w := 2) (t := 165) rfl rfl hh
  have er16 := rn_dt (F := 10) (Lo := 1000) (hd_flag (fr := 10) (lo := 1000) (h := (v245_74 q cc gc t1 i cc 0 (aset (aset h 187 64 (upd (Ar h 187) i (nI 0))) 188 64 (upd (Ar h 188) i (nI 0))))) (sl := sl) (cond (decide (i = 0)) false (cond (pm_cmp .ne ((Ar (v245_74 q cc gc t1 i cc 0 (aset (aset h 187 64 (upd (Ar h 187) i (nI 0))) 188 64 (upd (Ar h 188) i (nI 0)))) 187) i) 0) false true))) hh1
  subst er16
  obtain ⟨n, hh⟩ := rn_i rfl rfl rfl rfl hh
  have hh : pm_run PT n fr lo 245 (172, [some (.ref 162), some (.int t1), some (.int (nI i)), u7], [.int (((Ar (v245_74 q cc gc t1 i cc 0 (aset (aset h 187 64 (upd (Ar h 187) i (nI 0))) 188 64 (upd (Ar h 188) i (nI 0)))) 188) i) + (cond (cond (decide (i = 0)) false (cond (pm_cmp .ne ((Ar (v245_74 q cc gc t1 i cc 0 (aset (aset h 187 64 (upd (Ar h 187) i (nI 0))) 188 64 (upd (Ar h 188) i (nI 0)))) 187) i) 0) false true)) 1 0)), .int (nI i), .ref 188], (v245_74 q cc gc t1 i cc 0 (aset (aset h 187 64 (upd (Ar h 187) i (nI 0))) 188 64 (upd (Ar h 188) i (nI 0)))), 198, sl) = some R := hh
  obtain ⟨n, hx17, hh⟩ := en_st (t := i) (f := Ar (v245_74 q cc gc t1 i cc 0 (aset (aset h 187 64 (upd (Ar h 187) i (nI 0))) 188 64 (upd (Ar h 188) i (nI 0)))) 188) (nI_clamp (by omega)) hc8.wt rfl (by decide) rfl (by decide) rfl hh
  have hh : pm_run PT n fr lo 245 (173, [some (.ref 162), some (.int t1), some (.int (nI i)), u7], [], aset (v245_74 q cc gc t1 i cc 0 (aset (aset h 187 64 (upd (Ar h 187) i (nI 0))) 188 64 (upd (Ar h 188) i (nI 0)))) 188 64 (upd (Ar (v245_74 q cc gc t1 i cc 0 (aset (aset h 187 64 (upd (Ar h 187) i (nI 0))) 188 64 (upd (Ar h 188) i (nI 0)))) 188) i (((Ar (v245_74 q cc gc t1 i cc 0 (aset (aset h 187 64 (upd (Ar h 187) i (nI 0))) 188 64 (upd (Ar h 188) i (nI 0)))) 188) i) + (cond (cond (decide (i = 0)) false (cond (pm_cmp .ne ((Ar (v245_74 q cc gc t1 i cc 0 (aset (aset h 187 64 (upd (Ar h 187) i (nI 0))) 188 64 (upd (Ar h 188) i (nI 0)))) 187) i) 0) false true)) 1 0))), 198, sl) = some R := hh
  obtain ⟨n, hh⟩ := en_inc (x := i) (c := 1) (j := 2) rfl rfl (by decide) hh
  have hh : pm_run PT n fr lo 245 (176, [some (.ref 162), some (.int t1), some (.int (nI (i + 1))), u7], [], aset (v245_74 q cc gc t1 i cc 0 (aset (aset h 187 64 (upd (Ar h 187) i (nI 0))) 188 64 (upd (Ar h 188) i (nI 0)))) 188 64 (upd (Ar (v245_74 q cc gc t1 i cc 0 (aset (aset h 187 64 (upd (Ar h 187) i (nI 0))) 188 64 (upd (Ar h 188) i (nI 0)))) 188) i (((Ar (v245_74 q cc gc t1 i cc 0 (aset (aset h 187 64 (upd (Ar h 187) i (nI 0))) 188 64 (upd (Ar h 188) i (nI 0)))) 188) i) + (cond (cond (decide (i = 0)) false (cond (pm_cmp .ne ((Ar (v245_74 q cc gc t1 i cc 0 (aset (aset h 187 64 (upd (Ar h 187) i (nI 0))) 188 64 (upd (Ar h 188) i (nI 0)))) 187) i) 0) false true)) 1 0))), 198, sl) = some R := hh
  obtain ⟨n, hh⟩ := rn_i rfl rfl rfl rfl hh
  have ed : v245_48b q cc gc h t1 i = aset (v245_74 q cc gc t1 i cc 0 (aset (aset h 187 64 (upd (Ar h 187) i (nI 0))) 188 64 (upd (Ar h 188) i (nI 0)))) 188 64 (upd (Ar (v245_74 q cc gc t1 i cc 0 (aset (aset h 187 64 (upd (Ar h 187) i (nI 0))) 188 64 (upd (Ar h 188) i (nI 0)))) 188) i (((Ar (v245_74 q cc gc t1 i cc 0 (aset (aset h 187 64 (upd (Ar h 187) i (nI 0))) 188 64 (upd (Ar h 188) i (nI 0)))) 188) i) + (cond (cond (decide (i = 0)) false (cond (pm_cmp .ne ((Ar (v245_74 q cc gc t1 i cc 0 (aset (aset h 187 64 (upd (Ar h 187) i (nI 0))) 188 64 (upd (Ar h 188) i (nI 0)))) 187) i) 0) false true)) 1 0))) := rfl
  rw [ed]
  exact ⟨n, u7, (hc_a rfl rfl hc8), (fr_a rfl rfl (fr_g rfl rfl hf9 (fr_a rfl rfl (fr_a rfl rfl fr_0)))), hh⟩
theorem v245_48_ok {fr lo sl cc gc : Nat} {q : QT} {R : pm_Rs} {t1 : Int32} : ∀ {j i : Nat} {o3 : Option Value} {h : pm_H} {n : Nat}, 2 ^ cc - i = j → i + j < 1000000 → HC q cc gc h → pm_run PT n fr lo 245 (48, [some (.ref 162), some (.int t1), some (.int (nI i)), o3], [], h, 198, sl) = some R → ∃ m wc w3, HC q cc gc ((v245_48 q cc gc t1 j i h)) ∧ frm [187, 188] [] h ((v245_48 q cc gc t1 j i h)) ∧ pm_run PT m fr lo 245 (179, [some (.ref 162), some (.int t1), wc, w3], [], (v245_48 q cc gc t1 j i h), 198, sl) = some R := by
  intro j
  induction j with
  | zero =>
    intro i o3 h n e eI hw hh
    obtain ⟨n, hh⟩ := v245_48_e hw (by omega) (by omega) hh
    exact ⟨n, _, o3, hw, fr_0, hh⟩
  | succ j ih =>
    intro i o3 h n e eI hw hh
    obtain ⟨n, w3, hc, hf, hh⟩ := v245_48_s hw (by omega) (by omega) hh
    obtain ⟨n, wc, v3, hc2, hf2, hh⟩ := ih (by omega) (by omega) hc hh
    exact ⟨n, wc, v3, hc2, fr_t hf2 hf, hh⟩
theorem v245_48_fb {cc gc : Nat} {q : QT} {h : pm_H} {t1 : Int32} {i : Nat} (hw : HC q cc gc h) : HC q cc gc ((v245_48b q cc gc h t1 i)) ∧ frm [187, 188] [] h ((v245_48b q cc gc h t1 i)) := by
  unfold v245_48b
  show HC q cc gc (aset (v245_74 q cc gc t1 i cc 0 (aset (aset h 187 64 (upd (Ar h 187) i (nI 0))) 188 64 (upd (Ar h 188) i (nI 0)))) 188 64 (upd (Ar (v245_74 q cc gc t1 i cc 0 (aset (aset h 187 64 (upd (Ar h 187) i (nI 0))) 188 64 (upd (Ar h 188) i (nI 0)))) 188) i (((Ar (v245_74 q cc gc t1 i cc 0 (aset (aset h 187 64 (upd (Ar h 187) i (nI 0))) 188 64 (upd (Ar h 188) i (nI 0)))) 188) i) + (cond (cond (decide (i = 0)) false (cond (pm_cmp .ne ((Ar (v245_74 q cc gc t1 i cc 0 (aset (aset h 187 64 (upd (Ar h 187) i (nI 0))) 188 64 (upd (Ar h 188) i (nI 0)))) 187) i) 0) false true)) 1 0)))) ∧ frm [187, 188] [] h (aset (v245_74 q cc gc t1 i cc 0 (aset (aset h 187 64 (upd (Ar h 187) i (nI 0))) 188 64 (upd (Ar h 188) i (nI 0)))) 188 64 (upd (Ar (v245_74 q cc gc t1 i cc 0 (aset (aset h 187 64 (upd (Ar h 187) i (nI 0))) 188 64 (upd (Ar h 188) i (nI 0)))) 188) i (((Ar (v245_74 q cc gc t1 i cc 0 (aset (aset h 187 64 (upd (Ar h 187) i (nI 0))) 188 64 (upd (Ar h 188) i (nI 0)))) 188) i) + (cond (cond (decide (i = 0)) false (cond (pm_cmp .ne ((Ar (v245_74 q cc gc t1 i cc 0 (aset (aset h 187 64 (upd (Ar h 187) i (nI 0))) 188 64 (upd (Ar h 188) i (nI 0)))) 187) i) 0) false true)) 1 0))))
  exact ⟨(hc_a rfl rfl (v245_74_fr (t1 := t1) (m2 := i) (j := cc) (i := 0) (hc_a rfl rfl (hc_a rfl rfl hw))).1), (fr_a rfl rfl (fr_g rfl rfl (v245_74_fr (t1 := t1) (m2 := i) (j := cc) (i := 0) (hc_a rfl rfl (hc_a rfl rfl hw))).2 (fr_a rfl rfl (fr_a rfl rfl fr_0))))⟩
theorem v245_48_fr {cc gc : Nat} {q : QT} {t1 : Int32} : ∀ {j i : Nat} {h : pm_H}, HC q cc gc h → HC q cc gc ((v245_48 q cc gc t1 j i h)) ∧ frm [187, 188] [] h ((v245_48 q cc gc t1 j i h)) := by
  intro j
  induction j with
  | zero =>
    intro i h hw
    exact ⟨hw, fr_0⟩
  | succ j ih =>
    intro i h hw
    obtain ⟨a1, a2⟩ := v245_48_fb (i := i) (t1 := t1) hw
    obtain ⟨b1, b2⟩ := ih (i := i + 1) a1
    exact ⟨b1, fr_t b2 a2⟩
def v245 (q : QT) (cc gc : Nat) (h : pm_H) : Int32 × pm_H := ((v270 q cc gc (v245_9 q cc gc (Ar h 170) cc 0 (nI 0))) - ((Ar (v245_48 q cc gc (v245_9 q cc gc (Ar h 170) cc 0 (nI 0)) (2 ^ cc) 0 (fset h 162 0 (.int (nI 0)))) 188) (((v245_9 q cc gc (Ar h 170) cc 0 (nI 0))).toNatClampNeg)), v167 q cc gc (fset (v245_48 q cc gc (v245_9 q cc gc (Ar h 170) cc 0 (nI 0)) (2 ^ cc) 0 (fset h 162 0 (.int (nI 0)))) 162 1 (.int (nI 0))) ((v270 q cc gc (v245_9 q cc gc (Ar h 170) cc 0 (nI 0))).toInt64))
theorem v245_ok {n fr lo sl cc gc : Nat} {q : QT} {h : pm_H} {R : pm_Rs} (hw : HC q cc gc h) (hh : pm_run PT n fr lo 245 (0, pm_l0 [.ref 162] 4, [], h, 198, sl) = some R) : R = (some (.int ((v245 q cc gc h).1)), (v245 q cc gc h).2, 198, sl) ∧ HC q cc gc ((v245 q cc gc h).2) ∧ frm [162, 163, 187, 188] [(162, 0), (162, 1)] h ((v245 q cc gc h).2) := by
  have hcc := hw.cb
  have hgc := hw.gb
  have hzr := hw.zr
  obtain ⟨n, hh⟩ := rn_i rfl rfl rfl rfl hh
  obtain ⟨n, hh⟩ := rn_i rfl rfl rfl rfl hh
  have hh : pm_run PT n fr lo 245 (2, [some (.ref 162), none, none, none], [.int (nI 0), .ref 162], h, 198, sl) = some R := hh
  obtain ⟨n, hh⟩ := rn_pi hw.wt rfl rfl (by decide) rfl (by decide) rfl hh
  obtain ⟨n, hh⟩ := rn_i rfl rfl rfl rfl hh
  obtain ⟨n, hh⟩ := rn_i rfl rfl rfl rfl hh
  obtain ⟨n, hh⟩ := rn_i rfl rfl rfl rfl hh
  obtain ⟨n, hh⟩ := rn_i rfl rfl rfl rfl hh
  have hh : pm_run PT n fr lo 245 (9, [some (.ref 162), some (.int (nI 0)), some (.int (nI 0)), none], [], fset h 162 0 (.int (nI 0)), 198, sl) = some R := hh
  have hl2 := v245_9_ok  (i := 0) (x1 := (nI 0)) (j := cc) (by omega) (by omega) (hc_f rfl rfl (by decide) rfl hw) hh
  rw [show Ar (fset h 162 0 (.int (nI 0))) 170 = Ar h 170 from (Ar_f.trans rfl)] at hl2
  obtain ⟨n, u1, hh⟩ := hl2
  have hh : pm_run PT n fr lo 245 (46, [some (.ref 162), some (.int (v245_9 q cc gc (Ar h 170) cc 0 (nI 0))), u1, none], [], fset h 162 0 (.int (nI 0)), 198, sl) = some R := hh
  obtain ⟨n, hh⟩ := rn_i rfl rfl rfl rfl hh
  obtain ⟨n, hh⟩ := rn_i rfl rfl rfl rfl hh
  have hh : pm_run PT n fr lo 245 (48, [some (.ref 162), some (.int (v245_9 q cc gc (Ar h 170) cc 0 (nI 0))), some (.int (nI 0)), none], [], fset h 162 0 (.int (nI 0)), 198, sl) = some R := hh
  have hb3 := en_pw (show cc ≤ 8 by omega)
  have hb4 := Nat.two_pow_pos cc
  obtain ⟨n, u6, u5, hc7, hf8, hh⟩ := v245_48_ok (t1 := (v245_9 q cc gc (Ar h 170) cc 0 (nI 0)))  (i := 0) (o3 := none) (j := 2 ^ cc) (by omega) (by omega) (hc_f rfl rfl (by decide) rfl hw) hh
  have hh : pm_run PT n fr lo 245 (179, [some (.ref 162), some (.int (v245_9 q cc gc (Ar h 170) cc 0 (nI 0))), u6, u5], [], (v245_48 q cc gc (v245_9 q cc gc (Ar h 170) cc 0 (nI 0)) (2 ^ cc) 0 (fset h 162 0 (.int (nI 0)))), 198, sl) = some R := hh
  obtain ⟨n, hh⟩ := rn_i rfl rfl rfl rfl hh
  obtain ⟨n, hh⟩ := rn_i rfl rfl rfl rfl hh
  have hh : pm_run PT n fr lo 245 (181, [some (.ref 162), some (.int (v245_9 q cc gc (Ar h 170) cc 0 (nI 0))), u6, u5], [.int (nI 0), .ref 162], (v245_48 q cc gc (v245_9 q cc gc (Ar h 170) cc 0 (nI 0)) (2 ^ cc) 0 (fset h 162 0 (.int (nI 0)))), 198, sl) = some R := hh
  obtain ⟨n, hh⟩ := rn_pi hc7.wt rfl rfl (by decide) rfl (by decide) rfl hh
  obtain ⟨n, hh⟩ := rn_i rfl rfl rfl rfl hh
  obtain ⟨n, hh⟩ := rn_i rfl rfl rfl rfl hh
  have hh : pm_run PT n fr lo 245 (186, [some (.ref 162), some (.int (v245_9 q cc gc (Ar h 170) cc 0 (nI 0))), u6, u5], [.int (v245_9 q cc gc (Ar h 170) cc 0 (nI 0)), .ref 162], fset (v245_48 q cc gc (v245_9 q cc gc (Ar h 170) cc 0 (nI 0)) (2 ^ cc) 0 (fset h 162 0 (.int (nI 0)))) 162 1 (.int (nI 0)), 198, sl) = some R := hh
  obtain ⟨n, fr1, lo1, r1, hh1, hh⟩ := rn_call (w := 2) (t := 270) rfl rfl hh
  have er9 := v270_ok (a := (v245_9 q cc gc (Ar h 170) cc 0 (nI 0))) (hc_f rfl rfl (by decide) rfl hc7) hh1
  subst er9
  obtain ⟨n, hh⟩ := rn_i rfl rfl rfl rfl hh
  have hh : pm_run PT n fr lo 245 (190, [some (.ref 162), some (.int (v245_9 q cc gc (Ar h 170) cc 0 (nI 0))), u6, u5], [.long ((v270 q cc gc (v245_9 q cc gc (Ar h 170) cc 0 (nI 0))).toInt64), .ref 162], fset (v245_48 q cc gc (v245_9 q cc gc (Ar h 170) cc 0 (nI 0)) (2 ^ cc) 0 (fset h 162 0 (.int (nI 0)))) 162 1 (.int (nI 0)), 198, sl) = some R := hh
  obtain ⟨n, fr1, lo1, r1, hh1, hh⟩ := rn_call (w := 0) (t := 167) rfl rfl hh
  obtain ⟨er10, hc11, hf12⟩ := v167_ok (v := ((v270 q cc gc (v245_9 q cc gc (Ar h 170) cc 0 (nI 0))).toInt64)) (hc_f rfl rfl (by decide) rfl hc7) hh1
  subst er10
  obtain ⟨n, hh⟩ := rn_i rfl rfl rfl rfl hh
  have hh : pm_run PT n fr lo 245 (194, [some (.ref 162), some (.int (v245_9 q cc gc (Ar h 170) cc 0 (nI 0))), u6, u5], [.int (v245_9 q cc gc (Ar h 170) cc 0 (nI 0))], v167 q cc gc (fset (v245_48 q cc gc (v245_9 q cc gc (Ar h 170) cc 0 (nI 0)) (2 ^ cc) 0 (fset h 162 0 (.int (nI 0)))) 162 1 (.int (nI 0))) ((v270 q cc gc (v245_9 q cc gc (Ar h 170) cc 0 (nI 0))).toInt64), 198, sl) = some R := hh
  obtain ⟨n, fr1, lo1, r1, hh1, hh⟩ := rn_call (w := 2) (t := 270) rfl rfl hh
  have er13 := v270_ok (a := (v245_9 q cc gc (Ar h 170) cc 0 (nI 0))) hc11 hh1
  subst er13
  obtain ⟨n, hh⟩ := rn_i rfl rfl rfl rfl hh
  have hh : pm_run PT n fr lo 245 (198, [some (.ref 162), some (.int (v245_9 q cc gc (Ar h 170) cc 0 (nI 0))), u6, u5], [.ref 162, .int (v270 q cc gc (v245_9 q cc gc (Ar h 170) cc 0 (nI 0)))], v167 q cc gc (fset (v245_48 q cc gc (v245_9 q cc gc (Ar h 170) cc 0 (nI 0)) (2 ^ cc) 0 (fset h 162 0 (.int (nI 0)))) 162 1 (.int (nI 0))) ((v270 q cc gc (v245_9 q cc gc (Ar h 170) cc 0 (nI 0))).toInt64), 198, sl) = some R := hh
  obtain ⟨n, hh⟩ := rn_gr hc11.wt rfl rfl (by decide) rfl (by decide) (show _ = some (2, ((188 : Nat) : Int), 1) from rfl) rfl hh
  obtain ⟨n, hh⟩ := rn_i rfl rfl rfl rfl hh
  have hh : pm_run PT n fr lo 245 (202, [some (.ref 162), some (.int (v245_9 q cc gc (Ar h 170) cc 0 (nI 0))), u6, u5], [.int (v245_9 q cc gc (Ar h 170) cc 0 (nI 0)), .ref 188, .int (v270 q cc gc (v245_9 q cc gc (Ar h 170) cc 0 (nI 0)))], v167 q cc gc (fset (v245_48 q cc gc (v245_9 q cc gc (Ar h 170) cc 0 (nI 0)) (2 ^ cc) 0 (fset h 162 0 (.int (nI 0)))) 162 1 (.int (nI 0))) ((v270 q cc gc (v245_9 q cc gc (Ar h 170) cc 0 (nI 0))).toInt64), 198, sl) = some R := hh
  obtain ⟨n, hx14, hh⟩ := en_lu (t := ((v245_9 q cc gc (Ar h 170) cc 0 (nI 0))).toNatClampNeg) (f := Ar (v245_48 q cc gc (v245_9 q cc gc (Ar h 170) cc 0 (nI 0)) (2 ^ cc) 0 (fset h 162 0 (.int (nI 0)))) 188) (w := (Ar (v245_48 q cc gc (v245_9 q cc gc (Ar h 170) cc 0 (nI 0)) (2 ^ cc) 0 (fset h 162 0 (.int (nI 0)))) 188) (((v245_9 q cc gc (Ar h 170) cc 0 (nI 0))).toNatClampNeg)) rfl hc11.wt rfl (by decide) rfl (by decide) ((Ar_e (hf12.1 188 rfl)).trans (Ar_f.trans rfl)) (fun _ => rfl) hh
  obtain ⟨n, hh⟩ := rn_i rfl rfl rfl rfl hh
  have hh : pm_run PT n fr lo 245 (204, [some (.ref 162), some (.int (v245_9 q cc gc (Ar h 170) cc 0 (nI 0))), u6, u5], [.int ((v270 q cc gc (v245_9 q cc gc (Ar h 170) cc 0 (nI 0))) - ((Ar (v245_48 q cc gc (v245_9 q cc gc (Ar h 170) cc 0 (nI 0)) (2 ^ cc) 0 (fset h 162 0 (.int (nI 0)))) 188) (((v245_9 q cc gc (Ar h 170) cc 0 (nI 0))).toNatClampNeg)))], v167 q cc gc (fset (v245_48 q cc gc (v245_9 q cc gc (Ar h 170) cc 0 (nI 0)) (2 ^ cc) 0 (fset h 162 0 (.int (nI 0)))) 162 1 (.int (nI 0))) ((v270 q cc gc (v245_9 q cc gc (Ar h 170) cc 0 (nI 0))).toInt64), 198, sl) = some R := hh
  have er15 : R = (some (.int ((v270 q cc gc (v245_9 q cc gc (Ar h 170) cc 0 (nI 0))) - ((Ar (v245_48 q cc gc (v245_9 q cc gc (Ar h 170) cc 0 (nI 0)) (2 ^ cc) 0 (fset h 162 0 (.int (nI 0)))) 188) (((v245_9 q cc gc (Ar h 170) cc 0 (nI 0))).toNatClampNeg)))), v167 q cc gc (fset (v245_48 q cc gc (v245_9 q cc gc (Ar h 170) cc 0 (nI 0)) (2 ^ cc) 0 (fset h 162 0 (.int (nI 0)))) 162 1 (.int (nI 0))) ((v270 q cc gc (v245_9 q cc gc (Ar h 170) cc 0 (nI 0))).toInt64), 198, sl) := (rn_ret rfl (Or.inl rfl) hh).2
  have ed : v245 q cc gc h = ((v270 q cc gc (v245_9 q cc gc (Ar h 170) cc 0 (nI 0))) - ((Ar (v245_48 q cc gc (v245_9 q cc gc (Ar h 170) cc 0 (nI 0)) (2 ^ cc) 0 (fset h 162 0 (.int (nI 0)))) 188) (((v245_9 q cc gc (Ar h 170) cc 0 (nI 0))).toNatClampNeg)), v167 q cc gc (fset (v245_48 q cc gc (v245_9 q cc gc (Ar h 170) cc 0 (nI 0)) (2 ^ cc) 0 (fset h 162 0 (.int (nI 0)))) 162 1 (.int (nI 0))) ((v270 q cc gc (v245_9 q cc gc (Ar h 170) cc 0 (nI 0))).toInt64)) := rfl
  refine ⟨?_, ?_, ?_⟩ <;> rw [ed]
  · exact er15
  · exact hc11
  · exact (fr_g rfl rfl hf12 (fr_f rfl rfl (fr_g rfl rfl hf8 (fr_f rfl rfl fr_0))))
theorem v245_fr {cc gc : Nat} {q : QT} {h : pm_H} (hw : HC q cc gc h) : HC q cc gc ((v245 q cc gc h).2) ∧ frm [162, 163, 187, 188] [(162, 0), (162, 1)] h ((v245 q cc gc h).2) := by
  unfold v245
  show HC q cc gc (v167 q cc gc (fset (v245_48 q cc gc (v245_9 q cc gc (Ar h 170) cc 0 (nI 0)) (2 ^ cc) 0 (fset h 162 0 (.int (nI 0)))) 162 1 (.int (nI 0))) ((v270 q cc gc (v245_9 q cc gc (Ar h 170) cc 0 (nI 0))).toInt64)) ∧ frm [162, 163, 187, 188] [(162, 0), (162, 1)] h (v167 q cc gc (fset (v245_48 q cc gc (v245_9 q cc gc (Ar h 170) cc 0 (nI 0)) (2 ^ cc) 0 (fset h 162 0 (.int (nI 0)))) 162 1 (.int (nI 0))) ((v270 q cc gc (v245_9 q cc gc (Ar h 170) cc 0 (nI 0))).toInt64))
  exact ⟨(v167_fr (v := ((v270 q cc gc (v245_9 q cc gc (Ar h 170) cc 0 (nI 0))).toInt64)) (hc_f rfl rfl (by decide) rfl (v245_48_fr (t1 := (v245_9 q cc gc (Ar h 170) cc 0 (nI 0))) (j := 2 ^ cc) (i := 0) (hc_f rfl rfl (by decide) rfl hw)).1)).1, (fr_g rfl rfl (v167_fr (v := ((v270 q cc gc (v245_9 q cc gc (Ar h 170) cc 0 (nI 0))).toInt64)) (hc_f rfl rfl (by decide) rfl (v245_48_fr (t1 := (v245_9 q cc gc (Ar h 170) cc 0 (nI 0))) (j := 2 ^ cc) (i := 0) (hc_f rfl rfl (by decide) rfl hw)).1)).2 (fr_f rfl rfl (fr_g rfl rfl (v245_48_fr (t1 := (v245_9 q cc gc (Ar h 170) cc 0 (nI 0))) (j := 2 ^ cc) (i := 0) (hc_f rfl rfl (by decide) rfl hw)).2 (fr_f rfl rfl fr_0))))⟩
def v248i_4b (q : QT) (cc gc : Nat) (d0 : Nat → Int32) (t1 : Int32) (i : Nat) (x2 : Int32) : Int32 := x2 + (cond (pm_cmp .ne (nI i) t1) ((d0) (((nI (6 + 6 * i)) + t1).toNatClampNeg)) (nI 0))
def v248i_4 (q : QT) (cc gc : Nat) (d0 : Nat → Int32) (t1 : Int32) (j i : Nat) (a : Int32) : Int32 := lp (fun i a => v248i_4b q cc gc d0 t1 i a) j i a
theorem v248i_4_e {n fr lo sl cc gc : Nat} {q : QT} {h : pm_H} {R : pm_Rs} {t1 : Int32} {i : Nat} {x2 : Int32} (hw : HC q cc gc h) (hi : cc ≤ i) (hI : i < 1000000) (hh : pm_run PT n fr lo 248 (4, [some (.ref 162), some (.int t1), some (.int x2), some (.int (nI i))], [], h, 198, sl) = some R) : ∃ m, pm_run PT m fr lo 248 (39, [some (.ref 162), some (.int t1), some (.int x2), some (.int (nI i))], [], h, 198, sl) = some R := by
  have hcc := hw.cb
  have hgc := hw.gb
  have hzr := hw.zr
  obtain ⟨n, hh⟩ := rn_i rfl rfl rfl rfl hh
  obtain ⟨n, hh⟩ := rn_i rfl rfl rfl rfl hh
  have hh : pm_run PT n fr lo 248 (6, [some (.ref 162), some (.int t1), some (.int x2), some (.int (nI i))], [.ref 162, .int (nI i)], h, 198, sl) = some R := hh
  obtain ⟨n, hh⟩ := rn_gi (x := nI cc) hw.wt rfl rfl (by decide) rfl (by decide) rfl hw.m3 hh
  have hh : pm_run PT n fr lo 248 (9, [some (.ref 162), some (.int t1), some (.int x2), some (.int (nI i))], [.int (nI cc), .int (nI i)], h, 198, sl) = some R := hh
  obtain ⟨n, hh⟩ := en_cn (cc := .ge) (off := 30) (t := 39) (b := decide (cc ≤ i)) (hI_ge (by omega) (by omega)) rfl rfl hh
  have hh := en_t (show decide (cc ≤ i) = true from decide_eq_true (by omega)) hh
  have hh : pm_run PT n fr lo 248 (39, [some (.ref 162), some (.int t1), some (.int x2), some (.int (nI i))], [], h, 198, sl) = some R := hh
  exact ⟨n, hh⟩
theorem v248i_4_s {n fr lo sl cc gc : Nat} {q : QT} {h : pm_H} {R : pm_Rs} {t1 : Int32} {i : Nat} {x2 : Int32} (hw : HC q cc gc h) (hi : i < cc) (hI : i < 1000000) (hh : pm_run PT n fr lo 248 (4, [some (.ref 162), some (.int t1), some (.int x2), some (.int (nI i))], [], h, 198, sl) = some R) : ∃ m, pm_run PT m fr lo 248 (4, [some (.ref 162), some (.int t1), some (.int (v248i_4b q cc gc (Ar h 170) t1 i x2)), some (.int (nI (i + 1)))], [], h, 198, sl) = some R := by
  have hcc := hw.cb
  have hgc := hw.gb
  have hzr := hw.zr
  obtain ⟨n, hh⟩ := rn_i rfl rfl rfl rfl hh
  obtain ⟨n, hh⟩ := rn_i rfl rfl rfl rfl hh
  have hh : pm_run PT n fr lo 248 (6, [some (.ref 162), some (.int t1), some (.int x2), some (.int (nI i))], [.ref 162, .int (nI i)], h, 198, sl) = some R := hh
  obtain ⟨n, hh⟩ := rn_gi (x := nI cc) hw.wt rfl rfl (by decide) rfl (by decide) rfl hw.m3 hh
  have hh : pm_run PT n fr lo 248 (9, [some (.ref 162), some (.int t1), some (.int x2), some (.int (nI i))], [.int (nI cc), .int (nI i)], h, 198, sl) = some R := hh
  obtain ⟨n, hh⟩ := en_cn (cc := .ge) (off := 30) (t := 39) (b := decide (cc ≤ i)) (hI_ge (by omega) (by omega)) rfl rfl hh
  have hh := en_f (show decide (cc ≤ i) = false from decide_eq_false (by omega)) hh
  have hh : pm_run PT n fr lo 248 (12, [some (.ref 162), some (.int t1), some (.int x2), some (.int (nI i))], [], h, 198, sl) = some R := hh
  obtain ⟨n, hh⟩ := rn_i rfl rfl rfl rfl hh
  obtain ⟨n, hh⟩ := rn_i rfl rfl rfl rfl hh
  obtain ⟨n, hh⟩ := rn_i rfl rfl rfl rfl hh
  have hh : pm_run PT n fr lo 248 (15, [some (.ref 162), some (.int t1), some (.int x2), some (.int (nI i))], [.int t1, .int (nI i), .int x2], h, 198, sl) = some R := hh
  obtain ⟨n, hh⟩ := en_cn (cc := .ne) (off := 7) (t := 22) (b := pm_cmp .ne (nI i) t1) rfl rfl rfl hh
  have hj4 : ∃ mJ, pm_run PT mJ fr lo 248 (cond (pm_cmp .ne (nI i) t1) (31, [some (.ref 162), some (.int t1), some (.int x2), some (.int (nI i))], [.int ((Ar h 170) (((nI (6 + 6 * i)) + t1).toNatClampNeg)), .int x2], h, 198, sl) (31, [some (.ref 162), some (.int t1), some (.int x2), some (.int (nI i))], [.int (nI 0), .int x2], h, 198, sl)) = some R := en_J (fun z1 => by
      have hh := en_t z1 hh
      have hh : pm_run PT n fr lo 248 (22, [some (.ref 162), some (.int t1), some (.int x2), some (.int (nI i))], [.int x2], h, 198, sl) = some R := hh
      obtain ⟨n, hh⟩ := rn_i rfl rfl rfl rfl hh
      have hh : pm_run PT n fr lo 248 (23, [some (.ref 162), some (.int t1), some (.int x2), some (.int (nI i))], [.ref 162, .int x2], h, 198, sl) = some R := hh
      obtain ⟨n, hh⟩ := rn_gr hw.wt rfl rfl (by decide) rfl (by decide) (show _ = some (2, ((170 : Nat) : Int), 1) from rfl) rfl hh
      obtain ⟨n, hh⟩ := rn_i rfl rfl rfl rfl hh
      obtain ⟨n, hh⟩ := rn_i rfl rfl rfl rfl hh
      have hh : pm_run PT n fr lo 248 (28, [some (.ref 162), some (.int t1), some (.int x2), some (.int (nI i))], [.int t1, .int (nI i), .ref 170, .int x2], h, 198, sl) = some R := hh
      obtain ⟨n, fr1, lo1, r1, hh1, hh⟩ := rn_call (w := 2) (t := 171) rfl rfl hh
      have hh1 : pm_run PT n fr1 lo1 171 (0, [some (.ref 170), some (.int (nI i)), some (.int t1)], [], h, 198, sl) = some r1 := hh1
      obtain ⟨n1, hh1⟩ := rn_i rfl rfl rfl rfl hh1
      obtain ⟨n1, hh1⟩ := rn_i rfl rfl rfl rfl hh1
      obtain ⟨n1, hh1⟩ := rn_i rfl rfl rfl rfl hh1
      obtain ⟨n1, hh1⟩ := rn_i rfl rfl rfl rfl hh1
      have hh1 : pm_run PT n1 fr1 lo1 171 (6, [some (.ref 170), some (.int (nI i)), some (.int t1)], [.int (nI i), .int (nI 6), .int (nI 6), .ref 170], h, 198, sl) = some r1 := hh1
      obtain ⟨n1, hh1⟩ := en_mul rfl hh1
      have hh1 : pm_run PT n1 fr1 lo1 171 (7, [some (.ref 170), some (.int (nI i)), some (.int t1)], [.int (nI (6 * i)), .int (nI 6), .ref 170], h, 198, sl) = some r1 := hh1
      have hh1 : pm_run PT n1 fr1 lo1 171 (7, [some (.ref 170), some (.int (nI i)), some (.int t1)], [.int (nI (6 * i)), .int (nI 6), .ref 170], h, 198, sl) = some r1 := hh1
      obtain ⟨n1, hh1⟩ := en_add rfl hh1
      have hh1 : pm_run PT n1 fr1 lo1 171 (8, [some (.ref 170), some (.int (nI i)), some (.int t1)], [.int (nI (6 + 6 * i)), .ref 170], h, 198, sl) = some r1 := hh1
      obtain ⟨n1, hh1⟩ := rn_i rfl rfl rfl rfl hh1
      obtain ⟨n1, hh1⟩ := rn_i rfl rfl rfl rfl hh1
      have hh1 : pm_run PT n1 fr1 lo1 171 (10, [some (.ref 170), some (.int (nI i)), some (.int t1)], [.int ((nI (6 + 6 * i)) + t1), .ref 170], h, 198, sl) = some r1 := hh1
      obtain ⟨n1, hx2, hh1⟩ := en_lu (t := ((nI (6 + 6 * i)) + t1).toNatClampNeg) (f := Ar h 170) (w := (Ar h 170) (((nI (6 + 6 * i)) + t1).toNatClampNeg)) rfl hw.wt rfl (by decide) rfl (by decide) rfl (fun _ => rfl) hh1
      have hh1 : pm_run PT n1 fr1 lo1 171 (11, [some (.ref 170), some (.int (nI i)), some (.int t1)], [.int ((Ar h 170) (((nI (6 + 6 * i)) + t1).toNatClampNeg))], h, 198, sl) = some r1 := hh1
      have er3 : r1 = (some (.int ((Ar h 170) (((nI (6 + 6 * i)) + t1).toNatClampNeg))), h, 198, sl) := (rn_ret rfl (Or.inl rfl) hh1).2
      subst er3
      exact ⟨n, hh⟩) (fun z1 => by
      have hh := en_f z1 hh
      have hh : pm_run PT n fr lo 248 (18, [some (.ref 162), some (.int t1), some (.int x2), some (.int (nI i))], [.int x2], h, 198, sl) = some R := hh
      obtain ⟨n, hh⟩ := rn_i rfl rfl rfl rfl hh
      obtain ⟨n, hh⟩ := rn_i rfl rfl rfl rfl hh
      exact ⟨n, hh⟩)
  obtain ⟨n, hh⟩ := hj4
  rw [show (cond (pm_cmp .ne (nI i) t1) (31, [some (.ref 162), some (.int t1), some (.int x2), some (.int (nI i))], [.int ((Ar h 170) (((nI (6 + 6 * i)) + t1).toNatClampNeg)), .int x2], h, 198, sl) (31, [some (.ref 162), some (.int t1), some (.int x2), some (.int (nI i))], [.int (nI 0), .int x2], h, 198, sl) : pm_St) = (31, [some (.ref 162), some (.int t1), some (.int x2), some (.int (nI i))], [.int (cond (pm_cmp .ne (nI i) t1) ((Ar h 170) (((nI (6 + 6 * i)) + t1).toNatClampNeg)) (nI 0)), .int x2], h, 198, sl) from by cases (pm_cmp .ne (nI i) t1) <;> rfl] at hh
  obtain ⟨n, hh⟩ := rn_i rfl rfl rfl rfl hh
  obtain ⟨n, hh⟩ := rn_i rfl rfl rfl rfl hh
  have hh : pm_run PT n fr lo 248 (33, [some (.ref 162), some (.int t1), some (.int (x2 + (cond (pm_cmp .ne (nI i) t1) ((Ar h 170) (((nI (6 + 6 * i)) + t1).toNatClampNeg)) (nI 0)))), some (.int (nI i))], [], h, 198, sl) = some R := hh
  obtain ⟨n, hh⟩ := en_inc (x := i) (c := 1) (j := 3) rfl rfl (by decide) hh
  have hh : pm_run PT n fr lo 248 (36, [some (.ref 162), some (.int t1), some (.int (x2 + (cond (pm_cmp .ne (nI i) t1) ((Ar h 170) (((nI (6 + 6 * i)) + t1).toNatClampNeg)) (nI 0)))), some (.int (nI (i + 1)))], [], h, 198, sl) = some R := hh
  obtain ⟨n, hh⟩ := rn_i rfl rfl rfl rfl hh
  have ed : v248i_4b q cc gc (Ar h 170) t1 i x2 = x2 + (cond (pm_cmp .ne (nI i) t1) ((Ar h 170) (((nI (6 + 6 * i)) + t1).toNatClampNeg)) (nI 0)) := rfl
  rw [ed]
  exact ⟨n, hh⟩
theorem v248i_4_ok {fr lo sl cc gc : Nat} {q : QT} {R : pm_Rs} {t1 : Int32} : ∀ {j i : Nat} {x2 : Int32} {h : pm_H} {n : Nat}, cc - i = j → i + j < 1000000 → HC q cc gc h → pm_run PT n fr lo 248 (4, [some (.ref 162), some (.int t1), some (.int x2), some (.int (nI i))], [], h, 198, sl) = some R → ∃ m wc, pm_run PT m fr lo 248 (39, [some (.ref 162), some (.int t1), some (.int (v248i_4 q cc gc (Ar h 170) t1 j i x2)), wc], [], h, 198, sl) = some R := by
  intro j
  induction j with
  | zero =>
    intro i x2 h n e eI hw hh
    obtain ⟨n, hh⟩ := v248i_4_e hw (by omega) (by omega) hh
    exact ⟨n, _, hh⟩
  | succ j ih =>
    intro i x2 h n e eI hw hh
    obtain ⟨n, hh⟩ := v248i_4_s hw (by omega) (by omega) hh
    obtain ⟨n, wc, hh⟩ := ih (by omega) (by omega) hw hh
    exact ⟨n, wc, hh⟩
def v248i (q : QT) (cc gc : Nat) (d0 : Nat → Int32) (c : Int32) : Int32 := (v248i_4 q cc gc (d0) c cc 0 (nI 0))
theorem v248i_ok {n fr lo sl cc gc : Nat} {q : QT} {h : pm_H} {R : pm_Rs} {c : Int32} (hw : HC q cc gc h) (hh : pm_run PT n fr lo 248 (0, pm_l0 [.ref 162, .int c] 4, [], h, 198, sl) = some R) : R = (some (.int (v248i q cc gc (Ar h 170) c)), h, 198, sl) := by
  have hcc := hw.cb
  have hgc := hw.gb
  have hzr := hw.zr
  obtain ⟨n, hh⟩ := rn_i rfl rfl rfl rfl hh
  obtain ⟨n, hh⟩ := rn_i rfl rfl rfl rfl hh
  obtain ⟨n, hh⟩ := rn_i rfl rfl rfl rfl hh
  obtain ⟨n, hh⟩ := rn_i rfl rfl rfl rfl hh
  have hh : pm_run PT n fr lo 248 (4, [some (.ref 162), some (.int c), some (.int (nI 0)), some (.int (nI 0))], [], h, 198, sl) = some R := hh
  obtain ⟨n, u1, hh⟩ := v248i_4_ok (t1 := c)  (i := 0) (x2 := (nI 0)) (j := cc) (by omega) (by omega) hw hh
  have hh : pm_run PT n fr lo 248 (39, [some (.ref 162), some (.int c), some (.int (v248i_4 q cc gc (Ar h 170) c cc 0 (nI 0))), u1], [], h, 198, sl) = some R := hh
  obtain ⟨n, hh⟩ := rn_i rfl rfl rfl rfl hh
  have hh : pm_run PT n fr lo 248 (40, [some (.ref 162), some (.int c), some (.int (v248i_4 q cc gc (Ar h 170) c cc 0 (nI 0))), u1], [.int (v248i_4 q cc gc (Ar h 170) c cc 0 (nI 0))], h, 198, sl) = some R := hh
  have er2 : R = (some (.int (v248i_4 q cc gc (Ar h 170) c cc 0 (nI 0))), h, 198, sl) := (rn_ret rfl (Or.inl rfl) hh).2
  have ed : v248i q cc gc (Ar h 170) c = (v248i_4 q cc gc (Ar h 170) c cc 0 (nI 0)) := rfl
  rw [ed]
  exact er2
def v249_40b (q : QT) (cc gc : Nat) (d0 : Nat → Int32) (t1 : Int32) (t2 : Int32) (m3 : Nat) (i : Nat) (x4 : Int32) : Int32 := cond (v164 q cc gc t1 (nI i)) x4 (cond (pm_cmp .lt x4 0) (nI i) (cond (pm_cmp .le (v248 q cc gc (d0) i) (v248i q cc gc (d0) x4)) x4 (nI i)))
def v249_40 (q : QT) (cc gc : Nat) (d0 : Nat → Int32) (t1 : Int32) (t2 : Int32) (m3 : Nat) (j i : Nat) (a : Int32) : Int32 := lp (fun i a => v249_40b q cc gc d0 t1 t2 m3 i a) j i a
theorem v249_40_e {n fr lo sl cc gc : Nat} {q : QT} {h : pm_H} {R : pm_Rs} {t1 : Int32} {t2 : Int32} {m3 : Nat} {i : Nat} {x4 : Int32} (hw : HC q cc gc h) (h_m3 : m3 < 10000) (hi : cc ≤ i) (hI : i < 1000000) (hh : pm_run PT n fr lo 249 (40, [some (.ref 162), some (.int t1), some (.int t2), some (.int (nI m3)), some (.int x4), some (.int (nI i))], [], h, 198, sl) = some R) : ∃ m, pm_run PT m fr lo 249 (93, [some (.ref 162), some (.int t1), some (.int t2), some (.int (nI m3)), some (.int x4), some (.int (nI i))], [], h, 198, sl) = some R := by
  have hcc := hw.cb
  have hgc := hw.gb
  have hzr := hw.zr
  obtain ⟨n, hh⟩ := rn_i rfl rfl rfl rfl hh
  obtain ⟨n, hh⟩ := rn_i rfl rfl rfl rfl hh
  have hh : pm_run PT n fr lo 249 (43, [some (.ref 162), some (.int t1), some (.int t2), some (.int (nI m3)), some (.int x4), some (.int (nI i))], [.ref 162, .int (nI i)], h, 198, sl) = some R := hh
  obtain ⟨n, hh⟩ := rn_gi (x := nI cc) hw.wt rfl rfl (by decide) rfl (by decide) rfl hw.m3 hh
  have hh : pm_run PT n fr lo 249 (46, [some (.ref 162), some (.int t1), some (.int t2), some (.int (nI m3)), some (.int x4), some (.int (nI i))], [.int (nI cc), .int (nI i)], h, 198, sl) = some R := hh
  obtain ⟨n, hh⟩ := en_cn (cc := .ge) (off := 47) (t := 93) (b := decide (cc ≤ i)) (hI_ge (by omega) (by omega)) rfl rfl hh
  have hh := en_t (show decide (cc ≤ i) = true from decide_eq_true (by omega)) hh
  have hh : pm_run PT n fr lo 249 (93, [some (.ref 162), some (.int t1), some (.int t2), some (.int (nI m3)), some (.int x4), some (.int (nI i))], [], h, 198, sl) = some R := hh
  exact ⟨n, hh⟩
theorem v249_40_s {n fr lo sl cc gc : Nat} {q : QT} {h : pm_H} {R : pm_Rs} {t1 : Int32} {t2 : Int32} {m3 : Nat} {i : Nat} {x4 : Int32} (hw : HC q cc gc h) (h_m3 : m3 < 10000) (hi : i < cc) (hI : i < 1000000) (hh : pm_run PT n fr lo 249 (40, [some (.ref 162), some (.int t1), some (.int t2), some (.int (nI m3)), some (.int x4), some (.int (nI i))], [], h, 198, sl) = some R) : ∃ m, pm_run PT m fr lo 249 (40, [some (.ref 162), some (.int t1), some (.int t2), some (.int (nI m3)), some (.int (v249_40b q cc gc (Ar h 170) t1 t2 m3 i x4)), some (.int (nI (i + 1)))], [], h, 198, sl) = some R := by
  have hcc := hw.cb
  have hgc := hw.gb
  have hzr := hw.zr
  obtain ⟨n, hh⟩ := rn_i rfl rfl rfl rfl hh
  obtain ⟨n, hh⟩ := rn_i rfl rfl rfl rfl hh
  have hh : pm_run PT n fr lo 249 (43, [some (.ref 162), some (.int t1), some (.int t2), some (.int (nI m3)), some (.int x4), some (.int (nI i))], [.ref 162, .int (nI i)], h, 198, sl) = some R := hh
  obtain ⟨n, hh⟩ := rn_gi (x := nI cc) hw.wt rfl rfl (by decide) rfl (by decide) rfl hw.m3 hh
  have hh : pm_run PT n fr lo 249 (46, [some (.ref 162), some (.int t1), some (.int t2), some (.int (nI m3)), some (.int x4), some (.int (nI i))], [.int (nI cc), .int (nI i)], h, 198, sl) = some R := hh
  obtain ⟨n, hh⟩ := en_cn (cc := .ge) (off := 47) (t := 93) (b := decide (cc ≤ i)) (hI_ge (by omega) (by omega)) rfl rfl hh
  have hh := en_f (show decide (cc ≤ i) = false from decide_eq_false (by omega)) hh
  have hh : pm_run PT n fr lo 249 (49, [some (.ref 162), some (.int t1), some (.int t2), some (.int (nI m3)), some (.int x4), some (.int (nI i))], [], h, 198, sl) = some R := hh
  obtain ⟨n, hh⟩ := rn_i rfl rfl rfl rfl hh
  obtain ⟨n, hh⟩ := rn_i rfl rfl rfl rfl hh
  have hh : pm_run PT n fr lo 249 (52, [some (.ref 162), some (.int t1), some (.int t2), some (.int (nI m3)), some (.int x4), some (.int (nI i))], [.int (nI i), .int t1], h, 198, sl) = some R := hh
  obtain ⟨n, fr1, lo1, r1, hh1, hh⟩ := rn_call (w := 2) (t := 164) rfl rfl hh
  have er3 := v164_ok (a := t1) (b := (nI i)) hw hh1
  subst er3
  have hh : pm_run PT n fr lo 249 (55, [some (.ref 162), some (.int t1), some (.int t2), some (.int (nI m3)), some (.int x4), some (.int (nI i))], [.int (cond (v164 q cc gc t1 (nI i)) 1 0)], h, 198, sl) = some R := hh
  obtain ⟨n, hh⟩ := en_zn (cc := .ne) (off := 28) (t := 83) (b := v164 q cc gc t1 (nI i)) eb_ne rfl rfl hh
  have hj11 : ∃ mJ, pm_run PT mJ fr lo 249 (cond (v164 q cc gc t1 (nI i)) (85, [some (.ref 162), some (.int t1), some (.int t2), some (.int (nI m3)), some (.int x4), some (.int (nI i))], [.int x4], h, 198, sl) (85, [some (.ref 162), some (.int t1), some (.int t2), some (.int (nI m3)), some (.int x4), some (.int (nI i))], [.int (cond (pm_cmp .lt x4 0) (nI i) (cond (pm_cmp .le (v248 q cc gc (Ar h 170) i) (v248i q cc gc (Ar h 170) x4)) x4 (nI i)))], h, 198, sl)) = some R := en_J (fun z4 => by
      have hh := en_t z4 hh
      have hh : pm_run PT n fr lo 249 (83, [some (.ref 162), some (.int t1), some (.int t2), some (.int (nI m3)), some (.int x4), some (.int (nI i))], [], h, 198, sl) = some R := hh
      obtain ⟨n, hh⟩ := rn_i rfl rfl rfl rfl hh
      exact ⟨n, hh⟩) (fun z4 => by
      have hh := en_f z4 hh
      have hh : pm_run PT n fr lo 249 (58, [some (.ref 162), some (.int t1), some (.int t2), some (.int (nI m3)), some (.int x4), some (.int (nI i))], [], h, 198, sl) = some R := hh
      obtain ⟨n, hh⟩ := rn_i rfl rfl rfl rfl hh
      have hh : pm_run PT n fr lo 249 (60, [some (.ref 162), some (.int t1), some (.int t2), some (.int (nI m3)), some (.int x4), some (.int (nI i))], [.int x4], h, 198, sl) = some R := hh
      obtain ⟨n, hh⟩ := en_zn (cc := .lt) (off := 18) (t := 78) (b := pm_cmp .lt x4 0) rfl rfl rfl hh
      have hj10 : ∃ mJ, pm_run PT mJ fr lo 249 (cond (pm_cmp .lt x4 0) (85, [some (.ref 162), some (.int t1), some (.int t2), some (.int (nI m3)), some (.int x4), some (.int (nI i))], [.int (nI i)], h, 198, sl) (85, [some (.ref 162), some (.int t1), some (.int t2), some (.int (nI m3)), some (.int x4), some (.int (nI i))], [.int (cond (pm_cmp .le (v248 q cc gc (Ar h 170) i) (v248i q cc gc (Ar h 170) x4)) x4 (nI i))], h, 198, sl)) = some R := en_J (fun z5 => by
          have hh := en_t z5 hh
          have hh : pm_run PT n fr lo 249 (78, [some (.ref 162), some (.int t1), some (.int t2), some (.int (nI m3)), some (.int x4), some (.int (nI i))], [], h, 198, sl) = some R := hh
          obtain ⟨n, hh⟩ := rn_i rfl rfl rfl rfl hh
          obtain ⟨n, hh⟩ := rn_i rfl rfl rfl rfl hh
          exact ⟨n, hh⟩) (fun z5 => by
          have hh := en_f z5 hh
          have hh : pm_run PT n fr lo 249 (63, [some (.ref 162), some (.int t1), some (.int t2), some (.int (nI m3)), some (.int x4), some (.int (nI i))], [], h, 198, sl) = some R := hh
          obtain ⟨n, hh⟩ := rn_i rfl rfl rfl rfl hh
          obtain ⟨n, hh⟩ := rn_i rfl rfl rfl rfl hh
          have hh : pm_run PT n fr lo 249 (66, [some (.ref 162), some (.int t1), some (.int t2), some (.int (nI m3)), some (.int x4), some (.int (nI i))], [.int (nI i), .ref 162], h, 198, sl) = some R := hh
          obtain ⟨n, fr1, lo1, r1, hh1, hh⟩ := rn_call (w := 0) (t := 248) rfl rfl hh
          have er6 := v248_ok (c := i) hw (by omega) hh1
          subst er6
          obtain ⟨n, hh⟩ := rn_i rfl rfl rfl rfl hh
          obtain ⟨n, hh⟩ := rn_i rfl rfl rfl rfl hh
          have hh : pm_run PT n fr lo 249 (72, [some (.ref 162), some (.int t1), some (.int t2), some (.int (nI m3)), some (.int x4), some (.int (nI i))], [.int x4, .ref 162, .int (v248 q cc gc (Ar h 170) i)], h, 198, sl) = some R := hh
          obtain ⟨n, fr1, lo1, r1, hh1, hh⟩ := rn_call (w := 0) (t := 248) rfl rfl hh
          have er7 := v248i_ok (c := x4) hw hh1
          subst er7
          have hh : pm_run PT n fr lo 249 (75, [some (.ref 162), some (.int t1), some (.int t2), some (.int (nI m3)), some (.int x4), some (.int (nI i))], [.int (v248i q cc gc (Ar h 170) x4), .int (v248 q cc gc (Ar h 170) i)], h, 198, sl) = some R := hh
          obtain ⟨n, hh⟩ := en_cn (cc := .le) (off := 8) (t := 83) (b := pm_cmp .le (v248 q cc gc (Ar h 170) i) (v248i q cc gc (Ar h 170) x4)) rfl rfl rfl hh
          have hj9 : ∃ mJ, pm_run PT mJ fr lo 249 (cond (pm_cmp .le (v248 q cc gc (Ar h 170) i) (v248i q cc gc (Ar h 170) x4)) (85, [some (.ref 162), some (.int t1), some (.int t2), some (.int (nI m3)), some (.int x4), some (.int (nI i))], [.int x4], h, 198, sl) (85, [some (.ref 162), some (.int t1), some (.int t2), some (.int (nI m3)), some (.int x4), some (.int (nI i))], [.int (nI i)], h, 198, sl)) = some R := en_J (fun z8 => by
              have hh := en_t z8 hh
              have hh : pm_run PT n fr lo 249 (83, [some (.ref 162), some (.int t1), some (.int t2), some (.int (nI m3)), some (.int x4), some (.int (nI i))], [], h, 198, sl) = some R := hh
              obtain ⟨n, hh⟩ := rn_i rfl rfl rfl rfl hh
              exact ⟨n, hh⟩) (fun z8 => by
              have hh := en_f z8 hh
              have hh : pm_run PT n fr lo 249 (78, [some (.ref 162), some (.int t1), some (.int t2), some (.int (nI m3)), some (.int x4), some (.int (nI i))], [], h, 198, sl) = some R := hh
              obtain ⟨n, hh⟩ := rn_i rfl rfl rfl rfl hh
              obtain ⟨n, hh⟩ := rn_i rfl rfl rfl rfl hh
              exact ⟨n, hh⟩)
          obtain ⟨n, hh⟩ := hj9
          rw [show (cond (pm_cmp .le (v248 q cc gc (Ar h 170) i) (v248i q cc gc (Ar h 170) x4)) (85, [some (.ref 162), some (.int t1), some (.int t2), some (.int (nI m3)), some (.int x4), some (.int (nI i))], [.int x4], h, 198, sl) (85, [some (.ref 162), some (.int t1), some (.int t2), some (.int (nI m3)), some (.int x4), some (.int (nI i))], [.int (nI i)], h, 198, sl) : pm_St) = (85, [some (.ref 162), some (.int t1), some (.int t2), some (.int (nI m3)), some (.int x4), some (.int (nI i))], [.int (cond (pm_cmp .le (v248 q cc gc (Ar h 170) i) (v248i q cc gc (Ar h 170) x4)) x4 (nI i))], h, 198, sl) from by cases (pm_cmp .le (v248 q cc gc (Ar h 170) i) (v248i q cc gc (Ar h 170) x4)) <;> rfl] at hh
          exact ⟨n, hh⟩)
      obtain ⟨n, hh⟩ := hj10
      rw [show (cond (pm_cmp .lt x4 0) (85, [some (.ref 162), some (.int t1), some (.int t2), some (.int (nI m3)), some (.int x4), some (.int (nI i))], [.int (nI i)], h, 198, sl) (85, [some (.ref 162), some (.int t1), some (.int t2), some (.int (nI m3)), some (.int x4), some (.int (nI i))], [.int (cond (pm_cmp .le (v248 q cc gc (Ar h 170) i) (v248i q cc gc (Ar h 170) x4)) x4 (nI i))], h, 198, sl) : pm_St) = (85, [some (.ref 162), some (.int t1), some (.int t2), some (.int (nI m3)), some (.int x4), some (.int (nI i))], [.int (cond (pm_cmp .lt x4 0) (nI i) (cond (pm_cmp .le (v248 q cc gc (Ar h 170) i) (v248i q cc gc (Ar h 170) x4)) x4 (nI i)))], h, 198, sl) from by cases (pm_cmp .lt x4 0) <;> rfl] at hh
      exact ⟨n, hh⟩)
  obtain ⟨n, hh⟩ := hj11
  rw [show (cond (v164 q cc gc t1 (nI i)) (85, [some (.ref 162), some (.int t1), some (.int t2), some (.int (nI m3)), some (.int x4), some (.int (nI i))], [.int x4], h, 198, sl) (85, [some (.ref 162), some (.int t1), some (.int t2), some (.int (nI m3)), some (.int x4), some (.int (nI i))], [.int (cond (pm_cmp .lt x4 0) (nI i) (cond (pm_cmp .le (v248 q cc gc (Ar h 170) i) (v248i q cc gc (Ar h 170) x4)) x4 (nI i)))], h, 198, sl) : pm_St) = (85, [some (.ref 162), some (.int t1), some (.int t2), some (.int (nI m3)), some (.int x4), some (.int (nI i))], [.int (cond (v164 q cc gc t1 (nI i)) x4 (cond (pm_cmp .lt x4 0) (nI i) (cond (pm_cmp .le (v248 q cc gc (Ar h 170) i) (v248i q cc gc (Ar h 170) x4)) x4 (nI i))))], h, 198, sl) from by cases (v164 q cc gc t1 (nI i)) <;> rfl] at hh
  obtain ⟨n, hh⟩ := rn_i rfl rfl rfl rfl hh
  have hh : pm_run PT n fr lo 249 (87, [some (.ref 162), some (.int t1), some (.int t2), some (.int (nI m3)), some (.int (cond (v164 q cc gc t1 (nI i)) x4 (cond (pm_cmp .lt x4 0) (nI i) (cond (pm_cmp .le (v248 q cc gc (Ar h 170) i) (v248i q cc gc (Ar h 170) x4)) x4 (nI i))))), some (.int (nI i))], [], h, 198, sl) = some R := hh
  obtain ⟨n, hh⟩ := en_inc (x := i) (c := 1) (j := 5) rfl rfl (by decide) hh
  have hh : pm_run PT n fr lo 249 (90, [some (.ref 162), some (.int t1), some (.int t2), some (.int (nI m3)), some (.int (cond (v164 q cc gc t1 (nI i)) x4 (cond (pm_cmp .lt x4 0) (nI i) (cond (pm_cmp .le (v248 q cc gc (Ar h 170) i) (v248i q cc gc (Ar h 170) x4)) x4 (nI i))))), some (.int (nI (i + 1)))], [], h, 198, sl) = some R := hh
  obtain ⟨n, hh⟩ := rn_i rfl rfl rfl rfl hh
  have ed : v249_40b q cc gc (Ar h 170) t1 t2 m3 i x4 = cond (v164 q cc gc t1 (nI i)) x4 (cond (pm_cmp .lt x4 0) (nI i) (cond (pm_cmp .le (v248 q cc gc (Ar h 170) i) (v248i q cc gc (Ar h 170) x4)) x4 (nI i))) := rfl
  rw [ed]
  exact ⟨n, hh⟩
theorem v249_40_ok {fr lo sl cc gc : Nat} {q : QT} {R : pm_Rs} {t1 : Int32} {t2 : Int32} {m3 : Nat} : ∀ {j i : Nat} {x4 : Int32} {h : pm_H} {n : Nat}, cc - i = j → i + j < 1000000 → HC q cc gc h → m3 < 10000 → pm_run PT n fr lo 249 (40, [some (.ref 162), some (.int t1), some (.int t2), some (.int (nI m3)), some (.int x4), some (.int (nI i))], [], h, 198, sl) = some R → ∃ m wc, pm_run PT m fr lo 249 (93, [some (.ref 162), some (.int t1), some (.int t2), some (.int (nI m3)), some (.int (v249_40 q cc gc (Ar h 170) t1 t2 m3 j i x4)), wc], [], h, 198, sl) = some R := by
  intro j
  induction j with
  | zero =>
    intro i x4 h n e eI hw h_m3 hh
    obtain ⟨n, hh⟩ := v249_40_e hw h_m3 (by omega) (by omega) hh
    exact ⟨n, _, hh⟩
  | succ j ih =>
    intro i x4 h n e eI hw h_m3 hh
    obtain ⟨n, hh⟩ := v249_40_s hw h_m3 (by omega) (by omega) hh
    obtain ⟨n, wc, hh⟩ := ih (by omega) (by omega) hw h_m3 hh
    exact ⟨n, wc, hh⟩
def v249_26b (q : QT) (cc gc : Nat) (h : pm_H) (i : Nat) (x1 : Int32) (x2 : Int32) : Int32 × Int32 × pm_H := (x1 ||| (shl (nI 1) (v249_40 q cc gc (Ar h 170) x1 x2 i cc 0 (Int32.ofInt (-1)))), cond (decide (¬ i = 0)) x2 (v249_40 q cc gc (Ar h 170) x1 x2 i cc 0 (Int32.ofInt (-1))), v167 q cc gc h (((v249_40 q cc gc (Ar h 170) x1 x2 i cc 0 (Int32.ofInt (-1)))).toInt64))
def v249_26 (q : QT) (cc gc : Nat) (j i : Nat) (a : Int32 × Int32 × pm_H) : Int32 × Int32 × pm_H := lp (fun i a => v249_26b q cc gc a.2.2 i a.1 a.2.1) j i a
theorem v249_26_e {n fr lo sl cc gc : Nat} {q : QT} {h : pm_H} {R : pm_Rs} {i : Nat} {x1 : Int32} {x2 : Int32} {o4 : Option Value} {o5 : Option Value} (hw : HC q cc gc h) (hi : cc ≤ i) (hI : i < 1000000) (hh : pm_run PT n fr lo 249 (26, [some (.ref 162), some (.int x1), some (.int x2), some (.int (nI i)), o4, o5], [], h, 198, sl) = some R) : ∃ m, pm_run PT m fr lo 249 (124, [some (.ref 162), some (.int x1), some (.int x2), some (.int (nI i)), o4, o5], [], h, 198, sl) = some R := by
  have hcc := hw.cb
  have hgc := hw.gb
  have hzr := hw.zr
  obtain ⟨n, hh⟩ := rn_i rfl rfl rfl rfl hh
  obtain ⟨n, hh⟩ := rn_i rfl rfl rfl rfl hh
  have hh : pm_run PT n fr lo 249 (28, [some (.ref 162), some (.int x1), some (.int x2), some (.int (nI i)), o4, o5], [.ref 162, .int (nI i)], h, 198, sl) = some R := hh
  obtain ⟨n, hh⟩ := rn_gi (x := nI cc) hw.wt rfl rfl (by decide) rfl (by decide) rfl hw.m3 hh
  have hh : pm_run PT n fr lo 249 (31, [some (.ref 162), some (.int x1), some (.int x2), some (.int (nI i)), o4, o5], [.int (nI cc), .int (nI i)], h, 198, sl) = some R := hh
  obtain ⟨n, hh⟩ := en_cn (cc := .ge) (off := 93) (t := 124) (b := decide (cc ≤ i)) (hI_ge (by omega) (by omega)) rfl rfl hh
  have hh := en_t (show decide (cc ≤ i) = true from decide_eq_true (by omega)) hh
  have hh : pm_run PT n fr lo 249 (124, [some (.ref 162), some (.int x1), some (.int x2), some (.int (nI i)), o4, o5], [], h, 198, sl) = some R := hh
  exact ⟨n, hh⟩
theorem v249_26_s {n fr lo sl cc gc : Nat} {q : QT} {h : pm_H} {R : pm_Rs} {i : Nat} {x1 : Int32} {x2 : Int32} {o4 : Option Value} {o5 : Option Value} (hw : HC q cc gc h) (hi : i < cc) (hI : i < 1000000) (hh : pm_run PT n fr lo 249 (26, [some (.ref 162), some (.int x1), some (.int x2), some (.int (nI i)), o4, o5], [], h, 198, sl) = some R) : ∃ m w4 w5, HC q cc gc ((v249_26b q cc gc h i x1 x2).2.2) ∧ frm [162, 163] [(162, 1)] h ((v249_26b q cc gc h i x1 x2).2.2) ∧ pm_run PT m fr lo 249 (26, [some (.ref 162), some (.int ((v249_26b q cc gc h i x1 x2).1)), some (.int ((v249_26b q cc gc h i x1 x2).2.1)), some (.int (nI (i + 1))), w4, w5], [], (v249_26b q cc gc h i x1 x2).2.2, 198, sl) = some R := by
  have hcc := hw.cb
  have hgc := hw.gb
  have hzr := hw.zr
  obtain ⟨n, hh⟩ := rn_i rfl rfl rfl rfl hh
  obtain ⟨n, hh⟩ := rn_i rfl rfl rfl rfl hh
  have hh : pm_run PT n fr lo 249 (28, [some (.ref 162), some (.int x1), some (.int x2), some (.int (nI i)), o4, o5], [.ref 162, .int (nI i)], h, 198, sl) = some R := hh
  obtain ⟨n, hh⟩ := rn_gi (x := nI cc) hw.wt rfl rfl (by decide) rfl (by decide) rfl hw.m3 hh
  have hh : pm_run PT n fr lo 249 (31, [some (.ref 162), some (.int x1), some (.int x2), some (.int (nI i)), o4, o5], [.int (nI cc), .int (nI i)], h, 198, sl) = some R := hh
  obtain ⟨n, hh⟩ := en_cn (cc := .ge) (off := 93) (t := 124) (b := decide (cc ≤ i)) (hI_ge (by omega) (by omega)) rfl rfl hh
  have hh := en_f (show decide (cc ≤ i) = false from decide_eq_false (by omega)) hh
  have hh : pm_run PT n fr lo 249 (34, [some (.ref 162), some (.int x1), some (.int x2), some (.int (nI i)), o4, o5], [], h, 198, sl) = some R := hh
  obtain ⟨n, hh⟩ := rn_i rfl rfl rfl rfl hh
  obtain ⟨n, hh⟩ := rn_i rfl rfl rfl rfl hh
  obtain ⟨n, hh⟩ := rn_i rfl rfl rfl rfl hh
  obtain ⟨n, hh⟩ := rn_i rfl rfl rfl rfl hh
  have hh : pm_run PT n fr lo 249 (40, [some (.ref 162), some (.int x1), some (.int x2), some (.int (nI i)), some (.int (Int32.ofInt (-1))), some (.int (nI 0))], [], h, 198, sl) = some R := hh
  obtain ⟨n, u3, hh⟩ := v249_40_ok (t1 := x1) (t2 := x2) (m3 := i)  (i := 0) (x4 := (Int32.ofInt (-1))) (j := cc) (by omega) (by omega) hw (by omega) hh
  have hh : pm_run PT n fr lo 249 (93, [some (.ref 162), some (.int x1), some (.int x2), some (.int (nI i)), some (.int (v249_40 q cc gc (Ar h 170) x1 x2 i cc 0 (Int32.ofInt (-1)))), u3], [], h, 198, sl) = some R := hh
  obtain ⟨n, hh⟩ := rn_i rfl rfl rfl rfl hh
  obtain ⟨n, hh⟩ := rn_i rfl rfl rfl rfl hh
  obtain ⟨n, hh⟩ := rn_i rfl rfl rfl rfl hh
  have hh : pm_run PT n fr lo 249 (97, [some (.ref 162), some (.int x1), some (.int x2), some (.int (nI i)), some (.int (v249_40 q cc gc (Ar h 170) x1 x2 i cc 0 (Int32.ofInt (-1)))), u3], [.long (((v249_40 q cc gc (Ar h 170) x1 x2 i cc 0 (Int32.ofInt (-1)))).toInt64), .ref 162], h, 198, sl) = some R := hh
  obtain ⟨n, fr1, lo1, r1, hh1, hh⟩ := rn_call (w := 0) (t := 167) rfl rfl hh
  obtain ⟨er4, hc5, hf6⟩ := v167_ok (v := (((v249_40 q cc gc (Ar h 170) x1 x2 i cc 0 (Int32.ofInt (-1)))).toInt64)) hw hh1
  subst er4
  obtain ⟨n, hh⟩ := rn_i rfl rfl rfl rfl hh
  obtain ⟨n, hh⟩ := rn_i rfl rfl rfl rfl hh
  obtain ⟨n, hh⟩ := rn_i rfl rfl rfl rfl hh
  obtain ⟨n, hh⟩ := rn_i rfl rfl rfl rfl hh
  obtain ⟨n, hh⟩ := rn_i rfl rfl rfl rfl hh
  obtain ⟨n, hh⟩ := rn_i rfl rfl rfl rfl hh
  obtain ⟨n, hh⟩ := rn_i rfl rfl rfl rfl hh
  have hh : pm_run PT n fr lo 249 (108, [some (.ref 162), some (.int (x1 ||| (shl (nI 1) (v249_40 q cc gc (Ar h 170) x1 x2 i cc 0 (Int32.ofInt (-1)))))), some (.int x2), some (.int (nI i)), some (.int (v249_40 q cc gc (Ar h 170) x1 x2 i cc 0 (Int32.ofInt (-1)))), u3], [.int (nI i)], v167 q cc gc h (((v249_40 q cc gc (Ar h 170) x1 x2 i cc 0 (Int32.ofInt (-1)))).toInt64), 198, sl) = some R := hh
  obtain ⟨n, hh⟩ := en_zn (cc := .ne) (off := 8) (t := 116) (b := decide (¬ i = 0)) (hI_ne (b := 0) (by omega) (by omega)) rfl rfl hh
  have hj8 : ∃ mJ, pm_run PT mJ fr lo 249 (cond (decide (¬ i = 0)) (117, [some (.ref 162), some (.int (x1 ||| (shl (nI 1) (v249_40 q cc gc (Ar h 170) x1 x2 i cc 0 (Int32.ofInt (-1)))))), some (.int x2), some (.int (nI i)), some (.int (v249_40 q cc gc (Ar h 170) x1 x2 i cc 0 (Int32.ofInt (-1)))), u3], [.int x2], v167 q cc gc h (((v249_40 q cc gc (Ar h 170) x1 x2 i cc 0 (Int32.ofInt (-1)))).toInt64), 198, sl) (117, [some (.ref 162), some (.int (x1 ||| (shl (nI 1) (v249_40 q cc gc (Ar h 170) x1 x2 i cc 0 (Int32.ofInt (-1)))))), some (.int x2), some (.int (nI i)), some (.int (v249_40 q cc gc (Ar h 170) x1 x2 i cc 0 (Int32.ofInt (-1)))), u3], [.int (v249_40 q cc gc (Ar h 170) x1 x2 i cc 0 (Int32.ofInt (-1)))], v167 q cc gc h (((v249_40 q cc gc (Ar h 170) x1 x2 i cc 0 (Int32.ofInt (-1)))).toInt64), 198, sl)) = some R := en_J (fun z7 => by
      have hh := en_t z7 hh
      have hh : pm_run PT n fr lo 249 (116, [some (.ref 162), some (.int (x1 ||| (shl (nI 1) (v249_40 q cc gc (Ar h 170) x1 x2 i cc 0 (Int32.ofInt (-1)))))), some (.int x2), some (.int (nI i)), some (.int (v249_40 q cc gc (Ar h 170) x1 x2 i cc 0 (Int32.ofInt (-1)))), u3], [], v167 q cc gc h (((v249_40 q cc gc (Ar h 170) x1 x2 i cc 0 (Int32.ofInt (-1)))).toInt64), 198, sl) = some R := hh
      have y_z7 := of_decide_eq_true z7
      obtain ⟨n, hh⟩ := rn_i rfl rfl rfl rfl hh
      exact ⟨n, hh⟩) (fun z7 => by
      have hh := en_f z7 hh
      have hh : pm_run PT n fr lo 249 (111, [some (.ref 162), some (.int (x1 ||| (shl (nI 1) (v249_40 q cc gc (Ar h 170) x1 x2 i cc 0 (Int32.ofInt (-1)))))), some (.int x2), some (.int (nI i)), some (.int (v249_40 q cc gc (Ar h 170) x1 x2 i cc 0 (Int32.ofInt (-1)))), u3], [], v167 q cc gc h (((v249_40 q cc gc (Ar h 170) x1 x2 i cc 0 (Int32.ofInt (-1)))).toInt64), 198, sl) = some R := hh
      have y_z7 := of_decide_eq_false z7
      obtain ⟨n, hh⟩ := rn_i rfl rfl rfl rfl hh
      obtain ⟨n, hh⟩ := rn_i rfl rfl rfl rfl hh
      exact ⟨n, hh⟩)
  obtain ⟨n, hh⟩ := hj8
  rw [show (cond (decide (¬ i = 0)) (117, [some (.ref 162), some (.int (x1 ||| (shl (nI 1) (v249_40 q cc gc (Ar h 170) x1 x2 i cc 0 (Int32.ofInt (-1)))))), some (.int x2), some (.int (nI i)), some (.int (v249_40 q cc gc (Ar h 170) x1 x2 i cc 0 (Int32.ofInt (-1)))), u3], [.int x2], v167 q cc gc h (((v249_40 q cc gc (Ar h 170) x1 x2 i cc 0 (Int32.ofInt (-1)))).toInt64), 198, sl) (117, [some (.ref 162), some (.int (x1 ||| (shl (nI 1) (v249_40 q cc gc (Ar h 170) x1 x2 i cc 0 (Int32.ofInt (-1)))))), some (.int x2), some (.int (nI i)), some (.int (v249_40 q cc gc (Ar h 170) x1 x2 i cc 0 (Int32.ofInt (-1)))), u3], [.int (v249_40 q cc gc (Ar h 170) x1 x2 i cc 0 (Int32.ofInt (-1)))], v167 q cc gc h (((v249_40 q cc gc (Ar h 170) x1 x2 i cc 0 (Int32.ofInt (-1)))).toInt64), 198, sl) : pm_St) = (117, [some (.ref 162), some (.int (x1 ||| (shl (nI 1) (v249_40 q cc gc (Ar h 170) x1 x2 i cc 0 (Int32.ofInt (-1)))))), some (.int x2), some (.int (nI i)), some (.int (v249_40 q cc gc (Ar h 170) x1 x2 i cc 0 (Int32.ofInt (-1)))), u3], [.int (cond (decide (¬ i = 0)) x2 (v249_40 q cc gc (Ar h 170) x1 x2 i cc 0 (Int32.ofInt (-1))))], v167 q cc gc h (((v249_40 q cc gc (Ar h 170) x1 x2 i cc 0 (Int32.ofInt (-1)))).toInt64), 198, sl) from by cases (decide (¬ i = 0)) <;> rfl] at hh
  obtain ⟨n, hh⟩ := rn_i rfl rfl rfl rfl hh
  have hh : pm_run PT n fr lo 249 (118, [some (.ref 162), some (.int (x1 ||| (shl (nI 1) (v249_40 q cc gc (Ar h 170) x1 x2 i cc 0 (Int32.ofInt (-1)))))), some (.int (cond (decide (¬ i = 0)) x2 (v249_40 q cc gc (Ar h 170) x1 x2 i cc 0 (Int32.ofInt (-1))))), some (.int (nI i)), some (.int (v249_40 q cc gc (Ar h 170) x1 x2 i cc 0 (Int32.ofInt (-1)))), u3], [], v167 q cc gc h (((v249_40 q cc gc (Ar h 170) x1 x2 i cc 0 (Int32.ofInt (-1)))).toInt64), 198, sl) = some R := hh
  obtain ⟨n, hh⟩ := en_inc (x := i) (c := 1) (j := 3) rfl rfl (by decide) hh
  have hh : pm_run PT n fr lo 249 (121, [some (.ref 162), some (.int (x1 ||| (shl (nI 1) (v249_40 q cc gc (Ar h 170) x1 x2 i cc 0 (Int32.ofInt (-1)))))), some (.int (cond (decide (¬ i = 0)) x2 (v249_40 q cc gc (Ar h 170) x1 x2 i cc 0 (Int32.ofInt (-1))))), some (.int (nI (i + 1))), some (.int (v249_40 q cc gc (Ar h 170) x1 x2 i cc 0 (Int32.ofInt (-1)))), u3], [], v167 q cc gc h (((v249_40 q cc gc (Ar h 170) x1 x2 i cc 0 (Int32.ofInt (-1)))).toInt64), 198, sl) = some R := hh
  obtain ⟨n, hh⟩ := rn_i rfl rfl rfl rfl hh
  have ed : v249_26b q cc gc h i x1 x2 = (x1 ||| (shl (nI 1) (v249_40 q cc gc (Ar h 170) x1 x2 i cc 0 (Int32.ofInt (-1)))), cond (decide (¬ i = 0)) x2 (v249_40 q cc gc (Ar h 170) x1 x2 i cc 0 (Int32.ofInt (-1))), v167 q cc gc h (((v249_40 q cc gc (Ar h 170) x1 x2 i cc 0 (Int32.ofInt (-1)))).toInt64)) := rfl
  rw [ed]
  exact ⟨n, some (.int (v249_40 q cc gc (Ar h 170) x1 x2 i cc 0 (Int32.ofInt (-1)))), u3, hc5, (fr_g rfl rfl hf6 fr_0), hh⟩
theorem v249_26_ok {fr lo sl cc gc : Nat} {q : QT} {R : pm_Rs} : ∀ {j i : Nat} {x1 : Int32} {x2 : Int32} {o4 : Option Value} {o5 : Option Value} {h : pm_H} {n : Nat}, cc - i = j → i + j < 1000000 → HC q cc gc h → pm_run PT n fr lo 249 (26, [some (.ref 162), some (.int x1), some (.int x2), some (.int (nI i)), o4, o5], [], h, 198, sl) = some R → ∃ m wc w4 w5, HC q cc gc ((v249_26 q cc gc j i (x1, x2, h)).2.2) ∧ frm [162, 163] [(162, 1)] h ((v249_26 q cc gc j i (x1, x2, h)).2.2) ∧ pm_run PT m fr lo 249 (124, [some (.ref 162), some (.int ((v249_26 q cc gc j i (x1, x2, h)).1)), some (.int ((v249_26 q cc gc j i (x1, x2, h)).2.1)), wc, w4, w5], [], (v249_26 q cc gc j i (x1, x2, h)).2.2, 198, sl) = some R := by
  intro j
  induction j with
  | zero =>
    intro i x1 x2 o4 o5 h n e eI hw hh
    obtain ⟨n, hh⟩ := v249_26_e hw (by omega) (by omega) hh
    exact ⟨n, _, o4, o5, hw, fr_0, hh⟩
  | succ j ih =>
    intro i x1 x2 o4 o5 h n e eI hw hh
    obtain ⟨n, w4, w5, hc, hf, hh⟩ := v249_26_s hw (by omega) (by omega) hh
    obtain ⟨n, wc, v4, v5, hc2, hf2, hh⟩ := ih (by omega) (by omega) hc hh
    exact ⟨n, wc, v4, v5, hc2, fr_t hf2 hf, hh⟩
theorem v249_26_fb {cc gc : Nat} {q : QT} {h : pm_H} {i : Nat} {x1 : Int32} {x2 : Int32} (hw : HC q cc gc h) : HC q cc gc ((v249_26b q cc gc h i x1 x2).2.2) ∧ frm [162, 163] [(162, 1)] h ((v249_26b q cc gc h i x1 x2).2.2) := by
  unfold v249_26b
  show HC q cc gc (v167 q cc gc h (((v249_40 q cc gc (Ar h 170) x1 x2 i cc 0 (Int32.ofInt (-1)))).toInt64)) ∧ frm [162, 163] [(162, 1)] h (v167 q cc gc h (((v249_40 q cc gc (Ar h 170) x1 x2 i cc 0 (Int32.ofInt (-1)))).toInt64))
  exact ⟨(v167_fr (v := (((v249_40 q cc gc (Ar h 170) x1 x2 i cc 0 (Int32.ofInt (-1)))).toInt64)) hw).1, (fr_g rfl rfl (v167_fr (v := (((v249_40 q cc gc (Ar h 170) x1 x2 i cc 0 (Int32.ofInt (-1)))).toInt64)) hw).2 fr_0)⟩
theorem v249_26_fr {cc gc : Nat} {q : QT} : ∀ {j i : Nat} {x1 : Int32} {x2 : Int32} {h : pm_H}, HC q cc gc h → HC q cc gc ((v249_26 q cc gc j i (x1, x2, h)).2.2) ∧ frm [162, 163] [(162, 1)] h ((v249_26 q cc gc j i (x1, x2, h)).2.2) := by
  intro j
  induction j with
  | zero =>
    intro i x1 x2 h hw
    exact ⟨hw, fr_0⟩
  | succ j ih =>
    intro i x1 x2 h hw
    obtain ⟨a1, a2⟩ := v249_26_fb (i := i) (x1 := x1) (x2 := x2) hw
    obtain ⟨b1, b2⟩ := ih (i := i + 1) a1
    exact ⟨b1, fr_t b2 a2⟩
def v249 (q : QT) (cc gc : Nat) (h : pm_H) : Int32 × pm_H := cond (decide (¬ cc = 0)) ((v249_26 q cc gc cc 0 ((nI 0), (Int32.ofInt (-1)), fset (fset h 162 0 (.int (nI 0))) 162 1 (.int (nI 0)))).2.1, v167 q cc gc ((v249_26 q cc gc cc 0 ((nI 0), (Int32.ofInt (-1)), fset (fset h 162 0 (.int (nI 0))) 162 1 (.int (nI 0)))).2.2) ((v248i q cc gc (Ar h 170) ((v249_26 q cc gc cc 0 ((nI 0), (Int32.ofInt (-1)), fset (fset h 162 0 (.int (nI 0))) 162 1 (.int (nI 0)))).2.1)).toInt64)) ((Int32.ofInt (-2)), fset h 162 0 (.int (nI 0)))
theorem v249_ok {n fr lo sl cc gc : Nat} {q : QT} {h : pm_H} {R : pm_Rs} (hw : HC q cc gc h) (hh : pm_run PT n fr lo 249 (0, pm_l0 [.ref 162] 6, [], h, 198, sl) = some R) : R = (some (.int ((v249 q cc gc h).1)), (v249 q cc gc h).2, 198, sl) ∧ HC q cc gc ((v249 q cc gc h).2) ∧ frm [162, 163] [(162, 0), (162, 1)] h ((v249 q cc gc h).2) := by
  have hcc := hw.cb
  have hgc := hw.gb
  have hzr := hw.zr
  obtain ⟨n, hh⟩ := rn_i rfl rfl rfl rfl hh
  obtain ⟨n, hh⟩ := rn_i rfl rfl rfl rfl hh
  have hh : pm_run PT n fr lo 249 (2, [some (.ref 162), none, none, none, none, none], [.int (nI 0), .ref 162], h, 198, sl) = some R := hh
  obtain ⟨n, hh⟩ := rn_pi hw.wt rfl rfl (by decide) rfl (by decide) rfl hh
  obtain ⟨n, hh⟩ := rn_i rfl rfl rfl rfl hh
  have hh : pm_run PT n fr lo 249 (6, [some (.ref 162), none, none, none, none, none], [.ref 162], fset h 162 0 (.int (nI 0)), 198, sl) = some R := hh
  obtain ⟨n, hh⟩ := rn_gi (x := nI cc) (hc_f rfl rfl (by decide) rfl hw).wt rfl rfl (by decide) rfl (by decide) rfl ((hc_f rfl rfl (by decide) rfl hw).m3) hh
  have hh : pm_run PT n fr lo 249 (9, [some (.ref 162), none, none, none, none, none], [.int (nI cc)], fset h 162 0 (.int (nI 0)), 198, sl) = some R := hh
  obtain ⟨n, hh⟩ := en_zn (cc := .ne) (off := 6) (t := 15) (b := decide (¬ cc = 0)) (hI_ne (b := 0) (by omega) (by omega)) rfl rfl hh
  cases z1 : decide (¬ cc = 0) with
  | true =>
    have hh := en_t z1 hh
    have hh : pm_run PT n fr lo 249 (15, [some (.ref 162), none, none, none, none, none], [], fset h 162 0 (.int (nI 0)), 198, sl) = some R := hh
    have y2 := of_decide_eq_true z1
    obtain ⟨n, hh⟩ := rn_i rfl rfl rfl rfl hh
    obtain ⟨n, hh⟩ := rn_i rfl rfl rfl rfl hh
    have hh : pm_run PT n fr lo 249 (17, [some (.ref 162), none, none, none, none, none], [.int (nI 0), .ref 162], fset h 162 0 (.int (nI 0)), 198, sl) = some R := hh
    obtain ⟨n, hh⟩ := rn_pi (hc_f rfl rfl (by decide) rfl hw).wt rfl rfl (by decide) rfl (by decide) rfl hh
    obtain ⟨n, hh⟩ := rn_i rfl rfl rfl rfl hh
    obtain ⟨n, hh⟩ := rn_i rfl rfl rfl rfl hh
    obtain ⟨n, hh⟩ := rn_i rfl rfl rfl rfl hh
    obtain ⟨n, hh⟩ := rn_i rfl rfl rfl rfl hh
    obtain ⟨n, hh⟩ := rn_i rfl rfl rfl rfl hh
    obtain ⟨n, hh⟩ := rn_i rfl rfl rfl rfl hh
    have hh : pm_run PT n fr lo 249 (26, [some (.ref 162), some (.int (nI 0)), some (.int (Int32.ofInt (-1))), some (.int (nI 0)), none, none], [], fset (fset h 162 0 (.int (nI 0))) 162 1 (.int (nI 0)), 198, sl) = some R := hh
    obtain ⟨n, u5, u3, u4, hc6, hf7, hh⟩ := v249_26_ok  (i := 0) (x1 := (nI 0)) (x2 := (Int32.ofInt (-1))) (o4 := none) (o5 := none) (j := cc) (by omega) (by omega) (hc_f rfl rfl (by decide) rfl (hc_f rfl rfl (by decide) rfl hw)) hh
    have hh : pm_run PT n fr lo 249 (124, [some (.ref 162), some (.int ((v249_26 q cc gc cc 0 ((nI 0), (Int32.ofInt (-1)), fset (fset h 162 0 (.int (nI 0))) 162 1 (.int (nI 0)))).1)), some (.int ((v249_26 q cc gc cc 0 ((nI 0), (Int32.ofInt (-1)), fset (fset h 162 0 (.int (nI 0))) 162 1 (.int (nI 0)))).2.1)), u5, u3, u4], [], (v249_26 q cc gc cc 0 ((nI 0), (Int32.ofInt (-1)), fset (fset h 162 0 (.int (nI 0))) 162 1 (.int (nI 0)))).2.2, 198, sl) = some R := hh
    obtain ⟨n, hh⟩ := rn_i rfl rfl rfl rfl hh
    obtain ⟨n, hh⟩ := rn_i rfl rfl rfl rfl hh
    obtain ⟨n, hh⟩ := rn_i rfl rfl rfl rfl hh
    have hh : pm_run PT n fr lo 249 (127, [some (.ref 162), some (.int ((v249_26 q cc gc cc 0 ((nI 0), (Int32.ofInt (-1)), fset (fset h 162 0 (.int (nI 0))) 162 1 (.int (nI 0)))).1)), some (.int ((v249_26 q cc gc cc 0 ((nI 0), (Int32.ofInt (-1)), fset (fset h 162 0 (.int (nI 0))) 162 1 (.int (nI 0)))).2.1)), u5, u3, u4], [.int ((v249_26 q cc gc cc 0 ((nI 0), (Int32.ofInt (-1)), fset (fset h 162 0 (.int (nI 0))) 162 1 (.int (nI 0)))).2.1), .ref 162, .ref 162], (v249_26 q cc gc cc 0 ((nI 0), (Int32.ofInt (-1)), fset (fset h 162 0 (.int (nI 0))) 162 1 (.int (nI 0)))).2.2, 198, sl) = some R := hh
    obtain ⟨n, fr1, lo1, r1, hh1, hh⟩ := rn_call (w := 0) (t := 248) rfl rfl hh
    have er8 := v248i_ok (c := ((v249_26 q cc gc cc 0 ((nI 0), (Int32.ofInt (-1)), fset (fset h 162 0 (.int (nI 0))) 162 1 (.int (nI 0)))).2.1)) hc6 hh1
    rw [show Ar ((v249_26 q cc gc cc 0 ((nI 0), (Int32.ofInt (-1)), fset (fset h 162 0 (.int (nI 0))) 162 1 (.int (nI 0)))).2.2) 170 = Ar h 170 from ((Ar_e (hf7.1 170 rfl)).trans (Ar_f.trans (Ar_f.trans rfl)))] at er8
    subst er8
    obtain ⟨n, hh⟩ := rn_i rfl rfl rfl rfl hh
    have hh : pm_run PT n fr lo 249 (131, [some (.ref 162), some (.int ((v249_26 q cc gc cc 0 ((nI 0), (Int32.ofInt (-1)), fset (fset h 162 0 (.int (nI 0))) 162 1 (.int (nI 0)))).1)), some (.int ((v249_26 q cc gc cc 0 ((nI 0), (Int32.ofInt (-1)), fset (fset h 162 0 (.int (nI 0))) 162 1 (.int (nI 0)))).2.1)), u5, u3, u4], [.long ((v248i q cc gc (Ar h 170) ((v249_26 q cc gc cc 0 ((nI 0), (Int32.ofInt (-1)), fset (fset h 162 0 (.int (nI 0))) 162 1 (.int (nI 0)))).2.1)).toInt64), .ref 162], (v249_26 q cc gc cc 0 ((nI 0), (Int32.ofInt (-1)), fset (fset h 162 0 (.int (nI 0))) 162 1 (.int (nI 0)))).2.2, 198, sl) = some R := hh
    obtain ⟨n, fr1, lo1, r1, hh1, hh⟩ := rn_call (w := 0) (t := 167) rfl rfl hh
    obtain ⟨er9, hc10, hf11⟩ := v167_ok (v := ((v248i q cc gc (Ar h 170) ((v249_26 q cc gc cc 0 ((nI 0), (Int32.ofInt (-1)), fset (fset h 162 0 (.int (nI 0))) 162 1 (.int (nI 0)))).2.1)).toInt64)) hc6 hh1
    subst er9
    obtain ⟨n, hh⟩ := rn_i rfl rfl rfl rfl hh
    have hh : pm_run PT n fr lo 249 (135, [some (.ref 162), some (.int ((v249_26 q cc gc cc 0 ((nI 0), (Int32.ofInt (-1)), fset (fset h 162 0 (.int (nI 0))) 162 1 (.int (nI 0)))).1)), some (.int ((v249_26 q cc gc cc 0 ((nI 0), (Int32.ofInt (-1)), fset (fset h 162 0 (.int (nI 0))) 162 1 (.int (nI 0)))).2.1)), u5, u3, u4], [.int ((v249_26 q cc gc cc 0 ((nI 0), (Int32.ofInt (-1)), fset (fset h 162 0 (.int (nI 0))) 162 1 (.int (nI 0)))).2.1)], v167 q cc gc ((v249_26 q cc gc cc 0 ((nI 0), (Int32.ofInt (-1)), fset (fset h 162 0 (.int (nI 0))) 162 1 (.int (nI 0)))).2.2) ((v248i q cc gc (Ar h 170) ((v249_26 q cc gc cc 0 ((nI 0), (Int32.ofInt (-1)), fset (fset h 162 0 (.int (nI 0))) 162 1 (.int (nI 0)))).2.1)).toInt64), 198, sl) = some R := hh
    have er12 : R = (some (.int ((v249_26 q cc gc cc 0 ((nI 0), (Int32.ofInt (-1)), fset (fset h 162 0 (.int (nI 0))) 162 1 (.int (nI 0)))).2.1)), v167 q cc gc ((v249_26 q cc gc cc 0 ((nI 0), (Int32.ofInt (-1)), fset (fset h 162 0 (.int (nI 0))) 162 1 (.int (nI 0)))).2.2) ((v248i q cc gc (Ar h 170) ((v249_26 q cc gc cc 0 ((nI 0), (Int32.ofInt (-1)), fset (fset h 162 0 (.int (nI 0))) 162 1 (.int (nI 0)))).2.1)).toInt64), 198, sl) := (rn_ret rfl (Or.inl rfl) hh).2
    have ed : v249 q cc gc h = ((v249_26 q cc gc cc 0 ((nI 0), (Int32.ofInt (-1)), fset (fset h 162 0 (.int (nI 0))) 162 1 (.int (nI 0)))).2.1, v167 q cc gc ((v249_26 q cc gc cc 0 ((nI 0), (Int32.ofInt (-1)), fset (fset h 162 0 (.int (nI 0))) 162 1 (.int (nI 0)))).2.2) ((v248i q cc gc (Ar h 170) ((v249_26 q cc gc cc 0 ((nI 0), (Int32.ofInt (-1)), fset (fset h 162 0 (.int (nI 0))) 162 1 (.int (nI 0)))).2.1)).toInt64)) := (ct z1).trans rfl
    refine ⟨?_, ?_, ?_⟩ <;> rw [ed]
    · exact er12
    · exact hc10
    · exact (fr_g rfl rfl hf11 (fr_g rfl rfl hf7 (fr_f rfl rfl (fr_f rfl rfl fr_0))))
  | false =>
    have hh := en_f z1 hh
    have hh : pm_run PT n fr lo 249 (12, [some (.ref 162), none, none, none, none, none], [], fset h 162 0 (.int (nI 0)), 198, sl) = some R := hh
    have y13 := of_decide_eq_false z1
    obtain ⟨n, hh⟩ := rn_i rfl rfl rfl rfl hh
    have hh : pm_run PT n fr lo 249 (14, [some (.ref 162), none, none, none, none, none], [.int (Int32.ofInt (-2))], fset h 162 0 (.int (nI 0)), 198, sl) = some R := hh
    have er14 : R = (some (.int (Int32.ofInt (-2))), fset h 162 0 (.int (nI 0)), 198, sl) := (rn_ret rfl (Or.inl rfl) hh).2
    have ed : v249 q cc gc h = ((Int32.ofInt (-2)), fset h 162 0 (.int (nI 0))) := (cf z1).trans rfl
    refine ⟨?_, ?_, ?_⟩ <;> rw [ed]
    · exact er14
    · exact (hc_f rfl rfl (by decide) rfl hw)
    · exact (fr_f rfl rfl fr_0)
theorem v249_fr {cc gc : Nat} {q : QT} {h : pm_H} (hw : HC q cc gc h) : HC q cc gc ((v249 q cc gc h).2) ∧ frm [162, 163] [(162, 0), (162, 1)] h ((v249 q cc gc h).2) := by
  unfold v249
  refine cd_s (P := fun (p : Int32 × pm_H) => HC q cc gc ((p).2) ∧ frm [162, 163] [(162, 0), (162, 1)] h ((p).2)) (b := decide (¬ cc = 0)) (fun _ => ?_) (fun _ => ?_)
  · show HC q cc gc (v167 q cc gc ((v249_26 q cc gc cc 0 ((nI 0), (Int32.ofInt (-1)), fset (fset h 162 0 (.int (nI 0))) 162 1 (.int (nI 0)))).2.2) ((v248i q cc gc (Ar h 170) ((v249_26 q cc gc cc 0 ((nI 0), (Int32.ofInt (-1)), fset (fset h 162 0 (.int (nI 0))) 162 1 (.int (nI 0)))).2.1)).toInt64)) ∧ frm [162, 163] [(162, 0), (162, 1)] h (v167 q cc gc ((v249_26 q cc gc cc 0 ((nI 0), (Int32.ofInt (-1)), fset (fset h 162 0 (.int (nI 0))) 162 1 (.int (nI 0)))).2.2) ((v248i q cc gc (Ar h 170) ((v249_26 q cc gc cc 0 ((nI 0), (Int32.ofInt (-1)), fset (fset h 162 0 (.int (nI 0))) 162 1 (.int (nI 0)))).2.1)).toInt64))
    exact ⟨(v167_fr (v := ((v248i q cc gc (Ar h 170) ((v249_26 q cc gc cc 0 ((nI 0), (Int32.ofInt (-1)), fset (fset h 162 0 (.int (nI 0))) 162 1 (.int (nI 0)))).2.1)).toInt64)) (v249_26_fr (j := cc) (i := 0) (x1 := (nI 0)) (x2 := (Int32.ofInt (-1))) (hc_f rfl rfl (by decide) rfl (hc_f rfl rfl (by decide) rfl hw))).1).1, (fr_g rfl rfl (v167_fr (v := ((v248i q cc gc (Ar h 170) ((v249_26 q cc gc cc 0 ((nI 0), (Int32.ofInt (-1)), fset (fset h 162 0 (.int (nI 0))) 162 1 (.int (nI 0)))).2.1)).toInt64)) (v249_26_fr (j := cc) (i := 0) (x1 := (nI 0)) (x2 := (Int32.ofInt (-1))) (hc_f rfl rfl (by decide) rfl (hc_f rfl rfl (by decide) rfl hw))).1).2 (fr_g rfl rfl (v249_26_fr (j := cc) (i := 0) (x1 := (nI 0)) (x2 := (Int32.ofInt (-1))) (hc_f rfl rfl (by decide) rfl (hc_f rfl rfl (by decide) rfl hw))).2 (fr_f rfl rfl (fr_f rfl rfl fr_0))))⟩
  · show HC q cc gc (fset h 162 0 (.int (nI 0))) ∧ frm [162, 163] [(162, 0), (162, 1)] h (fset h 162 0 (.int (nI 0)))
    exact ⟨(hc_f rfl rfl (by decide) rfl hw), (fr_f rfl rfl fr_0)⟩
def v255_14b (q : QT) (cc gc : Nat) (d0 : Nat → Int32) (u : Nat) (t1 : Int32) (i : Nat) (x2 : Int32) : Int32 := x2 + (cond (v164 q cc gc t1 (nI i)) ((d0) i) (nI 0))
def v255_14 (q : QT) (cc gc : Nat) (d0 : Nat → Int32) (u : Nat) (t1 : Int32) (j i : Nat) (a : Int32) : Int32 := lp (fun i a => v255_14b q cc gc d0 u t1 i a) j i a
theorem v255_14_e {n fr lo sl cc gc : Nat} {q : QT} {h : pm_H} {R : pm_Rs} {u : Nat} {t1 : Int32} {i : Nat} {x2 : Int32} (hw : HC q cc gc h) (hu : u ≤ 12) (e1 : Fi h 162 47 = nI u) (hi : gc ≤ i) (hI : i < 1000000) (hh : pm_run PT n fr lo 255 (14, [some (.ref 162), some (.int t1), some (.int x2), some (.int (nI i))], [], h, 198, sl) = some R) : ∃ m, pm_run PT m fr lo 255 (49, [some (.ref 162), some (.int t1), some (.int x2), some (.int (nI i))], [], h, 198, sl) = some R := by
  have hcc := hw.cb
  have hgc := hw.gb
  have hzr := hw.zr
  obtain ⟨n, hh⟩ := rn_i rfl rfl rfl rfl hh
  obtain ⟨n, hh⟩ := rn_i rfl rfl rfl rfl hh
  have hh : pm_run PT n fr lo 255 (16, [some (.ref 162), some (.int t1), some (.int x2), some (.int (nI i))], [.ref 162, .int (nI i)], h, 198, sl) = some R := hh
  obtain ⟨n, hh⟩ := rn_gi (x := nI gc) hw.wt rfl rfl (by decide) rfl (by decide) rfl hw.m4 hh
  have hh : pm_run PT n fr lo 255 (19, [some (.ref 162), some (.int t1), some (.int x2), some (.int (nI i))], [.int (nI gc), .int (nI i)], h, 198, sl) = some R := hh
  obtain ⟨n, hh⟩ := en_cn (cc := .ge) (off := 30) (t := 49) (b := decide (gc ≤ i)) (hI_ge (by omega) (by omega)) rfl rfl hh
  have hh := en_t (show decide (gc ≤ i) = true from decide_eq_true (by omega)) hh
  have hh : pm_run PT n fr lo 255 (49, [some (.ref 162), some (.int t1), some (.int x2), some (.int (nI i))], [], h, 198, sl) = some R := hh
  exact ⟨n, hh⟩
theorem v255_14_s {n fr lo sl cc gc : Nat} {q : QT} {h : pm_H} {R : pm_Rs} {u : Nat} {t1 : Int32} {i : Nat} {x2 : Int32} (hw : HC q cc gc h) (hu : u ≤ 12) (e1 : Fi h 162 47 = nI u) (hi : i < gc) (hI : i < 1000000) (hh : pm_run PT n fr lo 255 (14, [some (.ref 162), some (.int t1), some (.int x2), some (.int (nI i))], [], h, 198, sl) = some R) : ∃ m, pm_run PT m fr lo 255 (14, [some (.ref 162), some (.int t1), some (.int (v255_14b q cc gc (Ar h 167) u t1 i x2)), some (.int (nI (i + 1)))], [], h, 198, sl) = some R := by
  have hcc := hw.cb
  have hgc := hw.gb
  have hzr := hw.zr
  obtain ⟨n, hh⟩ := rn_i rfl rfl rfl rfl hh
  obtain ⟨n, hh⟩ := rn_i rfl rfl rfl rfl hh
  have hh : pm_run PT n fr lo 255 (16, [some (.ref 162), some (.int t1), some (.int x2), some (.int (nI i))], [.ref 162, .int (nI i)], h, 198, sl) = some R := hh
  obtain ⟨n, hh⟩ := rn_gi (x := nI gc) hw.wt rfl rfl (by decide) rfl (by decide) rfl hw.m4 hh
  have hh : pm_run PT n fr lo 255 (19, [some (.ref 162), some (.int t1), some (.int x2), some (.int (nI i))], [.int (nI gc), .int (nI i)], h, 198, sl) = some R := hh
  obtain ⟨n, hh⟩ := en_cn (cc := .ge) (off := 30) (t := 49) (b := decide (gc ≤ i)) (hI_ge (by omega) (by omega)) rfl rfl hh
  have hh := en_f (show decide (gc ≤ i) = false from decide_eq_false (by omega)) hh
  have hh : pm_run PT n fr lo 255 (22, [some (.ref 162), some (.int t1), some (.int x2), some (.int (nI i))], [], h, 198, sl) = some R := hh
  obtain ⟨n, hh⟩ := rn_i rfl rfl rfl rfl hh
  obtain ⟨n, hh⟩ := rn_i rfl rfl rfl rfl hh
  obtain ⟨n, hh⟩ := rn_i rfl rfl rfl rfl hh
  have hh : pm_run PT n fr lo 255 (25, [some (.ref 162), some (.int t1), some (.int x2), some (.int (nI i))], [.int (nI i), .int t1, .int x2], h, 198, sl) = some R := hh
  obtain ⟨n, fr1, lo1, r1, hh1, hh⟩ := rn_call (w := 2) (t := 164) rfl rfl hh
  have er2 := v164_ok (a := t1) (b := (nI i)) hw hh1
  subst er2
  have hh : pm_run PT n fr lo 255 (28, [some (.ref 162), some (.int t1), some (.int x2), some (.int (nI i))], [.int (cond (v164 q cc gc t1 (nI i)) 1 0), .int x2], h, 198, sl) = some R := hh
  obtain ⟨n, hh⟩ := en_zn (cc := .eq) (off := 12) (t := 40) (b := !(v164 q cc gc t1 (nI i))) eb_eq rfl rfl hh
  have hj5 : ∃ mJ, pm_run PT mJ fr lo 255 (cond (v164 q cc gc t1 (nI i)) (41, [some (.ref 162), some (.int t1), some (.int x2), some (.int (nI i))], [.int ((Ar h 167) i), .int x2], h, 198, sl) (41, [some (.ref 162), some (.int t1), some (.int x2), some (.int (nI i))], [.int (nI 0), .int x2], h, 198, sl)) = some R := en_J (fun z3 => by
      have hh := en_nt z3 hh
      have hh : pm_run PT n fr lo 255 (31, [some (.ref 162), some (.int t1), some (.int x2), some (.int (nI i))], [.int x2], h, 198, sl) = some R := hh
      obtain ⟨n, hh⟩ := rn_i rfl rfl rfl rfl hh
      have hh : pm_run PT n fr lo 255 (32, [some (.ref 162), some (.int t1), some (.int x2), some (.int (nI i))], [.ref 162, .int x2], h, 198, sl) = some R := hh
      obtain ⟨n, hh⟩ := rn_gr hw.wt rfl rfl (by decide) rfl (by decide) (show _ = some (2, ((167 : Nat) : Int), 1) from rfl) rfl hh
      obtain ⟨n, hh⟩ := rn_i rfl rfl rfl rfl hh
      have hh : pm_run PT n fr lo 255 (36, [some (.ref 162), some (.int t1), some (.int x2), some (.int (nI i))], [.int (nI i), .ref 167, .int x2], h, 198, sl) = some R := hh
      obtain ⟨n, hx4, hh⟩ := en_lu (t := i) (f := Ar h 167) (w := (Ar h 167) i) (nI_clamp (by omega)) hw.wt rfl (by decide) rfl (by decide) rfl (fun _ => rfl) hh
      obtain ⟨n, hh⟩ := rn_i rfl rfl rfl rfl hh
      exact ⟨n, hh⟩) (fun z3 => by
      have hh := en_nf z3 hh
      have hh : pm_run PT n fr lo 255 (40, [some (.ref 162), some (.int t1), some (.int x2), some (.int (nI i))], [.int x2], h, 198, sl) = some R := hh
      obtain ⟨n, hh⟩ := rn_i rfl rfl rfl rfl hh
      exact ⟨n, hh⟩)
  obtain ⟨n, hh⟩ := hj5
  rw [show (cond (v164 q cc gc t1 (nI i)) (41, [some (.ref 162), some (.int t1), some (.int x2), some (.int (nI i))], [.int ((Ar h 167) i), .int x2], h, 198, sl) (41, [some (.ref 162), some (.int t1), some (.int x2), some (.int (nI i))], [.int (nI 0), .int x2], h, 198, sl) : pm_St) = (41, [some (.ref 162), some (.int t1), some (.int x2), some (.int (nI i))], [.int (cond (v164 q cc gc t1 (nI i)) ((Ar h 167) i) (nI 0)), .int x2], h, 198, sl) from by cases (v164 q cc gc t1 (nI i)) <;> rfl] at hh
  obtain ⟨n, hh⟩ := rn_i rfl rfl rfl rfl hh
  obtain ⟨n, hh⟩ := rn_i rfl rfl rfl rfl hh
  have hh : pm_run PT n fr lo 255 (43, [some (.ref 162), some (.int t1), some (.int (x2 + (cond (v164 q cc gc t1 (nI i)) ((Ar h 167) i) (nI 0)))), some (.int (nI i))], [], h, 198, sl) = some R := hh
  obtain ⟨n, hh⟩ := en_inc (x := i) (c := 1) (j := 3) rfl rfl (by decide) hh
  have hh : pm_run PT n fr lo 255 (46, [some (.ref 162), some (.int t1), some (.int (x2 + (cond (v164 q cc gc t1 (nI i)) ((Ar h 167) i) (nI 0)))), some (.int (nI (i + 1)))], [], h, 198, sl) = some R := hh
  obtain ⟨n, hh⟩ := rn_i rfl rfl rfl rfl hh
  have ed : v255_14b q cc gc (Ar h 167) u t1 i x2 = x2 + (cond (v164 q cc gc t1 (nI i)) ((Ar h 167) i) (nI 0)) := rfl
  rw [ed]
  exact ⟨n, hh⟩
theorem v255_14_ok {fr lo sl cc gc : Nat} {q : QT} {R : pm_Rs} {u : Nat} {t1 : Int32} : ∀ {j i : Nat} {x2 : Int32} {h : pm_H} {n : Nat}, gc - i = j → i + j < 1000000 → HC q cc gc h → u ≤ 12 → Fi h 162 47 = nI u → pm_run PT n fr lo 255 (14, [some (.ref 162), some (.int t1), some (.int x2), some (.int (nI i))], [], h, 198, sl) = some R → ∃ m wc, pm_run PT m fr lo 255 (49, [some (.ref 162), some (.int t1), some (.int (v255_14 q cc gc (Ar h 167) u t1 j i x2)), wc], [], h, 198, sl) = some R := by
  intro j
  induction j with
  | zero =>
    intro i x2 h n e eI hw hu e1 hh
    obtain ⟨n, hh⟩ := v255_14_e hw hu e1 (by omega) (by omega) hh
    exact ⟨n, _, hh⟩
  | succ j ih =>
    intro i x2 h n e eI hw hu e1 hh
    obtain ⟨n, hh⟩ := v255_14_s hw hu e1 (by omega) (by omega) hh
    obtain ⟨n, wc, hh⟩ := ih (by omega) (by omega) hw hu e1 hh
    exact ⟨n, wc, hh⟩
def v255 (q : QT) (cc gc : Nat) (h : pm_H) (u : Nat) : Int32 × pm_H := (v254 q cc gc (Ar h 166) (Ar h 167) (Ar h 170) (Ar h 191) (Ar h 192) u, v167 q cc gc (v167 q cc gc (fset (fset h 162 0 (.int (nI 0))) 162 1 (.int (nI 0))) ((v270 q cc gc (v254 q cc gc (Ar h 166) (Ar h 167) (Ar h 170) (Ar h 191) (Ar h 192) u)).toInt64)) (((v255_14 q cc gc (Ar h 167) u (v254 q cc gc (Ar h 166) (Ar h 167) (Ar h 170) (Ar h 191) (Ar h 192) u) gc 0 (nI 0))).toInt64))
theorem v255_ok {n fr lo sl cc gc : Nat} {q : QT} {h : pm_H} {R : pm_Rs} {u : Nat} (hw : HC q cc gc h) (hu : u ≤ 12) (e1 : Fi h 162 47 = nI u) (hh : pm_run PT n fr lo 255 (0, pm_l0 [.ref 162] 4, [], h, 198, sl) = some R) : R = (some (.int ((v255 q cc gc h u).1)), (v255 q cc gc h u).2, 198, sl) ∧ HC q cc gc ((v255 q cc gc h u).2) ∧ frm [162, 163] [(162, 0), (162, 1)] h ((v255 q cc gc h u).2) := by
  have hcc := hw.cb
  have hgc := hw.gb
  have hzr := hw.zr
  obtain ⟨n, hh⟩ := rn_i rfl rfl rfl rfl hh
  obtain ⟨n, hh⟩ := rn_i rfl rfl rfl rfl hh
  have hh : pm_run PT n fr lo 255 (2, [some (.ref 162), none, none, none], [.int (nI 0), .ref 162], h, 198, sl) = some R := hh
  obtain ⟨n, hh⟩ := rn_pi hw.wt rfl rfl (by decide) rfl (by decide) rfl hh
  obtain ⟨n, hh⟩ := rn_i rfl rfl rfl rfl hh
  have hh : pm_run PT n fr lo 255 (6, [some (.ref 162), none, none, none], [.ref 162], fset h 162 0 (.int (nI 0)), 198, sl) = some R := hh
  obtain ⟨n, fr1, lo1, r1, hh1, hh⟩ := rn_call (w := 0) (t := 254) rfl rfl hh
  have er1 := v254_ok (u := u) (hc_f rfl rfl (by decide) rfl hw) hu ((Fi_n (Or.inr (by decide))).trans e1) hh1
  rw [show Ar (fset h 162 0 (.int (nI 0))) 166 = Ar h 166 from (Ar_f.trans rfl)] at er1
  rw [show Ar (fset h 162 0 (.int (nI 0))) 167 = Ar h 167 from (Ar_f.trans rfl)] at er1
  rw [show Ar (fset h 162 0 (.int (nI 0))) 170 = Ar h 170 from (Ar_f.trans rfl)] at er1
  rw [show Ar (fset h 162 0 (.int (nI 0))) 191 = Ar h 191 from (Ar_f.trans rfl)] at er1
  rw [show Ar (fset h 162 0 (.int (nI 0))) 192 = Ar h 192 from (Ar_f.trans rfl)] at er1
  subst er1
  obtain ⟨n, hh⟩ := rn_i rfl rfl rfl rfl hh
  obtain ⟨n, hh⟩ := rn_i rfl rfl rfl rfl hh
  obtain ⟨n, hh⟩ := rn_i rfl rfl rfl rfl hh
  obtain ⟨n, hh⟩ := rn_i rfl rfl rfl rfl hh
  obtain ⟨n, hh⟩ := rn_i rfl rfl rfl rfl hh
  have hh : pm_run PT n fr lo 255 (14, [some (.ref 162), some (.int (v254 q cc gc (Ar h 166) (Ar h 167) (Ar h 170) (Ar h 191) (Ar h 192) u)), some (.int (nI 0)), some (.int (nI 0))], [], fset h 162 0 (.int (nI 0)), 198, sl) = some R := hh
  have hl3 := v255_14_ok (t1 := (v254 q cc gc (Ar h 166) (Ar h 167) (Ar h 170) (Ar h 191) (Ar h 192) u))  (i := 0) (x2 := (nI 0)) (j := gc) (by omega) (by omega) (hc_f rfl rfl (by decide) rfl hw) hu ((Fi_n (Or.inr (by decide))).trans e1) hh
  rw [show Ar (fset h 162 0 (.int (nI 0))) 167 = Ar h 167 from (Ar_f.trans rfl)] at hl3
  obtain ⟨n, u2, hh⟩ := hl3
  have hh : pm_run PT n fr lo 255 (49, [some (.ref 162), some (.int (v254 q cc gc (Ar h 166) (Ar h 167) (Ar h 170) (Ar h 191) (Ar h 192) u)), some (.int (v255_14 q cc gc (Ar h 167) u (v254 q cc gc (Ar h 166) (Ar h 167) (Ar h 170) (Ar h 191) (Ar h 192) u) gc 0 (nI 0))), u2], [], fset h 162 0 (.int (nI 0)), 198, sl) = some R := hh
  obtain ⟨n, hh⟩ := rn_i rfl rfl rfl rfl hh
  obtain ⟨n, hh⟩ := rn_i rfl rfl rfl rfl hh
  have hh : pm_run PT n fr lo 255 (51, [some (.ref 162), some (.int (v254 q cc gc (Ar h 166) (Ar h 167) (Ar h 170) (Ar h 191) (Ar h 192) u)), some (.int (v255_14 q cc gc (Ar h 167) u (v254 q cc gc (Ar h 166) (Ar h 167) (Ar h 170) (Ar h 191) (Ar h 192) u) gc 0 (nI 0))), u2], [.int (nI 0), .ref 162], fset h 162 0 (.int (nI 0)), 198, sl) = some R := hh
  obtain ⟨n, hh⟩ := rn_pi (hc_f rfl rfl (by decide) rfl hw).wt rfl rfl (by decide) rfl (by decide) rfl hh
  obtain ⟨n, hh⟩ := rn_i rfl rfl rfl rfl hh
  obtain ⟨n, hh⟩ := rn_i rfl rfl rfl rfl hh
  have hh : pm_run PT n fr lo 255 (56, [some (.ref 162), some (.int (v254 q cc gc (Ar h 166) (Ar h 167) (Ar h 170) (Ar h 191) (Ar h 192) u)), some (.int (v255_14 q cc gc (Ar h 167) u (v254 q cc gc (Ar h 166) (Ar h 167) (Ar h 170) (Ar h 191) (Ar h 192) u) gc 0 (nI 0))), u2], [.int (v254 q cc gc (Ar h 166) (Ar h 167) (Ar h 170) (Ar h 191) (Ar h 192) u), .ref 162], fset (fset h 162 0 (.int (nI 0))) 162 1 (.int (nI 0)), 198, sl) = some R := hh
  obtain ⟨n, fr1, lo1, r1, hh1, hh⟩ := rn_call (w := 2) (t := 270) rfl rfl hh
  have er4 := v270_ok (a := (v254 q cc gc (Ar h 166) (Ar h 167) (Ar h 170) (Ar h 191) (Ar h 192) u)) (hc_f rfl rfl (by decide) rfl (hc_f rfl rfl (by decide) rfl hw)) hh1
  subst er4
  obtain ⟨n, hh⟩ := rn_i rfl rfl rfl rfl hh
  have hh : pm_run PT n fr lo 255 (60, [some (.ref 162), some (.int (v254 q cc gc (Ar h 166) (Ar h 167) (Ar h 170) (Ar h 191) (Ar h 192) u)), some (.int (v255_14 q cc gc (Ar h 167) u (v254 q cc gc (Ar h 166) (Ar h 167) (Ar h 170) (Ar h 191) (Ar h 192) u) gc 0 (nI 0))), u2], [.long ((v270 q cc gc (v254 q cc gc (Ar h 166) (Ar h 167) (Ar h 170) (Ar h 191) (Ar h 192) u)).toInt64), .ref 162], fset (fset h 162 0 (.int (nI 0))) 162 1 (.int (nI 0)), 198, sl) = some R := hh
  obtain ⟨n, fr1, lo1, r1, hh1, hh⟩ := rn_call (w := 0) (t := 167) rfl rfl hh
  obtain ⟨er5, hc6, hf7⟩ := v167_ok (v := ((v270 q cc gc (v254 q cc gc (Ar h 166) (Ar h 167) (Ar h 170) (Ar h 191) (Ar h 192) u)).toInt64)) (hc_f rfl rfl (by decide) rfl (hc_f rfl rfl (by decide) rfl hw)) hh1
  subst er5
  obtain ⟨n, hh⟩ := rn_i rfl rfl rfl rfl hh
  obtain ⟨n, hh⟩ := rn_i rfl rfl rfl rfl hh
  obtain ⟨n, hh⟩ := rn_i rfl rfl rfl rfl hh
  have hh : pm_run PT n fr lo 255 (66, [some (.ref 162), some (.int (v254 q cc gc (Ar h 166) (Ar h 167) (Ar h 170) (Ar h 191) (Ar h 192) u)), some (.int (v255_14 q cc gc (Ar h 167) u (v254 q cc gc (Ar h 166) (Ar h 167) (Ar h 170) (Ar h 191) (Ar h 192) u) gc 0 (nI 0))), u2], [.long (((v255_14 q cc gc (Ar h 167) u (v254 q cc gc (Ar h 166) (Ar h 167) (Ar h 170) (Ar h 191) (Ar h 192) u) gc 0 (nI 0))).toInt64), .ref 162], v167 q cc gc (fset (fset h 162 0 (.int (nI 0))) 162 1 (.int (nI 0))) ((v270 q cc gc (v254 q cc gc (Ar h 166) (Ar h 167) (Ar h 170) (Ar h 191) (Ar h 192) u)).toInt64), 198, sl) = some R := hh
  obtain ⟨n, fr1, lo1, r1, hh1, hh⟩ := rn_call (w := 0) (t := 167) rfl rfl hh
  obtain ⟨er8, hc9, hf10⟩ := v167_ok (v := (((v255_14 q cc gc (Ar h 167) u (v254 q cc gc (Ar h 166) (Ar h 167) (Ar h 170) (Ar h 191) (Ar h 192) u) gc 0 (nI 0))).toInt64)) hc6 hh1
  subst er8
  obtain ⟨n, hh⟩ := rn_i rfl rfl rfl rfl hh
  have hh : pm_run PT n fr lo 255 (70, [some (.ref 162), some (.int (v254 q cc gc (Ar h 166) (Ar h 167) (Ar h 170) (Ar h 191) (Ar h 192) u)), some (.int (v255_14 q cc gc (Ar h 167) u (v254 q cc gc (Ar h 166) (Ar h 167) (Ar h 170) (Ar h 191) (Ar h 192) u) gc 0 (nI 0))), u2], [.int (v254 q cc gc (Ar h 166) (Ar h 167) (Ar h 170) (Ar h 191) (Ar h 192) u)], v167 q cc gc (v167 q cc gc (fset (fset h 162 0 (.int (nI 0))) 162 1 (.int (nI 0))) ((v270 q cc gc (v254 q cc gc (Ar h 166) (Ar h 167) (Ar h 170) (Ar h 191) (Ar h 192) u)).toInt64)) (((v255_14 q cc gc (Ar h 167) u (v254 q cc gc (Ar h 166) (Ar h 167) (Ar h 170) (Ar h 191) (Ar h 192) u) gc 0 (nI 0))).toInt64), 198, sl) = some R := hh
  have er11 : R = (some (.int (v254 q cc gc (Ar h 166) (Ar h 167) (Ar h 170) (Ar h 191) (Ar h 192) u)), v167 q cc gc (v167 q cc gc (fset (fset h 162 0 (.int (nI 0))) 162 1 (.int (nI 0))) ((v270 q cc gc (v254 q cc gc (Ar h 166) (Ar h 167) (Ar h 170) (Ar h 191) (Ar h 192) u)).toInt64)) (((v255_14 q cc gc (Ar h 167) u (v254 q cc gc (Ar h 166) (Ar h 167) (Ar h 170) (Ar h 191) (Ar h 192) u) gc 0 (nI 0))).toInt64), 198, sl) := (rn_ret rfl (Or.inl rfl) hh).2
  have ed : v255 q cc gc h u = (v254 q cc gc (Ar h 166) (Ar h 167) (Ar h 170) (Ar h 191) (Ar h 192) u, v167 q cc gc (v167 q cc gc (fset (fset h 162 0 (.int (nI 0))) 162 1 (.int (nI 0))) ((v270 q cc gc (v254 q cc gc (Ar h 166) (Ar h 167) (Ar h 170) (Ar h 191) (Ar h 192) u)).toInt64)) (((v255_14 q cc gc (Ar h 167) u (v254 q cc gc (Ar h 166) (Ar h 167) (Ar h 170) (Ar h 191) (Ar h 192) u) gc 0 (nI 0))).toInt64)) := rfl
  refine ⟨?_, ?_, ?_⟩ <;> rw [ed]
  · exact er11
  · exact hc9
  · exact (fr_g rfl rfl hf10 (fr_g rfl rfl hf7 (fr_f rfl rfl (fr_f rfl rfl fr_0))))
theorem v255_fr {cc gc : Nat} {q : QT} {h : pm_H} {u : Nat} (hw : HC q cc gc h) (hu : u ≤ 12) : HC q cc gc ((v255 q cc gc h u).2) ∧ frm [162, 163] [(162, 0), (162, 1)] h ((v255 q cc gc h u).2) := by
  unfold v255
  show HC q cc gc (v167 q cc gc (v167 q cc gc (fset (fset h 162 0 (.int (nI 0))) 162 1 (.int (nI 0))) ((v270 q cc gc (v254 q cc gc (Ar h 166) (Ar h 167) (Ar h 170) (Ar h 191) (Ar h 192) u)).toInt64)) (((v255_14 q cc gc (Ar h 167) u (v254 q cc gc (Ar h 166) (Ar h 167) (Ar h 170) (Ar h 191) (Ar h 192) u) gc 0 (nI 0))).toInt64)) ∧ frm [162, 163] [(162, 0), (162, 1)] h (v167 q cc gc (v167 q cc gc (fset (fset h 162 0 (.int (nI 0))) 162 1 (.int (nI 0))) ((v270 q cc gc (v254 q cc gc (Ar h 166) (Ar h 167) (Ar h 170) (Ar h 191) (Ar h 192) u)).toInt64)) (((v255_14 q cc gc (Ar h 167) u (v254 q cc gc (Ar h 166) (Ar h 167) (Ar h 170) (Ar h 191) (Ar h 192) u) gc 0 (nI 0))).toInt64))
  exact ⟨(v167_fr (v := (((v255_14 q cc gc (Ar h 167) u (v254 q cc gc (Ar h 166) (Ar h 167) (Ar h 170) (Ar h 191) (Ar h 192) u) gc 0 (nI 0))).toInt64)) (v167_fr (v := ((v270 q cc gc (v254 q cc gc (Ar h 166) (Ar h 167) (Ar h 170) (Ar h 191) (Ar h 192) u)).toInt64)) (hc_f rfl rfl (by decide) rfl (hc_f rfl rfl (by decide) rfl hw))).1).1, (fr_g rfl rfl (v167_fr (v := (((v255_14 q cc gc (Ar h 167) u (v254 q cc gc (Ar h 166) (Ar h 167) (Ar h 170) (Ar h 191) (Ar h 192) u) gc 0 (nI 0))).toInt64)) (v167_fr (v := ((v270 q cc gc (v254 q cc gc (Ar h 166) (Ar h 167) (Ar h 170) (Ar h 191) (Ar h 192) u)).toInt64)) (hc_f rfl rfl (by decide) rfl (hc_f rfl rfl (by decide) rfl hw))).1).2 (fr_g rfl rfl (v167_fr (v := ((v270 q cc gc (v254 q cc gc (Ar h 166) (Ar h 167) (Ar h 170) (Ar h 191) (Ar h 192) u)).toInt64)) (hc_f rfl rfl (by decide) rfl (hc_f rfl rfl (by decide) rfl hw))).2 (fr_f rfl rfl (fr_f rfl rfl fr_0))))⟩
def v256_41b (q : QT) (cc gc : Nat) (d0 : Nat → Int32) (u : Nat) (t1 : Int32) (t2 : Int32) (t3 : Int32) (m4 : Nat) (i : Nat) (x5 : Int32) : Int32 := x5 + (cond (cond (v164 q cc gc t1 (nI i)) (cond (v164 q cc gc ((d0) (86 + i)) (nI m4)) true false) false) 1 0)
def v256_41 (q : QT) (cc gc : Nat) (d0 : Nat → Int32) (u : Nat) (t1 : Int32) (t2 : Int32) (t3 : Int32) (m4 : Nat) (j i : Nat) (a : Int32) : Int32 := lp (fun i a => v256_41b q cc gc d0 u t1 t2 t3 m4 i a) j i a
theorem v256_41_e {n fr lo sl cc gc : Nat} {q : QT} {h : pm_H} {R : pm_Rs} {u : Nat} {t1 : Int32} {t2 : Int32} {t3 : Int32} {m4 : Nat} {i : Nat} {x5 : Int32} (hw : HC q cc gc h) (h_m4 : m4 < 10000) (hu : u ≤ 12) (e1 : Fi h 162 47 = nI u) (hi : gc ≤ i) (hI : i < 1000000) (hh : pm_run PT n fr lo 256 (41, [some (.ref 162), some (.int t1), some (.int t2), some (.int t3), some (.int (nI m4)), some (.int x5), some (.int (nI i))], [], h, 198, sl) = some R) : ∃ m, pm_run PT m fr lo 256 (96, [some (.ref 162), some (.int t1), some (.int t2), some (.int t3), some (.int (nI m4)), some (.int x5), some (.int (nI i))], [], h, 198, sl) = some R := by
  have hcc := hw.cb
  have hgc := hw.gb
  have hzr := hw.zr
  obtain ⟨n, hh⟩ := rn_i rfl rfl rfl rfl hh
  obtain ⟨n, hh⟩ := rn_i rfl rfl rfl rfl hh
  have hh : pm_run PT n fr lo 256 (44, [some (.ref 162), some (.int t1), some (.int t2), some (.int t3), some (.int (nI m4)), some (.int x5), some (.int (nI i))], [.ref 162, .int (nI i)], h, 198, sl) = some R := hh
  obtain ⟨n, hh⟩ := rn_gi (x := nI gc) hw.wt rfl rfl (by decide) rfl (by decide) rfl hw.m4 hh
  have hh : pm_run PT n fr lo 256 (47, [some (.ref 162), some (.int t1), some (.int t2), some (.int t3), some (.int (nI m4)), some (.int x5), some (.int (nI i))], [.int (nI gc), .int (nI i)], h, 198, sl) = some R := hh
  obtain ⟨n, hh⟩ := en_cn (cc := .ge) (off := 49) (t := 96) (b := decide (gc ≤ i)) (hI_ge (by omega) (by omega)) rfl rfl hh
  have hh := en_t (show decide (gc ≤ i) = true from decide_eq_true (by omega)) hh
  have hh : pm_run PT n fr lo 256 (96, [some (.ref 162), some (.int t1), some (.int t2), some (.int t3), some (.int (nI m4)), some (.int x5), some (.int (nI i))], [], h, 198, sl) = some R := hh
  exact ⟨n, hh⟩
theorem v256_41_s {n fr lo sl cc gc : Nat} {q : QT} {h : pm_H} {R : pm_Rs} {u : Nat} {t1 : Int32} {t2 : Int32} {t3 : Int32} {m4 : Nat} {i : Nat} {x5 : Int32} (hw : HC q cc gc h) (h_m4 : m4 < 10000) (hu : u ≤ 12) (e1 : Fi h 162 47 = nI u) (hi : i < gc) (hI : i < 1000000) (hh : pm_run PT n fr lo 256 (41, [some (.ref 162), some (.int t1), some (.int t2), some (.int t3), some (.int (nI m4)), some (.int x5), some (.int (nI i))], [], h, 198, sl) = some R) : ∃ m, pm_run PT m fr lo 256 (41, [some (.ref 162), some (.int t1), some (.int t2), some (.int t3), some (.int (nI m4)), some (.int (v256_41b q cc gc (Ar h 170) u t1 t2 t3 m4 i x5)), some (.int (nI (i + 1)))], [], h, 198, sl) = some R := by
  have hcc := hw.cb
  have hgc := hw.gb
  have hzr := hw.zr
  obtain ⟨n, hh⟩ := rn_i rfl rfl rfl rfl hh
  obtain ⟨n, hh⟩ := rn_i rfl rfl rfl rfl hh
  have hh : pm_run PT n fr lo 256 (44, [some (.ref 162), some (.int t1), some (.int t2), some (.int t3), some (.int (nI m4)), some (.int x5), some (.int (nI i))], [.ref 162, .int (nI i)], h, 198, sl) = some R := hh
  obtain ⟨n, hh⟩ := rn_gi (x := nI gc) hw.wt rfl rfl (by decide) rfl (by decide) rfl hw.m4 hh
  have hh : pm_run PT n fr lo 256 (47, [some (.ref 162), some (.int t1), some (.int t2), some (.int t3), some (.int (nI m4)), some (.int x5), some (.int (nI i))], [.int (nI gc), .int (nI i)], h, 198, sl) = some R := hh
  obtain ⟨n, hh⟩ := en_cn (cc := .ge) (off := 49) (t := 96) (b := decide (gc ≤ i)) (hI_ge (by omega) (by omega)) rfl rfl hh
  have hh := en_f (show decide (gc ≤ i) = false from decide_eq_false (by omega)) hh
  have hh : pm_run PT n fr lo 256 (50, [some (.ref 162), some (.int t1), some (.int t2), some (.int t3), some (.int (nI m4)), some (.int x5), some (.int (nI i))], [], h, 198, sl) = some R := hh
  obtain ⟨n, hh⟩ := rn_i rfl rfl rfl rfl hh
  obtain ⟨n, hh⟩ := rn_i rfl rfl rfl rfl hh
  obtain ⟨n, hh⟩ := rn_i rfl rfl rfl rfl hh
  have hh : pm_run PT n fr lo 256 (55, [some (.ref 162), some (.int t1), some (.int t2), some (.int t3), some (.int (nI m4)), some (.int x5), some (.int (nI i))], [.int (nI i), .int t1, .int x5], h, 198, sl) = some R := hh
  obtain ⟨n, fr1, lo1, r1, hh1, hh⟩ := rn_call (w := 2) (t := 164) rfl rfl hh
  have er3 := v164_ok (a := t1) (b := (nI i)) hw hh1
  subst er3
  have hh : pm_run PT n fr lo 256 (58, [some (.ref 162), some (.int t1), some (.int t2), some (.int t3), some (.int (nI m4)), some (.int x5), some (.int (nI i))], [.int (cond (v164 q cc gc t1 (nI i)) 1 0), .int x5], h, 198, sl) = some R := hh
  obtain ⟨n, hh⟩ := en_zn (cc := .eq) (off := 25) (t := 83) (b := !(v164 q cc gc t1 (nI i))) eb_eq rfl rfl hh
  have hj9 : ∃ mJ, pm_run PT mJ fr lo 256 (cond (v164 q cc gc t1 (nI i)) (84, [some (.ref 162), some (.int t1), some (.int t2), some (.int t3), some (.int (nI m4)), some (.int x5), some (.int (nI i))], [.int (cond (cond (v164 q cc gc ((Ar h 170) (86 + i)) (nI m4)) true false) 1 0), .int x5], h, 198, sl) (84, [some (.ref 162), some (.int t1), some (.int t2), some (.int t3), some (.int (nI m4)), some (.int x5), some (.int (nI i))], [.int (nI 0), .int x5], h, 198, sl)) = some R := en_J (fun z4 => by
      have hh := en_nt z4 hh
      have hh : pm_run PT n fr lo 256 (61, [some (.ref 162), some (.int t1), some (.int t2), some (.int t3), some (.int (nI m4)), some (.int x5), some (.int (nI i))], [.int x5], h, 198, sl) = some R := hh
      obtain ⟨n, hh⟩ := rn_i rfl rfl rfl rfl hh
      have hh : pm_run PT n fr lo 256 (62, [some (.ref 162), some (.int t1), some (.int t2), some (.int t3), some (.int (nI m4)), some (.int x5), some (.int (nI i))], [.ref 162, .int x5], h, 198, sl) = some R := hh
      obtain ⟨n, hh⟩ := rn_gr hw.wt rfl rfl (by decide) rfl (by decide) (show _ = some (2, ((170 : Nat) : Int), 1) from rfl) rfl hh
      obtain ⟨n, hh⟩ := rn_i rfl rfl rfl rfl hh
      obtain ⟨n, hh⟩ := rn_i rfl rfl rfl rfl hh
      have hh : pm_run PT n fr lo 256 (69, [some (.ref 162), some (.int t1), some (.int t2), some (.int t3), some (.int (nI m4)), some (.int x5), some (.int (nI i))], [.int (nI i), .int (nI 86), .ref 170, .int x5], h, 198, sl) = some R := hh
      obtain ⟨n, hh⟩ := en_add rfl hh
      have hh : pm_run PT n fr lo 256 (70, [some (.ref 162), some (.int t1), some (.int t2), some (.int t3), some (.int (nI m4)), some (.int x5), some (.int (nI i))], [.int (nI (86 + i)), .ref 170, .int x5], h, 198, sl) = some R := hh
      have hh : pm_run PT n fr lo 256 (70, [some (.ref 162), some (.int t1), some (.int t2), some (.int t3), some (.int (nI m4)), some (.int x5), some (.int (nI i))], [.int (nI (86 + i)), .ref 170, .int x5], h, 198, sl) = some R := hh
      obtain ⟨n, hx5, hh⟩ := en_lu (t := 86 + i) (f := Ar h 170) (w := (Ar h 170) (86 + i)) (nI_clamp (by omega)) hw.wt rfl (by decide) rfl (by decide) rfl (fun _ => rfl) hh
      obtain ⟨n, hh⟩ := rn_i rfl rfl rfl rfl hh
      have hh : pm_run PT n fr lo 256 (73, [some (.ref 162), some (.int t1), some (.int t2), some (.int t3), some (.int (nI m4)), some (.int x5), some (.int (nI i))], [.int (nI m4), .int ((Ar h 170) (86 + i)), .int x5], h, 198, sl) = some R := hh
      obtain ⟨n, fr1, lo1, r1, hh1, hh⟩ := rn_call (w := 2) (t := 164) rfl rfl hh
      have er6 := v164_ok (a := ((Ar h 170) (86 + i))) (b := (nI m4)) hw hh1
      subst er6
      have hh : pm_run PT n fr lo 256 (76, [some (.ref 162), some (.int t1), some (.int t2), some (.int t3), some (.int (nI m4)), some (.int x5), some (.int (nI i))], [.int (cond (v164 q cc gc ((Ar h 170) (86 + i)) (nI m4)) 1 0), .int x5], h, 198, sl) = some R := hh
      obtain ⟨n, hh⟩ := en_zn (cc := .eq) (off := 7) (t := 83) (b := !(v164 q cc gc ((Ar h 170) (86 + i)) (nI m4))) eb_eq rfl rfl hh
      have hj8 : ∃ mJ, pm_run PT mJ fr lo 256 (cond (v164 q cc gc ((Ar h 170) (86 + i)) (nI m4)) (84, [some (.ref 162), some (.int t1), some (.int t2), some (.int t3), some (.int (nI m4)), some (.int x5), some (.int (nI i))], [.int (nI 1), .int x5], h, 198, sl) (84, [some (.ref 162), some (.int t1), some (.int t2), some (.int t3), some (.int (nI m4)), some (.int x5), some (.int (nI i))], [.int (nI 0), .int x5], h, 198, sl)) = some R := en_J (fun z7 => by
          have hh := en_nt z7 hh
          have hh : pm_run PT n fr lo 256 (79, [some (.ref 162), some (.int t1), some (.int t2), some (.int t3), some (.int (nI m4)), some (.int x5), some (.int (nI i))], [.int x5], h, 198, sl) = some R := hh
          obtain ⟨n, hh⟩ := rn_i rfl rfl rfl rfl hh
          obtain ⟨n, hh⟩ := rn_i rfl rfl rfl rfl hh
          exact ⟨n, hh⟩) (fun z7 => by
          have hh := en_nf z7 hh
          have hh : pm_run PT n fr lo 256 (83, [some (.ref 162), some (.int t1), some (.int t2), some (.int t3), some (.int (nI m4)), some (.int x5), some (.int (nI i))], [.int x5], h, 198, sl) = some R := hh
          obtain ⟨n, hh⟩ := rn_i rfl rfl rfl rfl hh
          exact ⟨n, hh⟩)
      obtain ⟨n, hh⟩ := hj8
      rw [show (cond (v164 q cc gc ((Ar h 170) (86 + i)) (nI m4)) (84, [some (.ref 162), some (.int t1), some (.int t2), some (.int t3), some (.int (nI m4)), some (.int x5), some (.int (nI i))], [.int (nI 1), .int x5], h, 198, sl) (84, [some (.ref 162), some (.int t1), some (.int t2), some (.int t3), some (.int (nI m4)), some (.int x5), some (.int (nI i))], [.int (nI 0), .int x5], h, 198, sl) : pm_St) = (84, [some (.ref 162), some (.int t1), some (.int t2), some (.int t3), some (.int (nI m4)), some (.int x5), some (.int (nI i))], [.int (cond (cond (v164 q cc gc ((Ar h 170) (86 + i)) (nI m4)) true false) 1 0), .int x5], h, 198, sl) from by cases (v164 q cc gc ((Ar h 170) (86 + i)) (nI m4)) <;> rfl] at hh
      exact ⟨n, hh⟩) (fun z4 => by
      have hh := en_nf z4 hh
      have hh : pm_run PT n fr lo 256 (83, [some (.ref 162), some (.int t1), some (.int t2), some (.int t3), some (.int (nI m4)), some (.int x5), some (.int (nI i))], [.int x5], h, 198, sl) = some R := hh
      obtain ⟨n, hh⟩ := rn_i rfl rfl rfl rfl hh
      exact ⟨n, hh⟩)
  obtain ⟨n, hh⟩ := hj9
  rw [show (cond (v164 q cc gc t1 (nI i)) (84, [some (.ref 162), some (.int t1), some (.int t2), some (.int t3), some (.int (nI m4)), some (.int x5), some (.int (nI i))], [.int (cond (cond (v164 q cc gc ((Ar h 170) (86 + i)) (nI m4)) true false) 1 0), .int x5], h, 198, sl) (84, [some (.ref 162), some (.int t1), some (.int t2), some (.int t3), some (.int (nI m4)), some (.int x5), some (.int (nI i))], [.int (nI 0), .int x5], h, 198, sl) : pm_St) = (84, [some (.ref 162), some (.int t1), some (.int t2), some (.int t3), some (.int (nI m4)), some (.int x5), some (.int (nI i))], [.int (cond (cond (v164 q cc gc t1 (nI i)) (cond (v164 q cc gc ((Ar h 170) (86 + i)) (nI m4)) true false) false) 1 0), .int x5], h, 198, sl) from by cases (v164 q cc gc t1 (nI i)) <;> rfl] at hh
  have hh : pm_run PT n fr lo 256 (84, [some (.ref 162), some (.int t1), some (.int t2), some (.int t3), some (.int (nI m4)), some (.int x5), some (.int (nI i))], [.int (cond (cond (v164 q cc gc t1 (nI i)) (cond (v164 q cc gc ((Ar h 170) (86 + i)) (nI m4)) true false) false) 1 0), .int x5], h, 198, sl) = some R := hh
  obtain ⟨n, fr1, lo1, r1, hh1, hh⟩ := rn_call (w := 2) (t := 165) rfl rfl hh
  have er10 := rn_dt (F := 10) (Lo := 1000) (hd_flag (fr := 10) (lo := 1000) (h := h) (sl := sl) (cond (v164 q cc gc t1 (nI i)) (cond (v164 q cc gc ((Ar h 170) (86 + i)) (nI m4)) true false) false)) hh1
  subst er10
  obtain ⟨n, hh⟩ := rn_i rfl rfl rfl rfl hh
  obtain ⟨n, hh⟩ := rn_i rfl rfl rfl rfl hh
  have hh : pm_run PT n fr lo 256 (90, [some (.ref 162), some (.int t1), some (.int t2), some (.int t3), some (.int (nI m4)), some (.int (x5 + (cond (cond (v164 q cc gc t1 (nI i)) (cond (v164 q cc gc ((Ar h 170) (86 + i)) (nI m4)) true false) false) 1 0))), some (.int (nI i))], [], h, 198, sl) = some R := hh
  obtain ⟨n, hh⟩ := en_inc (x := i) (c := 1) (j := 6) rfl rfl (by decide) hh
  have hh : pm_run PT n fr lo 256 (93, [some (.ref 162), some (.int t1), some (.int t2), some (.int t3), some (.int (nI m4)), some (.int (x5 + (cond (cond (v164 q cc gc t1 (nI i)) (cond (v164 q cc gc ((Ar h 170) (86 + i)) (nI m4)) true false) false) 1 0))), some (.int (nI (i + 1)))], [], h, 198, sl) = some R := hh
  obtain ⟨n, hh⟩ := rn_i rfl rfl rfl rfl hh
  have ed : v256_41b q cc gc (Ar h 170) u t1 t2 t3 m4 i x5 = x5 + (cond (cond (v164 q cc gc t1 (nI i)) (cond (v164 q cc gc ((Ar h 170) (86 + i)) (nI m4)) true false) false) 1 0) := rfl
  rw [ed]
  exact ⟨n, hh⟩
theorem v256_41_ok {fr lo sl cc gc : Nat} {q : QT} {R : pm_Rs} {u : Nat} {t1 : Int32} {t2 : Int32} {t3 : Int32} {m4 : Nat} : ∀ {j i : Nat} {x5 : Int32} {h : pm_H} {n : Nat}, gc - i = j → i + j < 1000000 → HC q cc gc h → m4 < 10000 → u ≤ 12 → Fi h 162 47 = nI u → pm_run PT n fr lo 256 (41, [some (.ref 162), some (.int t1), some (.int t2), some (.int t3), some (.int (nI m4)), some (.int x5), some (.int (nI i))], [], h, 198, sl) = some R → ∃ m wc, pm_run PT m fr lo 256 (96, [some (.ref 162), some (.int t1), some (.int t2), some (.int t3), some (.int (nI m4)), some (.int (v256_41 q cc gc (Ar h 170) u t1 t2 t3 m4 j i x5)), wc], [], h, 198, sl) = some R := by
  intro j
  induction j with
  | zero =>
    intro i x5 h n e eI hw h_m4 hu e1 hh
    obtain ⟨n, hh⟩ := v256_41_e hw h_m4 hu e1 (by omega) (by omega) hh
    exact ⟨n, _, hh⟩
  | succ j ih =>
    intro i x5 h n e eI hw h_m4 hu e1 hh
    obtain ⟨n, hh⟩ := v256_41_s hw h_m4 hu e1 (by omega) (by omega) hh
    obtain ⟨n, wc, hh⟩ := ih (by omega) (by omega) hw h_m4 hu e1 hh
    exact ⟨n, wc, hh⟩
def v256_26b (q : QT) (cc gc : Nat) (d0 : Nat → Int32) (u : Nat) (t1 : Int32) (i : Nat) (x2 : Int32) (x3 : Int32) : Int32 × Int32 := (cond (pm_cmp .ge (imax (v256_41 q cc gc (d0) u t1 x2 x3 i gc 0 (nI 0)) ((v270 q cc gc t1) - (v256_41 q cc gc (d0) u t1 x2 x3 i gc 0 (nI 0)))) x3) x2 (nI i), imin x3 (imax (v256_41 q cc gc (d0) u t1 x2 x3 i gc 0 (nI 0)) ((v270 q cc gc t1) - (v256_41 q cc gc (d0) u t1 x2 x3 i gc 0 (nI 0)))))
def v256_26 (q : QT) (cc gc : Nat) (d0 : Nat → Int32) (u : Nat) (t1 : Int32) (j i : Nat) (a : Int32 × Int32) : Int32 × Int32 := lp (fun i a => v256_26b q cc gc d0 u t1 i a.1 a.2) j i a
theorem v256_26_e {n fr lo sl cc gc : Nat} {q : QT} {h : pm_H} {R : pm_Rs} {u : Nat} {t1 : Int32} {i : Nat} {x2 : Int32} {x3 : Int32} {o5 : Option Value} {o6 : Option Value} (hw : HC q cc gc h) (hu : u ≤ 12) (e1 : Fi h 162 47 = nI u) (hi : cc ≤ i) (hI : i < 1000000) (hh : pm_run PT n fr lo 256 (26, [some (.ref 162), some (.int t1), some (.int x2), some (.int x3), some (.int (nI i)), o5, o6], [], h, 198, sl) = some R) : ∃ m, pm_run PT m fr lo 256 (136, [some (.ref 162), some (.int t1), some (.int x2), some (.int x3), some (.int (nI i)), o5, o6], [], h, 198, sl) = some R := by
  have hcc := hw.cb
  have hgc := hw.gb
  have hzr := hw.zr
  obtain ⟨n, hh⟩ := rn_i rfl rfl rfl rfl hh
  obtain ⟨n, hh⟩ := rn_i rfl rfl rfl rfl hh
  have hh : pm_run PT n fr lo 256 (29, [some (.ref 162), some (.int t1), some (.int x2), some (.int x3), some (.int (nI i)), o5, o6], [.ref 162, .int (nI i)], h, 198, sl) = some R := hh
  obtain ⟨n, hh⟩ := rn_gi (x := nI cc) hw.wt rfl rfl (by decide) rfl (by decide) rfl hw.m3 hh
  have hh : pm_run PT n fr lo 256 (32, [some (.ref 162), some (.int t1), some (.int x2), some (.int x3), some (.int (nI i)), o5, o6], [.int (nI cc), .int (nI i)], h, 198, sl) = some R := hh
  obtain ⟨n, hh⟩ := en_cn (cc := .ge) (off := 104) (t := 136) (b := decide (cc ≤ i)) (hI_ge (by omega) (by omega)) rfl rfl hh
  have hh := en_t (show decide (cc ≤ i) = true from decide_eq_true (by omega)) hh
  have hh : pm_run PT n fr lo 256 (136, [some (.ref 162), some (.int t1), some (.int x2), some (.int x3), some (.int (nI i)), o5, o6], [], h, 198, sl) = some R := hh
  exact ⟨n, hh⟩
theorem v256_26_s {n fr lo sl cc gc : Nat} {q : QT} {h : pm_H} {R : pm_Rs} {u : Nat} {t1 : Int32} {i : Nat} {x2 : Int32} {x3 : Int32} {o5 : Option Value} {o6 : Option Value} (hw : HC q cc gc h) (hu : u ≤ 12) (e1 : Fi h 162 47 = nI u) (hi : i < cc) (hI : i < 1000000) (hh : pm_run PT n fr lo 256 (26, [some (.ref 162), some (.int t1), some (.int x2), some (.int x3), some (.int (nI i)), o5, o6], [], h, 198, sl) = some R) : ∃ m w5 w6, pm_run PT m fr lo 256 (26, [some (.ref 162), some (.int t1), some (.int ((v256_26b q cc gc (Ar h 170) u t1 i x2 x3).1)), some (.int ((v256_26b q cc gc (Ar h 170) u t1 i x2 x3).2)), some (.int (nI (i + 1))), w5, w6], [], h, 198, sl) = some R := by
  have hcc := hw.cb
  have hgc := hw.gb
  have hzr := hw.zr
  obtain ⟨n, hh⟩ := rn_i rfl rfl rfl rfl hh
  obtain ⟨n, hh⟩ := rn_i rfl rfl rfl rfl hh
  have hh : pm_run PT n fr lo 256 (29, [some (.ref 162), some (.int t1), some (.int x2), some (.int x3), some (.int (nI i)), o5, o6], [.ref 162, .int (nI i)], h, 198, sl) = some R := hh
  obtain ⟨n, hh⟩ := rn_gi (x := nI cc) hw.wt rfl rfl (by decide) rfl (by decide) rfl hw.m3 hh
  have hh : pm_run PT n fr lo 256 (32, [some (.ref 162), some (.int t1), some (.int x2), some (.int x3), some (.int (nI i)), o5, o6], [.int (nI cc), .int (nI i)], h, 198, sl) = some R := hh
  obtain ⟨n, hh⟩ := en_cn (cc := .ge) (off := 104) (t := 136) (b := decide (cc ≤ i)) (hI_ge (by omega) (by omega)) rfl rfl hh
  have hh := en_f (show decide (cc ≤ i) = false from decide_eq_false (by omega)) hh
  have hh : pm_run PT n fr lo 256 (35, [some (.ref 162), some (.int t1), some (.int x2), some (.int x3), some (.int (nI i)), o5, o6], [], h, 198, sl) = some R := hh
  obtain ⟨n, hh⟩ := rn_i rfl rfl rfl rfl hh
  obtain ⟨n, hh⟩ := rn_i rfl rfl rfl rfl hh
  obtain ⟨n, hh⟩ := rn_i rfl rfl rfl rfl hh
  obtain ⟨n, hh⟩ := rn_i rfl rfl rfl rfl hh
  have hh : pm_run PT n fr lo 256 (41, [some (.ref 162), some (.int t1), some (.int x2), some (.int x3), some (.int (nI i)), some (.int (nI 0)), some (.int (nI 0))], [], h, 198, sl) = some R := hh
  obtain ⟨n, u3, hh⟩ := v256_41_ok (t1 := t1) (t2 := x2) (t3 := x3) (m4 := i)  (i := 0) (x5 := (nI 0)) (j := gc) (by omega) (by omega) hw (by omega) hu e1 hh
  have hh : pm_run PT n fr lo 256 (96, [some (.ref 162), some (.int t1), some (.int x2), some (.int x3), some (.int (nI i)), some (.int (v256_41 q cc gc (Ar h 170) u t1 x2 x3 i gc 0 (nI 0))), u3], [], h, 198, sl) = some R := hh
  obtain ⟨n, hh⟩ := rn_i rfl rfl rfl rfl hh
  obtain ⟨n, hh⟩ := rn_i rfl rfl rfl rfl hh
  have hh : pm_run PT n fr lo 256 (99, [some (.ref 162), some (.int t1), some (.int x2), some (.int x3), some (.int (nI i)), some (.int (v256_41 q cc gc (Ar h 170) u t1 x2 x3 i gc 0 (nI 0))), u3], [.int t1, .int (v256_41 q cc gc (Ar h 170) u t1 x2 x3 i gc 0 (nI 0))], h, 198, sl) = some R := hh
  obtain ⟨n, fr1, lo1, r1, hh1, hh⟩ := rn_call (w := 2) (t := 270) rfl rfl hh
  have er4 := v270_ok (a := t1) hw hh1
  subst er4
  obtain ⟨n, hh⟩ := rn_i rfl rfl rfl rfl hh
  obtain ⟨n, hh⟩ := rn_i rfl rfl rfl rfl hh
  have hh : pm_run PT n fr lo 256 (105, [some (.ref 162), some (.int t1), some (.int x2), some (.int x3), some (.int (nI i)), some (.int (v256_41 q cc gc (Ar h 170) u t1 x2 x3 i gc 0 (nI 0))), u3], [.int ((v270 q cc gc t1) - (v256_41 q cc gc (Ar h 170) u t1 x2 x3 i gc 0 (nI 0))), .int (v256_41 q cc gc (Ar h 170) u t1 x2 x3 i gc 0 (nI 0))], h, 198, sl) = some R := hh
  obtain ⟨n, hh⟩ := en_max rfl rfl rfl hh
  obtain ⟨n, hh⟩ := rn_i rfl rfl rfl rfl hh
  obtain ⟨n, hh⟩ := rn_i rfl rfl rfl rfl hh
  obtain ⟨n, hh⟩ := rn_i rfl rfl rfl rfl hh
  have hh : pm_run PT n fr lo 256 (113, [some (.ref 162), some (.int t1), some (.int x2), some (.int x3), some (.int (nI i)), some (.int (v256_41 q cc gc (Ar h 170) u t1 x2 x3 i gc 0 (nI 0))), some (.int (imax (v256_41 q cc gc (Ar h 170) u t1 x2 x3 i gc 0 (nI 0)) ((v270 q cc gc t1) - (v256_41 q cc gc (Ar h 170) u t1 x2 x3 i gc 0 (nI 0)))))], [.int x3, .int (imax (v256_41 q cc gc (Ar h 170) u t1 x2 x3 i gc 0 (nI 0)) ((v270 q cc gc t1) - (v256_41 q cc gc (Ar h 170) u t1 x2 x3 i gc 0 (nI 0))))], h, 198, sl) = some R := hh
  obtain ⟨n, hh⟩ := en_cn (cc := .ge) (off := 8) (t := 121) (b := pm_cmp .ge (imax (v256_41 q cc gc (Ar h 170) u t1 x2 x3 i gc 0 (nI 0)) ((v270 q cc gc t1) - (v256_41 q cc gc (Ar h 170) u t1 x2 x3 i gc 0 (nI 0)))) x3) rfl rfl rfl hh
  have hj6 : ∃ mJ, pm_run PT mJ fr lo 256 (cond (pm_cmp .ge (imax (v256_41 q cc gc (Ar h 170) u t1 x2 x3 i gc 0 (nI 0)) ((v270 q cc gc t1) - (v256_41 q cc gc (Ar h 170) u t1 x2 x3 i gc 0 (nI 0)))) x3) (122, [some (.ref 162), some (.int t1), some (.int x2), some (.int x3), some (.int (nI i)), some (.int (v256_41 q cc gc (Ar h 170) u t1 x2 x3 i gc 0 (nI 0))), some (.int (imax (v256_41 q cc gc (Ar h 170) u t1 x2 x3 i gc 0 (nI 0)) ((v270 q cc gc t1) - (v256_41 q cc gc (Ar h 170) u t1 x2 x3 i gc 0 (nI 0)))))], [.int x2], h, 198, sl) (122, [some (.ref 162), some (.int t1), some (.int x2), some (.int x3), some (.int (nI i)), some (.int (v256_41 q cc gc (Ar h 170) u t1 x2 x3 i gc 0 (nI 0))), some (.int (imax (v256_41 q cc gc (Ar h 170) u t1 x2 x3 i gc 0 (nI 0)) ((v270 q cc gc t1) - (v256_41 q cc gc (Ar h 170) u t1 x2 x3 i gc 0 (nI 0)))))], [.int (nI i)], h, 198, sl)) = some R := en_J (fun z5 => by
      have hh := en_t z5 hh
      have hh : pm_run PT n fr lo 256 (121, [some (.ref 162), some (.int t1), some (.int x2), some (.int x3), some (.int (nI i)), some (.int (v256_41 q cc gc (Ar h 170) u t1 x2 x3 i gc 0 (nI 0))), some (.int (imax (v256_41 q cc gc (Ar h 170) u t1 x2 x3 i gc 0 (nI 0)) ((v270 q cc gc t1) - (v256_41 q cc gc (Ar h 170) u t1 x2 x3 i gc 0 (nI 0)))))], [], h, 198, sl) = some R := hh
      obtain ⟨n, hh⟩ := rn_i rfl rfl rfl rfl hh
      exact ⟨n, hh⟩) (fun z5 => by
      have hh := en_f z5 hh
      have hh : pm_run PT n fr lo 256 (116, [some (.ref 162), some (.int t1), some (.int x2), some (.int x3), some (.int (nI i)), some (.int (v256_41 q cc gc (Ar h 170) u t1 x2 x3 i gc 0 (nI 0))), some (.int (imax (v256_41 q cc gc (Ar h 170) u t1 x2 x3 i gc 0 (nI 0)) ((v270 q cc gc t1) - (v256_41 q cc gc (Ar h 170) u t1 x2 x3 i gc 0 (nI 0)))))], [], h, 198, sl) = some R := hh
      obtain ⟨n, hh⟩ := rn_i rfl rfl rfl rfl hh
      obtain ⟨n, hh⟩ := rn_i rfl rfl rfl rfl hh
      exact ⟨n, hh⟩)
  obtain ⟨n, hh⟩ := hj6
  rw [show (cond (pm_cmp .ge (imax (v256_41 q cc gc (Ar h 170) u t1 x2 x3 i gc 0 (nI 0)) ((v270 q cc gc t1) - (v256_41 q cc gc (Ar h 170) u t1 x2 x3 i gc 0 (nI 0)))) x3) (122, [some (.ref 162), some (.int t1), some (.int x2), some (.int x3), some (.int (nI i)), some (.int (v256_41 q cc gc (Ar h 170) u t1 x2 x3 i gc 0 (nI 0))), some (.int (imax (v256_41 q cc gc (Ar h 170) u t1 x2 x3 i gc 0 (nI 0)) ((v270 q cc gc t1) - (v256_41 q cc gc (Ar h 170) u t1 x2 x3 i gc 0 (nI 0)))))], [.int x2], h, 198, sl) (122, [some (.ref 162), some (.int t1), some (.int x2), some (.int x3), some (.int (nI i)), some (.int (v256_41 q cc gc (Ar h 170) u t1 x2 x3 i gc 0 (nI 0))), some (.int (imax (v256_41 q cc gc (Ar h 170) u t1 x2 x3 i gc 0 (nI 0)) ((v270 q cc gc t1) - (v256_41 q cc gc (Ar h 170) u t1 x2 x3 i gc 0 (nI 0)))))], [.int (nI i)], h, 198, sl) : pm_St) = (122, [some (.ref 162), some (.int t1), some (.int x2), some (.int x3), some (.int (nI i)), some (.int (v256_41 q cc gc (Ar h 170) u t1 x2 x3 i gc 0 (nI 0))), some (.int (imax (v256_41 q cc gc (Ar h 170) u t1 x2 x3 i gc 0 (nI 0)) ((v270 q cc gc t1) - (v256_41 q cc gc (Ar h 170) u t1 x2 x3 i gc 0 (nI 0)))))], [.int (cond (pm_cmp .ge (imax (v256_41 q cc gc (Ar h 170) u t1 x2 x3 i gc 0 (nI 0)) ((v270 q cc gc t1) - (v256_41 q cc gc (Ar h 170) u t1 x2 x3 i gc 0 (nI 0)))) x3) x2 (nI i))], h, 198, sl) from by cases (pm_cmp .ge (imax (v256_41 q cc gc (Ar h 170) u t1 x2 x3 i gc 0 (nI 0)) ((v270 q cc gc t1) - (v256_41 q cc gc (Ar h 170) u t1 x2 x3 i gc 0 (nI 0)))) x3) <;> rfl] at hh
  obtain ⟨n, hh⟩ := rn_i rfl rfl rfl rfl hh
  obtain ⟨n, hh⟩ := rn_i rfl rfl rfl rfl hh
  obtain ⟨n, hh⟩ := rn_i rfl rfl rfl rfl hh
  have hh : pm_run PT n fr lo 256 (126, [some (.ref 162), some (.int t1), some (.int (cond (pm_cmp .ge (imax (v256_41 q cc gc (Ar h 170) u t1 x2 x3 i gc 0 (nI 0)) ((v270 q cc gc t1) - (v256_41 q cc gc (Ar h 170) u t1 x2 x3 i gc 0 (nI 0)))) x3) x2 (nI i))), some (.int x3), some (.int (nI i)), some (.int (v256_41 q cc gc (Ar h 170) u t1 x2 x3 i gc 0 (nI 0))), some (.int (imax (v256_41 q cc gc (Ar h 170) u t1 x2 x3 i gc 0 (nI 0)) ((v270 q cc gc t1) - (v256_41 q cc gc (Ar h 170) u t1 x2 x3 i gc 0 (nI 0)))))], [.int (imax (v256_41 q cc gc (Ar h 170) u t1 x2 x3 i gc 0 (nI 0)) ((v270 q cc gc t1) - (v256_41 q cc gc (Ar h 170) u t1 x2 x3 i gc 0 (nI 0)))), .int x3], h, 198, sl) = some R := hh
  obtain ⟨n, hh⟩ := en_min rfl rfl rfl hh
  obtain ⟨n, hh⟩ := rn_i rfl rfl rfl rfl hh
  have hh : pm_run PT n fr lo 256 (130, [some (.ref 162), some (.int t1), some (.int (cond (pm_cmp .ge (imax (v256_41 q cc gc (Ar h 170) u t1 x2 x3 i gc 0 (nI 0)) ((v270 q cc gc t1) - (v256_41 q cc gc (Ar h 170) u t1 x2 x3 i gc 0 (nI 0)))) x3) x2 (nI i))), some (.int (imin x3 (imax (v256_41 q cc gc (Ar h 170) u t1 x2 x3 i gc 0 (nI 0)) ((v270 q cc gc t1) - (v256_41 q cc gc (Ar h 170) u t1 x2 x3 i gc 0 (nI 0)))))), some (.int (nI i)), some (.int (v256_41 q cc gc (Ar h 170) u t1 x2 x3 i gc 0 (nI 0))), some (.int (imax (v256_41 q cc gc (Ar h 170) u t1 x2 x3 i gc 0 (nI 0)) ((v270 q cc gc t1) - (v256_41 q cc gc (Ar h 170) u t1 x2 x3 i gc 0 (nI 0)))))], [], h, 198, sl) = some R := hh
  obtain ⟨n, hh⟩ := en_inc (x := i) (c := 1) (j := 4) rfl rfl (by decide) hh
  have hh : pm_run PT n fr lo 256 (133, [some (.ref 162), some (.int t1), some (.int (cond (pm_cmp .ge (imax (v256_41 q cc gc (Ar h 170) u t1 x2 x3 i gc 0 (nI 0)) ((v270 q cc gc t1) - (v256_41 q cc gc (Ar h 170) u t1 x2 x3 i gc 0 (nI 0)))) x3) x2 (nI i))), some (.int (imin x3 (imax (v256_41 q cc gc (Ar h 170) u t1 x2 x3 i gc 0 (nI 0)) ((v270 q cc gc t1) - (v256_41 q cc gc (Ar h 170) u t1 x2 x3 i gc 0 (nI 0)))))), some (.int (nI (i + 1))), some (.int (v256_41 q cc gc (Ar h 170) u t1 x2 x3 i gc 0 (nI 0))), some (.int (imax (v256_41 q cc gc (Ar h 170) u t1 x2 x3 i gc 0 (nI 0)) ((v270 q cc gc t1) - (v256_41 q cc gc (Ar h 170) u t1 x2 x3 i gc 0 (nI 0)))))], [], h, 198, sl) = some R := hh
  obtain ⟨n, hh⟩ := rn_i rfl rfl rfl rfl hh
  have ed : v256_26b q cc gc (Ar h 170) u t1 i x2 x3 = (cond (pm_cmp .ge (imax (v256_41 q cc gc (Ar h 170) u t1 x2 x3 i gc 0 (nI 0)) ((v270 q cc gc t1) - (v256_41 q cc gc (Ar h 170) u t1 x2 x3 i gc 0 (nI 0)))) x3) x2 (nI i), imin x3 (imax (v256_41 q cc gc (Ar h 170) u t1 x2 x3 i gc 0 (nI 0)) ((v270 q cc gc t1) - (v256_41 q cc gc (Ar h 170) u t1 x2 x3 i gc 0 (nI 0))))) := rfl
  rw [ed]
  exact ⟨n, some (.int (v256_41 q cc gc (Ar h 170) u t1 x2 x3 i gc 0 (nI 0))), some (.int (imax (v256_41 q cc gc (Ar h 170) u t1 x2 x3 i gc 0 (nI 0)) ((v270 q cc gc t1) - (v256_41 q cc gc (Ar h 170) u t1 x2 x3 i gc 0 (nI 0))))), hh⟩
theorem v256_26_ok {fr lo sl cc gc : Nat} {q : QT} {R : pm_Rs} {u : Nat} {t1 : Int32} : ∀ {j i : Nat} {x2 : Int32} {x3 : Int32} {o5 : Option Value} {o6 : Option Value} {h : pm_H} {n : Nat}, cc - i = j → i + j < 1000000 → HC q cc gc h → u ≤ 12 → Fi h 162 47 = nI u → pm_run PT n fr lo 256 (26, [some (.ref 162), some (.int t1), some (.int x2), some (.int x3), some (.int (nI i)), o5, o6], [], h, 198, sl) = some R → ∃ m wc w5 w6, pm_run PT m fr lo 256 (136, [some (.ref 162), some (.int t1), some (.int ((v256_26 q cc gc (Ar h 170) u t1 j i (x2, x3)).1)), some (.int ((v256_26 q cc gc (Ar h 170) u t1 j i (x2, x3)).2)), wc, w5, w6], [], h, 198, sl) = some R := by
  intro j
  induction j with
  | zero =>
    intro i x2 x3 o5 o6 h n e eI hw hu e1 hh
    obtain ⟨n, hh⟩ := v256_26_e hw hu e1 (by omega) (by omega) hh
    exact ⟨n, _, o5, o6, hh⟩
  | succ j ih =>
    intro i x2 x3 o5 o6 h n e eI hw hu e1 hh
    obtain ⟨n, w5, w6, hh⟩ := v256_26_s hw hu e1 (by omega) (by omega) hh
    obtain ⟨n, wc, v5, v6, hh⟩ := ih (by omega) (by omega) hw hu e1 hh
    exact ⟨n, wc, v5, v6, hh⟩
def v256 (q : QT) (cc gc : Nat) (h : pm_H) (u : Nat) : Int32 × pm_H := cond (pm_cmp .ne (v254 q cc gc (Ar h 166) (Ar h 167) (Ar h 170) (Ar h 191) (Ar h 192) u) 0) ((v256_26 q cc gc (Ar h 170) u (v254 q cc gc (Ar h 166) (Ar h 167) (Ar h 170) (Ar h 191) (Ar h 192) u) cc 0 ((Int32.ofInt (-1)), (nI 1000000))).1, v167 q cc gc (fset (fset h 162 0 (.int (nI 0))) 162 1 (.int (nI 0))) (((v256_26 q cc gc (Ar h 170) u (v254 q cc gc (Ar h 166) (Ar h 167) (Ar h 170) (Ar h 191) (Ar h 192) u) cc 0 ((Int32.ofInt (-1)), (nI 1000000))).2).toInt64)) ((Int32.ofInt (-2)), fset h 162 0 (.int (nI 0)))
theorem v256_ok {n fr lo sl cc gc : Nat} {q : QT} {h : pm_H} {R : pm_Rs} {u : Nat} (hw : HC q cc gc h) (hu : u ≤ 12) (e1 : Fi h 162 47 = nI u) (hh : pm_run PT n fr lo 256 (0, pm_l0 [.ref 162] 7, [], h, 198, sl) = some R) : R = (some (.int ((v256 q cc gc h u).1)), (v256 q cc gc h u).2, 198, sl) ∧ HC q cc gc ((v256 q cc gc h u).2) ∧ frm [162, 163] [(162, 0), (162, 1)] h ((v256 q cc gc h u).2) := by
  have hcc := hw.cb
  have hgc := hw.gb
  have hzr := hw.zr
  obtain ⟨n, hh⟩ := rn_i rfl rfl rfl rfl hh
  obtain ⟨n, hh⟩ := rn_i rfl rfl rfl rfl hh
  have hh : pm_run PT n fr lo 256 (2, [some (.ref 162), none, none, none, none, none, none], [.int (nI 0), .ref 162], h, 198, sl) = some R := hh
  obtain ⟨n, hh⟩ := rn_pi hw.wt rfl rfl (by decide) rfl (by decide) rfl hh
  obtain ⟨n, hh⟩ := rn_i rfl rfl rfl rfl hh
  have hh : pm_run PT n fr lo 256 (6, [some (.ref 162), none, none, none, none, none, none], [.ref 162], fset h 162 0 (.int (nI 0)), 198, sl) = some R := hh
  obtain ⟨n, fr1, lo1, r1, hh1, hh⟩ := rn_call (w := 0) (t := 254) rfl rfl hh
  have er1 := v254_ok (u := u) (hc_f rfl rfl (by decide) rfl hw) hu ((Fi_n (Or.inr (by decide))).trans e1) hh1
  rw [show Ar (fset h 162 0 (.int (nI 0))) 166 = Ar h 166 from (Ar_f.trans rfl)] at er1
  rw [show Ar (fset h 162 0 (.int (nI 0))) 167 = Ar h 167 from (Ar_f.trans rfl)] at er1
  rw [show Ar (fset h 162 0 (.int (nI 0))) 170 = Ar h 170 from (Ar_f.trans rfl)] at er1
  rw [show Ar (fset h 162 0 (.int (nI 0))) 191 = Ar h 191 from (Ar_f.trans rfl)] at er1
  rw [show Ar (fset h 162 0 (.int (nI 0))) 192 = Ar h 192 from (Ar_f.trans rfl)] at er1
  subst er1
  obtain ⟨n, hh⟩ := rn_i rfl rfl rfl rfl hh
  obtain ⟨n, hh⟩ := rn_i rfl rfl rfl rfl hh
  have hh : pm_run PT n fr lo 256 (11, [some (.ref 162), some (.int (v254 q cc gc (Ar h 166) (Ar h 167) (Ar h 170) (Ar h 191) (Ar h 192) u)), none, none, none, none, none], [.int (v254 q cc gc (Ar h 166) (Ar h 167) (Ar h 170) (Ar h 191) (Ar h 192) u)], fset h 162 0 (.int (nI 0)), 198, sl) = some R := hh
  obtain ⟨n, hh⟩ := en_zn (cc := .ne) (off := 6) (t := 17) (b := pm_cmp .ne (v254 q cc gc (Ar h 166) (Ar h 167) (Ar h 170) (Ar h 191) (Ar h 192) u) 0) rfl rfl rfl hh
  cases z2 : pm_cmp .ne (v254 q cc gc (Ar h 166) (Ar h 167) (Ar h 170) (Ar h 191) (Ar h 192) u) 0 with
  | true =>
    have hh := en_t z2 hh
    have hh : pm_run PT n fr lo 256 (17, [some (.ref 162), some (.int (v254 q cc gc (Ar h 166) (Ar h 167) (Ar h 170) (Ar h 191) (Ar h 192) u)), none, none, none, none, none], [], fset h 162 0 (.int (nI 0)), 198, sl) = some R := hh
    obtain ⟨n, hh⟩ := rn_i rfl rfl rfl rfl hh
    obtain ⟨n, hh⟩ := rn_i rfl rfl rfl rfl hh
    obtain ⟨n, hh⟩ := rn_i rfl rfl rfl rfl hh
    obtain ⟨n, hh⟩ := rn_i rfl rfl rfl rfl hh
    obtain ⟨n, hh⟩ := rn_i rfl rfl rfl rfl hh
    obtain ⟨n, hh⟩ := rn_i rfl rfl rfl rfl hh
    have hh : pm_run PT n fr lo 256 (26, [some (.ref 162), some (.int (v254 q cc gc (Ar h 166) (Ar h 167) (Ar h 170) (Ar h 191) (Ar h 192) u)), some (.int (Int32.ofInt (-1))), some (.int (nI 1000000)), some (.int (nI 0)), none, none], [], fset h 162 0 (.int (nI 0)), 198, sl) = some R := hh
    have hl6 := v256_26_ok (t1 := (v254 q cc gc (Ar h 166) (Ar h 167) (Ar h 170) (Ar h 191) (Ar h 192) u))  (i := 0) (x2 := (Int32.ofInt (-1))) (x3 := (nI 1000000)) (o5 := none) (o6 := none) (j := cc) (by omega) (by omega) (hc_f rfl rfl (by decide) rfl hw) hu ((Fi_n (Or.inr (by decide))).trans e1) hh
    rw [show Ar (fset h 162 0 (.int (nI 0))) 170 = Ar h 170 from (Ar_f.trans rfl)] at hl6
    obtain ⟨n, u5, u3, u4, hh⟩ := hl6
    have hh : pm_run PT n fr lo 256 (136, [some (.ref 162), some (.int (v254 q cc gc (Ar h 166) (Ar h 167) (Ar h 170) (Ar h 191) (Ar h 192) u)), some (.int ((v256_26 q cc gc (Ar h 170) u (v254 q cc gc (Ar h 166) (Ar h 167) (Ar h 170) (Ar h 191) (Ar h 192) u) cc 0 ((Int32.ofInt (-1)), (nI 1000000))).1)), some (.int ((v256_26 q cc gc (Ar h 170) u (v254 q cc gc (Ar h 166) (Ar h 167) (Ar h 170) (Ar h 191) (Ar h 192) u) cc 0 ((Int32.ofInt (-1)), (nI 1000000))).2)), u5, u3, u4], [], fset h 162 0 (.int (nI 0)), 198, sl) = some R := hh
    obtain ⟨n, hh⟩ := rn_i rfl rfl rfl rfl hh
    obtain ⟨n, hh⟩ := rn_i rfl rfl rfl rfl hh
    have hh : pm_run PT n fr lo 256 (138, [some (.ref 162), some (.int (v254 q cc gc (Ar h 166) (Ar h 167) (Ar h 170) (Ar h 191) (Ar h 192) u)), some (.int ((v256_26 q cc gc (Ar h 170) u (v254 q cc gc (Ar h 166) (Ar h 167) (Ar h 170) (Ar h 191) (Ar h 192) u) cc 0 ((Int32.ofInt (-1)), (nI 1000000))).1)), some (.int ((v256_26 q cc gc (Ar h 170) u (v254 q cc gc (Ar h 166) (Ar h 167) (Ar h 170) (Ar h 191) (Ar h 192) u) cc 0 ((Int32.ofInt (-1)), (nI 1000000))).2)), u5, u3, u4], [.int (nI 0), .ref 162], fset h 162 0 (.int (nI 0)), 198, sl) = some R := hh
    obtain ⟨n, hh⟩ := rn_pi (hc_f rfl rfl (by decide) rfl hw).wt rfl rfl (by decide) rfl (by decide) rfl hh
    obtain ⟨n, hh⟩ := rn_i rfl rfl rfl rfl hh
    obtain ⟨n, hh⟩ := rn_i rfl rfl rfl rfl hh
    obtain ⟨n, hh⟩ := rn_i rfl rfl rfl rfl hh
    have hh : pm_run PT n fr lo 256 (144, [some (.ref 162), some (.int (v254 q cc gc (Ar h 166) (Ar h 167) (Ar h 170) (Ar h 191) (Ar h 192) u)), some (.int ((v256_26 q cc gc (Ar h 170) u (v254 q cc gc (Ar h 166) (Ar h 167) (Ar h 170) (Ar h 191) (Ar h 192) u) cc 0 ((Int32.ofInt (-1)), (nI 1000000))).1)), some (.int ((v256_26 q cc gc (Ar h 170) u (v254 q cc gc (Ar h 166) (Ar h 167) (Ar h 170) (Ar h 191) (Ar h 192) u) cc 0 ((Int32.ofInt (-1)), (nI 1000000))).2)), u5, u3, u4], [.long (((v256_26 q cc gc (Ar h 170) u (v254 q cc gc (Ar h 166) (Ar h 167) (Ar h 170) (Ar h 191) (Ar h 192) u) cc 0 ((Int32.ofInt (-1)), (nI 1000000))).2).toInt64), .ref 162], fset (fset h 162 0 (.int (nI 0))) 162 1 (.int (nI 0)), 198, sl) = some R := hh
    obtain ⟨n, fr1, lo1, r1, hh1, hh⟩ := rn_call (w := 0) (t := 167) rfl rfl hh
    obtain ⟨er7, hc8, hf9⟩ := v167_ok (v := (((v256_26 q cc gc (Ar h 170) u (v254 q cc gc (Ar h 166) (Ar h 167) (Ar h 170) (Ar h 191) (Ar h 192) u) cc 0 ((Int32.ofInt (-1)), (nI 1000000))).2).toInt64)) (hc_f rfl rfl (by decide) rfl (hc_f rfl rfl (by decide) rfl hw)) hh1
    subst er7
    obtain ⟨n, hh⟩ := rn_i rfl rfl rfl rfl hh
    have hh : pm_run PT n fr lo 256 (148, [some (.ref 162), some (.int (v254 q cc gc (Ar h 166) (Ar h 167) (Ar h 170) (Ar h 191) (Ar h 192) u)), some (.int ((v256_26 q cc gc (Ar h 170) u (v254 q cc gc (Ar h 166) (Ar h 167) (Ar h 170) (Ar h 191) (Ar h 192) u) cc 0 ((Int32.ofInt (-1)), (nI 1000000))).1)), some (.int ((v256_26 q cc gc (Ar h 170) u (v254 q cc gc (Ar h 166) (Ar h 167) (Ar h 170) (Ar h 191) (Ar h 192) u) cc 0 ((Int32.ofInt (-1)), (nI 1000000))).2)), u5, u3, u4], [.int ((v256_26 q cc gc (Ar h 170) u (v254 q cc gc (Ar h 166) (Ar h 167) (Ar h 170) (Ar h 191) (Ar h 192) u) cc 0 ((Int32.ofInt (-1)), (nI 1000000))).1)], v167 q cc gc (fset (fset h 162 0 (.int (nI 0))) 162 1 (.int (nI 0))) (((v256_26 q cc gc (Ar h 170) u (v254 q cc gc (Ar h 166) (Ar h 167) (Ar h 170) (Ar h 191) (Ar h 192) u) cc 0 ((Int32.ofInt (-1)), (nI 1000000))).2).toInt64), 198, sl) = some R := hh
    have er10 : R = (some (.int ((v256_26 q cc gc (Ar h 170) u (v254 q cc gc (Ar h 166) (Ar h 167) (Ar h 170) (Ar h 191) (Ar h 192) u) cc 0 ((Int32.ofInt (-1)), (nI 1000000))).1)), v167 q cc gc (fset (fset h 162 0 (.int (nI 0))) 162 1 (.int (nI 0))) (((v256_26 q cc gc (Ar h 170) u (v254 q cc gc (Ar h 166) (Ar h 167) (Ar h 170) (Ar h 191) (Ar h 192) u) cc 0 ((Int32.ofInt (-1)), (nI 1000000))).2).toInt64), 198, sl) := (rn_ret rfl (Or.inl rfl) hh).2
    have ed : v256 q cc gc h u = ((v256_26 q cc gc (Ar h 170) u (v254 q cc gc (Ar h 166) (Ar h 167) (Ar h 170) (Ar h 191) (Ar h 192) u) cc 0 ((Int32.ofInt (-1)), (nI 1000000))).1, v167 q cc gc (fset (fset h 162 0 (.int (nI 0))) 162 1 (.int (nI 0))) (((v256_26 q cc gc (Ar h 170) u (v254 q cc gc (Ar h 166) (Ar h 167) (Ar h 170) (Ar h 191) (Ar h 192) u) cc 0 ((Int32.ofInt (-1)), (nI 1000000))).2).toInt64)) := (ct z2).trans rfl
    refine ⟨?_, ?_, ?_⟩ <;> rw [ed]
    · exact er10
    · exact hc8
    · exact (fr_g rfl rfl hf9 (fr_f rfl rfl (fr_f rfl rfl fr_0)))
  | false =>
    have hh := en_f z2 hh
    have hh : pm_run PT n fr lo 256 (14, [some (.ref 162), some (.int (v254 q cc gc (Ar h 166) (Ar h 167) (Ar h 170) (Ar h 191) (Ar h 192) u)), none, none, none, none, none], [], fset h 162 0 (.int (nI 0)), 198, sl) = some R := hh
    obtain ⟨n, hh⟩ := rn_i rfl rfl rfl rfl hh
    have hh : pm_run PT n fr lo 256 (16, [some (.ref 162), some (.int (v254 q cc gc (Ar h 166) (Ar h 167) (Ar h 170) (Ar h 191) (Ar h 192) u)), none, none, none, none, none], [.int (Int32.ofInt (-2))], fset h 162 0 (.int (nI 0)), 198, sl) = some R := hh
    have er11 : R = (some (.int (Int32.ofInt (-2))), fset h 162 0 (.int (nI 0)), 198, sl) := (rn_ret rfl (Or.inl rfl) hh).2
    have ed : v256 q cc gc h u = ((Int32.ofInt (-2)), fset h 162 0 (.int (nI 0))) := (cf z2).trans rfl
    refine ⟨?_, ?_, ?_⟩ <;> rw [ed]
    · exact er11
    · exact (hc_f rfl rfl (by decide) rfl hw)
    · exact (fr_f rfl rfl fr_0)
theorem v256_fr {cc gc : Nat} {q : QT} {h : pm_H} {u : Nat} (hw : HC q cc gc h) (hu : u ≤ 12) : HC q cc gc ((v256 q cc gc h u).2) ∧ frm [162, 163] [(162, 0), (162, 1)] h ((v256 q cc gc h u).2) := by
  unfold v256
  refine cd_s (P := fun (p : Int32 × pm_H) => HC q cc gc ((p).2) ∧ frm [162, 163] [(162, 0), (162, 1)] h ((p).2)) (b := pm_cmp .ne (v254 q cc gc (Ar h 166) (Ar h 167) (Ar h 170) (Ar h 191) (Ar h 192) u) 0) (fun _ => ?_) (fun _ => ?_)
  · show HC q cc gc (v167 q cc gc (fset (fset h 162 0 (.int (nI 0))) 162 1 (.int (nI 0))) (((v256_26 q cc gc (Ar h 170) u (v254 q cc gc (Ar h 166) (Ar h 167) (Ar h 170) (Ar h 191) (Ar h 192) u) cc 0 ((Int32.ofInt (-1)), (nI 1000000))).2).toInt64)) ∧ frm [162, 163] [(162, 0), (162, 1)] h (v167 q cc gc (fset (fset h 162 0 (.int (nI 0))) 162 1 (.int (nI 0))) (((v256_26 q cc gc (Ar h 170) u (v254 q cc gc (Ar h 166) (Ar h 167) (Ar h 170) (Ar h 191) (Ar h 192) u) cc 0 ((Int32.ofInt (-1)), (nI 1000000))).2).toInt64))
    exact ⟨(v167_fr (v := (((v256_26 q cc gc (Ar h 170) u (v254 q cc gc (Ar h 166) (Ar h 167) (Ar h 170) (Ar h 191) (Ar h 192) u) cc 0 ((Int32.ofInt (-1)), (nI 1000000))).2).toInt64)) (hc_f rfl rfl (by decide) rfl (hc_f rfl rfl (by decide) rfl hw))).1, (fr_g rfl rfl (v167_fr (v := (((v256_26 q cc gc (Ar h 170) u (v254 q cc gc (Ar h 166) (Ar h 167) (Ar h 170) (Ar h 191) (Ar h 192) u) cc 0 ((Int32.ofInt (-1)), (nI 1000000))).2).toInt64)) (hc_f rfl rfl (by decide) rfl (hc_f rfl rfl (by decide) rfl hw))).2 (fr_f rfl rfl (fr_f rfl rfl fr_0)))⟩
  · show HC q cc gc (fset h 162 0 (.int (nI 0))) ∧ frm [162, 163] [(162, 0), (162, 1)] h (fset h 162 0 (.int (nI 0)))
    exact ⟨(hc_f rfl rfl (by decide) rfl hw), (fr_f rfl rfl fr_0)⟩
def v251 (q : QT) (cc gc : Nat) (h : pm_H) (u : Nat) (a : Int32) (b : Int32) : Int32 × pm_H := cond (in_b ((a).toInt64) (Int64.ofNat 0) (3 : Int64)) (cond (in_b ((b).toInt64) ((cond (cond (pm_cmp .ne a (nI 1)) false true) 1 0 : Int32).toInt64) ((cond (pm_cmp .ne a 0) (cond (pm_cmp .ne a (nI 1)) (cond (pm_cmp .ne a (nI 2)) (nI 1) (nI 5)) (nI 99)) (nI 4)).toInt64)) (cond (decide (¬ u = 12)) (nI (u + 1), fset (aset (aset (fset h 162 0 (.int (nI 0))) 191 12 (upd (Ar h 191) u a)) 192 12 (upd (Ar h 192) u b)) 162 47 (.int (nI (u + 1)))) ((Int32.ofInt (-1)), fset h 162 0 (.int (nI 0)))) ((Int32.ofInt (-1)), fset h 162 0 (.int (nI 0)))) ((Int32.ofInt (-1)), fset h 162 0 (.int (nI 0)))
theorem v251_ok {n fr lo sl cc gc : Nat} {q : QT} {h : pm_H} {R : pm_Rs} {u : Nat} {a : Int32} {b : Int32} (hw : HC q cc gc h) (hu : u ≤ 12) (e1 : Fi h 162 47 = nI u) (hh : pm_run PT n fr lo 251 (0, pm_l0 [.ref 162, .int a, .int b] 4, [], h, 198, sl) = some R) : R = (some (.int ((v251 q cc gc h u a b).1)), (v251 q cc gc h u a b).2, 198, sl) ∧ HC q cc gc ((v251 q cc gc h u a b).2) ∧ frm [162, 191, 192] [(162, 0), (162, 47)] h ((v251 q cc gc h u a b).2) := by
  have hcc := hw.cb
  have hgc := hw.gb
  have hzr := hw.zr
  obtain ⟨n, hh⟩ := rn_i rfl rfl rfl rfl hh
  obtain ⟨n, hh⟩ := rn_i rfl rfl rfl rfl hh
  have hh : pm_run PT n fr lo 251 (2, [some (.ref 162), some (.int a), some (.int b), none], [.int (nI 0), .ref 162], h, 198, sl) = some R := hh
  obtain ⟨n, hh⟩ := rn_pi hw.wt rfl rfl (by decide) rfl (by decide) rfl hh
  obtain ⟨n, hh⟩ := rn_i rfl rfl rfl rfl hh
  have hh : pm_run PT n fr lo 251 (6, [some (.ref 162), some (.int a), some (.int b), none], [.int a], fset h 162 0 (.int (nI 0)), 198, sl) = some R := hh
  obtain ⟨n, hh⟩ := en_zn (cc := .ne) (off := 7) (t := 13) (b := pm_cmp .ne a 0) rfl rfl rfl hh
  have hj6 : ∃ mJ, pm_run PT mJ fr lo 251 (cond (pm_cmp .ne a 0) (33, [some (.ref 162), some (.int a), some (.int b), none], [.int (cond (pm_cmp .ne a (nI 1)) (cond (pm_cmp .ne a (nI 2)) (nI 1) (nI 5)) (nI 99))], fset h 162 0 (.int (nI 0)), 198, sl) (33, [some (.ref 162), some (.int a), some (.int b), none], [.int (nI 4)], fset h 162 0 (.int (nI 0)), 198, sl)) = some R := en_J (fun z1 => by
      have hh := en_t z1 hh
      have hh : pm_run PT n fr lo 251 (13, [some (.ref 162), some (.int a), some (.int b), none], [], fset h 162 0 (.int (nI 0)), 198, sl) = some R := hh
      obtain ⟨n, hh⟩ := rn_i rfl rfl rfl rfl hh
      obtain ⟨n, hh⟩ := rn_i rfl rfl rfl rfl hh
      have hh : pm_run PT n fr lo 251 (15, [some (.ref 162), some (.int a), some (.int b), none], [.int (nI 1), .int a], fset h 162 0 (.int (nI 0)), 198, sl) = some R := hh
      obtain ⟨n, hh⟩ := en_cn (cc := .ne) (off := 8) (t := 23) (b := pm_cmp .ne a (nI 1)) rfl rfl rfl hh
      have hj5 : ∃ mJ, pm_run PT mJ fr lo 251 (cond (pm_cmp .ne a (nI 1)) (33, [some (.ref 162), some (.int a), some (.int b), none], [.int (cond (pm_cmp .ne a (nI 2)) (nI 1) (nI 5))], fset h 162 0 (.int (nI 0)), 198, sl) (33, [some (.ref 162), some (.int a), some (.int b), none], [.int (nI 99)], fset h 162 0 (.int (nI 0)), 198, sl)) = some R := en_J (fun z2 => by
          have hh := en_t z2 hh
          have hh : pm_run PT n fr lo 251 (23, [some (.ref 162), some (.int a), some (.int b), none], [], fset h 162 0 (.int (nI 0)), 198, sl) = some R := hh
          obtain ⟨n, hh⟩ := rn_i rfl rfl rfl rfl hh
          obtain ⟨n, hh⟩ := rn_i rfl rfl rfl rfl hh
          have hh : pm_run PT n fr lo 251 (25, [some (.ref 162), some (.int a), some (.int b), none], [.int (nI 2), .int a], fset h 162 0 (.int (nI 0)), 198, sl) = some R := hh
          obtain ⟨n, hh⟩ := en_cn (cc := .ne) (off := 7) (t := 32) (b := pm_cmp .ne a (nI 2)) rfl rfl rfl hh
          have hj4 : ∃ mJ, pm_run PT mJ fr lo 251 (cond (pm_cmp .ne a (nI 2)) (33, [some (.ref 162), some (.int a), some (.int b), none], [.int (nI 1)], fset h 162 0 (.int (nI 0)), 198, sl) (33, [some (.ref 162), some (.int a), some (.int b), none], [.int (nI 5)], fset h 162 0 (.int (nI 0)), 198, sl)) = some R := en_J (fun z3 => by
              have hh := en_t z3 hh
              have hh : pm_run PT n fr lo 251 (32, [some (.ref 162), some (.int a), some (.int b), none], [], fset h 162 0 (.int (nI 0)), 198, sl) = some R := hh
              obtain ⟨n, hh⟩ := rn_i rfl rfl rfl rfl hh
              exact ⟨n, hh⟩) (fun z3 => by
              have hh := en_f z3 hh
              have hh : pm_run PT n fr lo 251 (28, [some (.ref 162), some (.int a), some (.int b), none], [], fset h 162 0 (.int (nI 0)), 198, sl) = some R := hh
              obtain ⟨n, hh⟩ := rn_i rfl rfl rfl rfl hh
              obtain ⟨n, hh⟩ := rn_i rfl rfl rfl rfl hh
              exact ⟨n, hh⟩)
          obtain ⟨n, hh⟩ := hj4
          rw [show (cond (pm_cmp .ne a (nI 2)) (33, [some (.ref 162), some (.int a), some (.int b), none], [.int (nI 1)], fset h 162 0 (.int (nI 0)), 198, sl) (33, [some (.ref 162), some (.int a), some (.int b), none], [.int (nI 5)], fset h 162 0 (.int (nI 0)), 198, sl) : pm_St) = (33, [some (.ref 162), some (.int a), some (.int b), none], [.int (cond (pm_cmp .ne a (nI 2)) (nI 1) (nI 5))], fset h 162 0 (.int (nI 0)), 198, sl) from by cases (pm_cmp .ne a (nI 2)) <;> rfl] at hh
          exact ⟨n, hh⟩) (fun z2 => by
          have hh := en_f z2 hh
          have hh : pm_run PT n fr lo 251 (18, [some (.ref 162), some (.int a), some (.int b), none], [], fset h 162 0 (.int (nI 0)), 198, sl) = some R := hh
          obtain ⟨n, hh⟩ := rn_i rfl rfl rfl rfl hh
          obtain ⟨n, hh⟩ := rn_i rfl rfl rfl rfl hh
          exact ⟨n, hh⟩)
      obtain ⟨n, hh⟩ := hj5
      rw [show (cond (pm_cmp .ne a (nI 1)) (33, [some (.ref 162), some (.int a), some (.int b), none], [.int (cond (pm_cmp .ne a (nI 2)) (nI 1) (nI 5))], fset h 162 0 (.int (nI 0)), 198, sl) (33, [some (.ref 162), some (.int a), some (.int b), none], [.int (nI 99)], fset h 162 0 (.int (nI 0)), 198, sl) : pm_St) = (33, [some (.ref 162), some (.int a), some (.int b), none], [.int (cond (pm_cmp .ne a (nI 1)) (cond (pm_cmp .ne a (nI 2)) (nI 1) (nI 5)) (nI 99))], fset h 162 0 (.int (nI 0)), 198, sl) from by cases (pm_cmp .ne a (nI 1)) <;> rfl] at hh
      exact ⟨n, hh⟩) (fun z1 => by
      have hh := en_f z1 hh
      have hh : pm_run PT n fr lo 251 (9, [some (.ref 162), some (.int a), some (.int b), none], [], fset h 162 0 (.int (nI 0)), 198, sl) = some R := hh
      obtain ⟨n, hh⟩ := rn_i rfl rfl rfl rfl hh
      obtain ⟨n, hh⟩ := rn_i rfl rfl rfl rfl hh
      exact ⟨n, hh⟩)
  obtain ⟨n, hh⟩ := hj6
  rw [show (cond (pm_cmp .ne a 0) (33, [some (.ref 162), some (.int a), some (.int b), none], [.int (cond (pm_cmp .ne a (nI 1)) (cond (pm_cmp .ne a (nI 2)) (nI 1) (nI 5)) (nI 99))], fset h 162 0 (.int (nI 0)), 198, sl) (33, [some (.ref 162), some (.int a), some (.int b), none], [.int (nI 4)], fset h 162 0 (.int (nI 0)), 198, sl) : pm_St) = (33, [some (.ref 162), some (.int a), some (.int b), none], [.int (cond (pm_cmp .ne a 0) (cond (pm_cmp .ne a (nI 1)) (cond (pm_cmp .ne a (nI 2)) (nI 1) (nI 5)) (nI 99)) (nI 4))], fset h 162 0 (.int (nI 0)), 198, sl) from by cases (pm_cmp .ne a 0) <;> rfl] at hh
  obtain ⟨n, hh⟩ := rn_i rfl rfl rfl rfl hh
  obtain ⟨n, hh⟩ := rn_i rfl rfl rfl rfl hh
  obtain ⟨n, hh⟩ := rn_i rfl rfl rfl rfl hh
  obtain ⟨n, hh⟩ := rn_i rfl rfl rfl rfl hh
  obtain ⟨n, hh⟩ := rn_i rfl rfl rfl rfl hh
  have hh : pm_run PT n fr lo 251 (40, [some (.ref 162), some (.int a), some (.int b), some (.int (cond (pm_cmp .ne a 0) (cond (pm_cmp .ne a (nI 1)) (cond (pm_cmp .ne a (nI 2)) (nI 1) (nI 5)) (nI 99)) (nI 4)))], [.long (3 : Int64), .long (Int64.ofNat 0), .long ((a).toInt64)], fset h 162 0 (.int (nI 0)), 198, sl) = some R := hh
  obtain ⟨n, fr1, lo1, r1, hh1, hh⟩ := rn_call (w := 2) (t := 163) rfl rfl hh
  have er7 := rn_dt (F := 10) (Lo := 1000) (hd_in (fr := 10) (lo := 1000) (h := fset h 162 0 (.int (nI 0))) (sl := sl) ((a).toInt64) (Int64.ofNat 0) (3 : Int64)) hh1
  subst er7
  have hh : pm_run PT n fr lo 251 (43, [some (.ref 162), some (.int a), some (.int b), some (.int (cond (pm_cmp .ne a 0) (cond (pm_cmp .ne a (nI 1)) (cond (pm_cmp .ne a (nI 2)) (nI 1) (nI 5)) (nI 99)) (nI 4)))], [.int (cond (in_b ((a).toInt64) (Int64.ofNat 0) (3 : Int64)) 1 0)], fset h 162 0 (.int (nI 0)), 198, sl) = some R := hh
  obtain ⟨n, hh⟩ := en_zn (cc := .eq) (off := 36) (t := 79) (b := !(in_b ((a).toInt64) (Int64.ofNat 0) (3 : Int64))) eb_eq rfl rfl hh
  cases z8 : in_b ((a).toInt64) (Int64.ofNat 0) (3 : Int64) with
  | true =>
    have hh := en_nt z8 hh
    have hh : pm_run PT n fr lo 251 (46, [some (.ref 162), some (.int a), some (.int b), some (.int (cond (pm_cmp .ne a 0) (cond (pm_cmp .ne a (nI 1)) (cond (pm_cmp .ne a (nI 2)) (nI 1) (nI 5)) (nI 99)) (nI 4)))], [], fset h 162 0 (.int (nI 0)), 198, sl) = some R := hh
    obtain ⟨n, hh⟩ := rn_i rfl rfl rfl rfl hh
    obtain ⟨n, hh⟩ := rn_i rfl rfl rfl rfl hh
    obtain ⟨n, hh⟩ := rn_i rfl rfl rfl rfl hh
    obtain ⟨n, hh⟩ := rn_i rfl rfl rfl rfl hh
    have hh : pm_run PT n fr lo 251 (50, [some (.ref 162), some (.int a), some (.int b), some (.int (cond (pm_cmp .ne a 0) (cond (pm_cmp .ne a (nI 1)) (cond (pm_cmp .ne a (nI 2)) (nI 1) (nI 5)) (nI 99)) (nI 4)))], [.int (nI 1), .int a, .long ((b).toInt64)], fset h 162 0 (.int (nI 0)), 198, sl) = some R := hh
    obtain ⟨n, hh⟩ := en_cn (cc := .ne) (off := 7) (t := 57) (b := pm_cmp .ne a (nI 1)) rfl rfl rfl hh
    have hj10 : ∃ mJ, pm_run PT mJ fr lo 251 (cond (pm_cmp .ne a (nI 1)) (58, [some (.ref 162), some (.int a), some (.int b), some (.int (cond (pm_cmp .ne a 0) (cond (pm_cmp .ne a (nI 1)) (cond (pm_cmp .ne a (nI 2)) (nI 1) (nI 5)) (nI 99)) (nI 4)))], [.int (nI 0), .long ((b).toInt64)], fset h 162 0 (.int (nI 0)), 198, sl) (58, [some (.ref 162), some (.int a), some (.int b), some (.int (cond (pm_cmp .ne a 0) (cond (pm_cmp .ne a (nI 1)) (cond (pm_cmp .ne a (nI 2)) (nI 1) (nI 5)) (nI 99)) (nI 4)))], [.int (nI 1), .long ((b).toInt64)], fset h 162 0 (.int (nI 0)), 198, sl)) = some R := en_J (fun z9 => by
        have hh := en_t z9 hh
        have hh : pm_run PT n fr lo 251 (57, [some (.ref 162), some (.int a), some (.int b), some (.int (cond (pm_cmp .ne a 0) (cond (pm_cmp .ne a (nI 1)) (cond (pm_cmp .ne a (nI 2)) (nI 1) (nI 5)) (nI 99)) (nI 4)))], [.long ((b).toInt64)], fset h 162 0 (.int (nI 0)), 198, sl) = some R := hh
        obtain ⟨n, hh⟩ := rn_i rfl rfl rfl rfl hh
        exact ⟨n, hh⟩) (fun z9 => by
        have hh := en_f z9 hh
        have hh : pm_run PT n fr lo 251 (53, [some (.ref 162), some (.int a), some (.int b), some (.int (cond (pm_cmp .ne a 0) (cond (pm_cmp .ne a (nI 1)) (cond (pm_cmp .ne a (nI 2)) (nI 1) (nI 5)) (nI 99)) (nI 4)))], [.long ((b).toInt64)], fset h 162 0 (.int (nI 0)), 198, sl) = some R := hh
        obtain ⟨n, hh⟩ := rn_i rfl rfl rfl rfl hh
        obtain ⟨n, hh⟩ := rn_i rfl rfl rfl rfl hh
        exact ⟨n, hh⟩)
    obtain ⟨n, hh⟩ := hj10
    rw [show (cond (pm_cmp .ne a (nI 1)) (58, [some (.ref 162), some (.int a), some (.int b), some (.int (cond (pm_cmp .ne a 0) (cond (pm_cmp .ne a (nI 1)) (cond (pm_cmp .ne a (nI 2)) (nI 1) (nI 5)) (nI 99)) (nI 4)))], [.int (nI 0), .long ((b).toInt64)], fset h 162 0 (.int (nI 0)), 198, sl) (58, [some (.ref 162), some (.int a), some (.int b), some (.int (cond (pm_cmp .ne a 0) (cond (pm_cmp .ne a (nI 1)) (cond (pm_cmp .ne a (nI 2)) (nI 1) (nI 5)) (nI 99)) (nI 4)))], [.int (nI 1), .long ((b).toInt64)], fset h 162 0 (.int (nI 0)), 198, sl) : pm_St) = (58, [some (.ref 162), some (.int a), some (.int b), some (.int (cond (pm_cmp .ne a 0) (cond (pm_cmp .ne a (nI 1)) (cond (pm_cmp .ne a (nI 2)) (nI 1) (nI 5)) (nI 99)) (nI 4)))], [.int (cond (cond (pm_cmp .ne a (nI 1)) false true) 1 0), .long ((b).toInt64)], fset h 162 0 (.int (nI 0)), 198, sl) from by cases (pm_cmp .ne a (nI 1)) <;> rfl] at hh
    have hh : pm_run PT n fr lo 251 (58, [some (.ref 162), some (.int a), some (.int b), some (.int (cond (pm_cmp .ne a 0) (cond (pm_cmp .ne a (nI 1)) (cond (pm_cmp .ne a (nI 2)) (nI 1) (nI 5)) (nI 99)) (nI 4)))], [.int (cond (cond (pm_cmp .ne a (nI 1)) false true) 1 0), .long ((b).toInt64)], fset h 162 0 (.int (nI 0)), 198, sl) = some R := hh
    obtain ⟨n, fr1, lo1, r1, hh1, hh⟩ := rn_call (w := 2) (t := 165) rfl rfl hh
    have er11 := rn_dt (F := 10) (Lo := 1000) (hd_flag (fr := 10) (lo := 1000) (h := fset h 162 0 (.int (nI 0))) (sl := sl) (cond (pm_cmp .ne a (nI 1)) false true)) hh1
    subst er11
    obtain ⟨n, hh⟩ := rn_i rfl rfl rfl rfl hh
    obtain ⟨n, hh⟩ := rn_i rfl rfl rfl rfl hh
    obtain ⟨n, hh⟩ := rn_i rfl rfl rfl rfl hh
    have hh : pm_run PT n fr lo 251 (64, [some (.ref 162), some (.int a), some (.int b), some (.int (cond (pm_cmp .ne a 0) (cond (pm_cmp .ne a (nI 1)) (cond (pm_cmp .ne a (nI 2)) (nI 1) (nI 5)) (nI 99)) (nI 4)))], [.long ((cond (pm_cmp .ne a 0) (cond (pm_cmp .ne a (nI 1)) (cond (pm_cmp .ne a (nI 2)) (nI 1) (nI 5)) (nI 99)) (nI 4)).toInt64), .long ((cond (cond (pm_cmp .ne a (nI 1)) false true) 1 0 : Int32).toInt64), .long ((b).toInt64)], fset h 162 0 (.int (nI 0)), 198, sl) = some R := hh
    obtain ⟨n, fr1, lo1, r1, hh1, hh⟩ := rn_call (w := 2) (t := 163) rfl rfl hh
    have er12 := rn_dt (F := 10) (Lo := 1000) (hd_in (fr := 10) (lo := 1000) (h := fset h 162 0 (.int (nI 0))) (sl := sl) ((b).toInt64) ((cond (cond (pm_cmp .ne a (nI 1)) false true) 1 0 : Int32).toInt64) ((cond (pm_cmp .ne a 0) (cond (pm_cmp .ne a (nI 1)) (cond (pm_cmp .ne a (nI 2)) (nI 1) (nI 5)) (nI 99)) (nI 4)).toInt64)) hh1
    subst er12
    have hh : pm_run PT n fr lo 251 (67, [some (.ref 162), some (.int a), some (.int b), some (.int (cond (pm_cmp .ne a 0) (cond (pm_cmp .ne a (nI 1)) (cond (pm_cmp .ne a (nI 2)) (nI 1) (nI 5)) (nI 99)) (nI 4)))], [.int (cond (in_b ((b).toInt64) ((cond (cond (pm_cmp .ne a (nI 1)) false true) 1 0 : Int32).toInt64) ((cond (pm_cmp .ne a 0) (cond (pm_cmp .ne a (nI 1)) (cond (pm_cmp .ne a (nI 2)) (nI 1) (nI 5)) (nI 99)) (nI 4)).toInt64)) 1 0)], fset h 162 0 (.int (nI 0)), 198, sl) = some R := hh
    obtain ⟨n, hh⟩ := en_zn (cc := .eq) (off := 12) (t := 79) (b := !(in_b ((b).toInt64) ((cond (cond (pm_cmp .ne a (nI 1)) false true) 1 0 : Int32).toInt64) ((cond (pm_cmp .ne a 0) (cond (pm_cmp .ne a (nI 1)) (cond (pm_cmp .ne a (nI 2)) (nI 1) (nI 5)) (nI 99)) (nI 4)).toInt64))) eb_eq rfl rfl hh
    cases z13 : in_b ((b).toInt64) ((cond (cond (pm_cmp .ne a (nI 1)) false true) 1 0 : Int32).toInt64) ((cond (pm_cmp .ne a 0) (cond (pm_cmp .ne a (nI 1)) (cond (pm_cmp .ne a (nI 2)) (nI 1) (nI 5)) (nI 99)) (nI 4)).toInt64) with
    | true =>
      have hh := en_nt z13 hh
      have hh : pm_run PT n fr lo 251 (70, [some (.ref 162), some (.int a), some (.int b), some (.int (cond (pm_cmp .ne a 0) (cond (pm_cmp .ne a (nI 1)) (cond (pm_cmp .ne a (nI 2)) (nI 1) (nI 5)) (nI 99)) (nI 4)))], [], fset h 162 0 (.int (nI 0)), 198, sl) = some R := hh
      obtain ⟨n, hh⟩ := rn_i rfl rfl rfl rfl hh
      have hh : pm_run PT n fr lo 251 (71, [some (.ref 162), some (.int a), some (.int b), some (.int (cond (pm_cmp .ne a 0) (cond (pm_cmp .ne a (nI 1)) (cond (pm_cmp .ne a (nI 2)) (nI 1) (nI 5)) (nI 99)) (nI 4)))], [.ref 162], fset h 162 0 (.int (nI 0)), 198, sl) = some R := hh
      obtain ⟨n, hh⟩ := rn_gi (x := nI u) (hc_f rfl rfl (by decide) rfl hw).wt rfl rfl (by decide) rfl (by decide) rfl ((Fi_n (Or.inr (by decide))).trans e1) hh
      obtain ⟨n, hh⟩ := rn_i rfl rfl rfl rfl hh
      have hh : pm_run PT n fr lo 251 (76, [some (.ref 162), some (.int a), some (.int b), some (.int (cond (pm_cmp .ne a 0) (cond (pm_cmp .ne a (nI 1)) (cond (pm_cmp .ne a (nI 2)) (nI 1) (nI 5)) (nI 99)) (nI 4)))], [.int (nI 12), .int (nI u)], fset h 162 0 (.int (nI 0)), 198, sl) = some R := hh
      obtain ⟨n, hh⟩ := en_cn (cc := .ne) (off := 5) (t := 81) (b := decide (¬ u = 12)) (hI_ne (by omega) (by omega)) rfl rfl hh
      cases z14 : decide (¬ u = 12) with
      | true =>
        have hh := en_t z14 hh
        have hh : pm_run PT n fr lo 251 (81, [some (.ref 162), some (.int a), some (.int b), some (.int (cond (pm_cmp .ne a 0) (cond (pm_cmp .ne a (nI 1)) (cond (pm_cmp .ne a (nI 2)) (nI 1) (nI 5)) (nI 99)) (nI 4)))], [], fset h 162 0 (.int (nI 0)), 198, sl) = some R := hh
        have y15 := of_decide_eq_true z14
        obtain ⟨n, hh⟩ := rn_i rfl rfl rfl rfl hh
        have hh : pm_run PT n fr lo 251 (82, [some (.ref 162), some (.int a), some (.int b), some (.int (cond (pm_cmp .ne a 0) (cond (pm_cmp .ne a (nI 1)) (cond (pm_cmp .ne a (nI 2)) (nI 1) (nI 5)) (nI 99)) (nI 4)))], [.ref 162], fset h 162 0 (.int (nI 0)), 198, sl) = some R := hh
        obtain ⟨n, hh⟩ := rn_gr (hc_f rfl rfl (by decide) rfl hw).wt rfl rfl (by decide) rfl (by decide) (show _ = some (2, ((191 : Nat) : Int), 1) from rfl) rfl hh
        obtain ⟨n, hh⟩ := rn_i rfl rfl rfl rfl hh
        have hh : pm_run PT n fr lo 251 (86, [some (.ref 162), some (.int a), some (.int b), some (.int (cond (pm_cmp .ne a 0) (cond (pm_cmp .ne a (nI 1)) (cond (pm_cmp .ne a (nI 2)) (nI 1) (nI 5)) (nI 99)) (nI 4)))], [.ref 162, .ref 191], fset h 162 0 (.int (nI 0)), 198, sl) = some R := hh
        obtain ⟨n, hh⟩ := rn_gi (x := nI u) (hc_f rfl rfl (by decide) rfl hw).wt rfl rfl (by decide) rfl (by decide) rfl ((Fi_n (Or.inr (by decide))).trans e1) hh
        obtain ⟨n, hh⟩ := rn_i rfl rfl rfl rfl hh
        have hh : pm_run PT n fr lo 251 (90, [some (.ref 162), some (.int a), some (.int b), some (.int (cond (pm_cmp .ne a 0) (cond (pm_cmp .ne a (nI 1)) (cond (pm_cmp .ne a (nI 2)) (nI 1) (nI 5)) (nI 99)) (nI 4)))], [.int a, .int (nI u), .ref 191], fset h 162 0 (.int (nI 0)), 198, sl) = some R := hh
        obtain ⟨n, hx16, hh⟩ := en_st (t := u) (f := Ar h 191) (nI_clamp (by omega)) (hc_f rfl rfl (by decide) rfl hw).wt rfl (by decide) rfl (by decide) (Ar_f.trans rfl) hh
        obtain ⟨n, hh⟩ := rn_i rfl rfl rfl rfl hh
        have hh : pm_run PT n fr lo 251 (92, [some (.ref 162), some (.int a), some (.int b), some (.int (cond (pm_cmp .ne a 0) (cond (pm_cmp .ne a (nI 1)) (cond (pm_cmp .ne a (nI 2)) (nI 1) (nI 5)) (nI 99)) (nI 4)))], [.ref 162], aset (fset h 162 0 (.int (nI 0))) 191 12 (upd (Ar h 191) u a), 198, sl) = some R := hh
        obtain ⟨n, hh⟩ := rn_gr (hc_a rfl rfl (hc_f rfl rfl (by decide) rfl hw)).wt rfl rfl (by decide) rfl (by decide) (show _ = some (2, ((192 : Nat) : Int), 1) from rfl) rfl hh
        obtain ⟨n, hh⟩ := rn_i rfl rfl rfl rfl hh
        have hh : pm_run PT n fr lo 251 (96, [some (.ref 162), some (.int a), some (.int b), some (.int (cond (pm_cmp .ne a 0) (cond (pm_cmp .ne a (nI 1)) (cond (pm_cmp .ne a (nI 2)) (nI 1) (nI 5)) (nI 99)) (nI 4)))], [.ref 162, .ref 192], aset (fset h 162 0 (.int (nI 0))) 191 12 (upd (Ar h 191) u a), 198, sl) = some R := hh
        obtain ⟨n, hh⟩ := rn_gi (x := nI u) (hc_a rfl rfl (hc_f rfl rfl (by decide) rfl hw)).wt rfl rfl (by decide) rfl (by decide) rfl ((Fi_a (by decide)).trans ((Fi_n (Or.inr (by decide))).trans e1)) hh
        obtain ⟨n, hh⟩ := rn_i rfl rfl rfl rfl hh
        have hh : pm_run PT n fr lo 251 (100, [some (.ref 162), some (.int a), some (.int b), some (.int (cond (pm_cmp .ne a 0) (cond (pm_cmp .ne a (nI 1)) (cond (pm_cmp .ne a (nI 2)) (nI 1) (nI 5)) (nI 99)) (nI 4)))], [.int b, .int (nI u), .ref 192], aset (fset h 162 0 (.int (nI 0))) 191 12 (upd (Ar h 191) u a), 198, sl) = some R := hh
        obtain ⟨n, hx17, hh⟩ := en_st (t := u) (f := Ar h 192) (nI_clamp (by omega)) (hc_a rfl rfl (hc_f rfl rfl (by decide) rfl hw)).wt rfl (by decide) rfl (by decide) ((Ar_n (by decide)).trans (Ar_f.trans rfl)) hh
        obtain ⟨n, hh⟩ := rn_i rfl rfl rfl rfl hh
        obtain ⟨n, hh⟩ := rn_i rfl rfl rfl rfl hh
        have hh : pm_run PT n fr lo 251 (103, [some (.ref 162), some (.int a), some (.int b), some (.int (cond (pm_cmp .ne a 0) (cond (pm_cmp .ne a (nI 1)) (cond (pm_cmp .ne a (nI 2)) (nI 1) (nI 5)) (nI 99)) (nI 4)))], [.ref 162, .ref 162], aset (aset (fset h 162 0 (.int (nI 0))) 191 12 (upd (Ar h 191) u a)) 192 12 (upd (Ar h 192) u b), 198, sl) = some R := hh
        obtain ⟨n, hh⟩ := rn_gi (x := nI u) (hc_a rfl rfl (hc_a rfl rfl (hc_f rfl rfl (by decide) rfl hw))).wt rfl rfl (by decide) rfl (by decide) rfl ((Fi_a (by decide)).trans ((Fi_a (by decide)).trans ((Fi_n (Or.inr (by decide))).trans e1))) hh
        obtain ⟨n, hh⟩ := rn_i rfl rfl rfl rfl hh
        have hh : pm_run PT n fr lo 251 (107, [some (.ref 162), some (.int a), some (.int b), some (.int (cond (pm_cmp .ne a 0) (cond (pm_cmp .ne a (nI 1)) (cond (pm_cmp .ne a (nI 2)) (nI 1) (nI 5)) (nI 99)) (nI 4)))], [.int (nI 1), .int (nI u), .ref 162], aset (aset (fset h 162 0 (.int (nI 0))) 191 12 (upd (Ar h 191) u a)) 192 12 (upd (Ar h 192) u b), 198, sl) = some R := hh
        obtain ⟨n, hh⟩ := en_add rfl hh
        have hh : pm_run PT n fr lo 251 (108, [some (.ref 162), some (.int a), some (.int b), some (.int (cond (pm_cmp .ne a 0) (cond (pm_cmp .ne a (nI 1)) (cond (pm_cmp .ne a (nI 2)) (nI 1) (nI 5)) (nI 99)) (nI 4)))], [.int (nI (u + 1)), .ref 162], aset (aset (fset h 162 0 (.int (nI 0))) 191 12 (upd (Ar h 191) u a)) 192 12 (upd (Ar h 192) u b), 198, sl) = some R := hh
        have hh : pm_run PT n fr lo 251 (108, [some (.ref 162), some (.int a), some (.int b), some (.int (cond (pm_cmp .ne a 0) (cond (pm_cmp .ne a (nI 1)) (cond (pm_cmp .ne a (nI 2)) (nI 1) (nI 5)) (nI 99)) (nI 4)))], [.int (nI (u + 1)), .ref 162], aset (aset (fset h 162 0 (.int (nI 0))) 191 12 (upd (Ar h 191) u a)) 192 12 (upd (Ar h 192) u b), 198, sl) = some R := hh
        obtain ⟨n, hh⟩ := rn_pi (hc_a rfl rfl (hc_a rfl rfl (hc_f rfl rfl (by decide) rfl hw))).wt rfl rfl (by decide) rfl (by decide) rfl hh
        obtain ⟨n, hh⟩ := rn_i rfl rfl rfl rfl hh
        have hh : pm_run PT n fr lo 251 (112, [some (.ref 162), some (.int a), some (.int b), some (.int (cond (pm_cmp .ne a 0) (cond (pm_cmp .ne a (nI 1)) (cond (pm_cmp .ne a (nI 2)) (nI 1) (nI 5)) (nI 99)) (nI 4)))], [.ref 162], fset (aset (aset (fset h 162 0 (.int (nI 0))) 191 12 (upd (Ar h 191) u a)) 192 12 (upd (Ar h 192) u b)) 162 47 (.int (nI (u + 1))), 198, sl) = some R := hh
        obtain ⟨n, hh⟩ := rn_gi (x := nI (u + 1)) (hc_f rfl rfl (by decide) rfl (hc_a rfl rfl (hc_a rfl rfl (hc_f rfl rfl (by decide) rfl hw)))).wt rfl rfl (by decide) rfl (by decide) rfl (Fi_s (hc_a rfl rfl (hc_a rfl rfl (hc_f rfl rfl (by decide) rfl hw))).wt (by decide) rfl (by decide) rfl) hh
        have hh : pm_run PT n fr lo 251 (115, [some (.ref 162), some (.int a), some (.int b), some (.int (cond (pm_cmp .ne a 0) (cond (pm_cmp .ne a (nI 1)) (cond (pm_cmp .ne a (nI 2)) (nI 1) (nI 5)) (nI 99)) (nI 4)))], [.int (nI (u + 1))], fset (aset (aset (fset h 162 0 (.int (nI 0))) 191 12 (upd (Ar h 191) u a)) 192 12 (upd (Ar h 192) u b)) 162 47 (.int (nI (u + 1))), 198, sl) = some R := hh
        have er18 : R = (some (.int (nI (u + 1))), fset (aset (aset (fset h 162 0 (.int (nI 0))) 191 12 (upd (Ar h 191) u a)) 192 12 (upd (Ar h 192) u b)) 162 47 (.int (nI (u + 1))), 198, sl) := (rn_ret rfl (Or.inl rfl) hh).2
        have ed : v251 q cc gc h u a b = (nI (u + 1), fset (aset (aset (fset h 162 0 (.int (nI 0))) 191 12 (upd (Ar h 191) u a)) 192 12 (upd (Ar h 192) u b)) 162 47 (.int (nI (u + 1)))) := (ct z8).trans ((ct z13).trans ((ct z14).trans rfl))
        refine ⟨?_, ?_, ?_⟩ <;> rw [ed]
        · exact er18
        · exact (hc_f rfl rfl (by decide) rfl (hc_a rfl rfl (hc_a rfl rfl (hc_f rfl rfl (by decide) rfl hw))))
        · exact (fr_f rfl rfl (fr_a rfl rfl (fr_a rfl rfl (fr_f rfl rfl fr_0))))
      | false =>
        have hh := en_f z14 hh
        have hh : pm_run PT n fr lo 251 (79, [some (.ref 162), some (.int a), some (.int b), some (.int (cond (pm_cmp .ne a 0) (cond (pm_cmp .ne a (nI 1)) (cond (pm_cmp .ne a (nI 2)) (nI 1) (nI 5)) (nI 99)) (nI 4)))], [], fset h 162 0 (.int (nI 0)), 198, sl) = some R := hh
        have y19 := of_decide_eq_false z14
        obtain ⟨n, hh⟩ := rn_i rfl rfl rfl rfl hh
        have hh : pm_run PT n fr lo 251 (80, [some (.ref 162), some (.int a), some (.int b), some (.int (cond (pm_cmp .ne a 0) (cond (pm_cmp .ne a (nI 1)) (cond (pm_cmp .ne a (nI 2)) (nI 1) (nI 5)) (nI 99)) (nI 4)))], [.int (Int32.ofInt (-1))], fset h 162 0 (.int (nI 0)), 198, sl) = some R := hh
        have er20 : R = (some (.int (Int32.ofInt (-1))), fset h 162 0 (.int (nI 0)), 198, sl) := (rn_ret rfl (Or.inl rfl) hh).2
        have ed : v251 q cc gc h u a b = ((Int32.ofInt (-1)), fset h 162 0 (.int (nI 0))) := (ct z8).trans ((ct z13).trans ((cf z14).trans rfl))
        refine ⟨?_, ?_, ?_⟩ <;> rw [ed]
        · exact er20
        · exact (hc_f rfl rfl (by decide) rfl hw)
        · exact (fr_f rfl rfl fr_0)
    | false =>
      have hh := en_nf z13 hh
      have hh : pm_run PT n fr lo 251 (79, [some (.ref 162), some (.int a), some (.int b), some (.int (cond (pm_cmp .ne a 0) (cond (pm_cmp .ne a (nI 1)) (cond (pm_cmp .ne a (nI 2)) (nI 1) (nI 5)) (nI 99)) (nI 4)))], [], fset h 162 0 (.int (nI 0)), 198, sl) = some R := hh
      obtain ⟨n, hh⟩ := rn_i rfl rfl rfl rfl hh
      have hh : pm_run PT n fr lo 251 (80, [some (.ref 162), some (.int a), some (.int b), some (.int (cond (pm_cmp .ne a 0) (cond (pm_cmp .ne a (nI 1)) (cond (pm_cmp .ne a (nI 2)) (nI 1) (nI 5)) (nI 99)) (nI 4)))], [.int (Int32.ofInt (-1))], fset h 162 0 (.int (nI 0)), 198, sl) = some R := hh
      have er21 : R = (some (.int (Int32.ofInt (-1))), fset h 162 0 (.int (nI 0)), 198, sl) := (rn_ret rfl (Or.inl rfl) hh).2
      have ed : v251 q cc gc h u a b = ((Int32.ofInt (-1)), fset h 162 0 (.int (nI 0))) := (ct z8).trans ((cf z13).trans rfl)
      refine ⟨?_, ?_, ?_⟩ <;> rw [ed]
      · exact er21
      · exact (hc_f rfl rfl (by decide) rfl hw)
      · exact (fr_f rfl rfl fr_0)
  | false =>
    have hh := en_nf z8 hh
    have hh : pm_run PT n fr lo 251 (79, [some (.ref 162), some (.int a), some (.int b), some (.int (cond (pm_cmp .ne a 0) (cond (pm_cmp .ne a (nI 1)) (cond (pm_cmp .ne a (nI 2)) (nI 1) (nI 5)) (nI 99)) (nI 4)))], [], fset h 162 0 (.int (nI 0)), 198, sl) = some R := hh
    obtain ⟨n, hh⟩ := rn_i rfl rfl rfl rfl hh
    have hh : pm_run PT n fr lo 251 (80, [some (.ref 162), some (.int a), some (.int b), some (.int (cond (pm_cmp .ne a 0) (cond (pm_cmp .ne a (nI 1)) (cond (pm_cmp .ne a (nI 2)) (nI 1) (nI 5)) (nI 99)) (nI 4)))], [.int (Int32.ofInt (-1))], fset h 162 0 (.int (nI 0)), 198, sl) = some R := hh
    have er22 : R = (some (.int (Int32.ofInt (-1))), fset h 162 0 (.int (nI 0)), 198, sl) := (rn_ret rfl (Or.inl rfl) hh).2
    have ed : v251 q cc gc h u a b = ((Int32.ofInt (-1)), fset h 162 0 (.int (nI 0))) := (cf z8).trans rfl
    refine ⟨?_, ?_, ?_⟩ <;> rw [ed]
    · exact er22
    · exact (hc_f rfl rfl (by decide) rfl hw)
    · exact (fr_f rfl rfl fr_0)
theorem v251_fr {cc gc : Nat} {q : QT} {h : pm_H} {u : Nat} {a : Int32} {b : Int32} (hw : HC q cc gc h) (hu : u ≤ 12) : HC q cc gc ((v251 q cc gc h u a b).2) ∧ frm [162, 191, 192] [(162, 0), (162, 47)] h ((v251 q cc gc h u a b).2) := by
  unfold v251
  refine cd_s (P := fun (p : Int32 × pm_H) => HC q cc gc ((p).2) ∧ frm [162, 191, 192] [(162, 0), (162, 47)] h ((p).2)) (b := in_b ((a).toInt64) (Int64.ofNat 0) (3 : Int64)) (fun _ => ?_) (fun _ => ?_)
  · refine cd_s (P := fun (p : Int32 × pm_H) => HC q cc gc ((p).2) ∧ frm [162, 191, 192] [(162, 0), (162, 47)] h ((p).2)) (b := in_b ((b).toInt64) ((cond (cond (pm_cmp .ne a (nI 1)) false true) 1 0 : Int32).toInt64) ((cond (pm_cmp .ne a 0) (cond (pm_cmp .ne a (nI 1)) (cond (pm_cmp .ne a (nI 2)) (nI 1) (nI 5)) (nI 99)) (nI 4)).toInt64)) (fun _ => ?_) (fun _ => ?_)
    · refine cd_s (P := fun (p : Int32 × pm_H) => HC q cc gc ((p).2) ∧ frm [162, 191, 192] [(162, 0), (162, 47)] h ((p).2)) (b := decide (¬ u = 12)) (fun _ => ?_) (fun _ => ?_)
      · show HC q cc gc (fset (aset (aset (fset h 162 0 (.int (nI 0))) 191 12 (upd (Ar h 191) u a)) 192 12 (upd (Ar h 192) u b)) 162 47 (.int (nI (u + 1)))) ∧ frm [162, 191, 192] [(162, 0), (162, 47)] h (fset (aset (aset (fset h 162 0 (.int (nI 0))) 191 12 (upd (Ar h 191) u a)) 192 12 (upd (Ar h 192) u b)) 162 47 (.int (nI (u + 1))))
        exact ⟨(hc_f rfl rfl (by decide) rfl (hc_a rfl rfl (hc_a rfl rfl (hc_f rfl rfl (by decide) rfl hw)))), (fr_f rfl rfl (fr_a rfl rfl (fr_a rfl rfl (fr_f rfl rfl fr_0))))⟩
      · show HC q cc gc (fset h 162 0 (.int (nI 0))) ∧ frm [162, 191, 192] [(162, 0), (162, 47)] h (fset h 162 0 (.int (nI 0)))
        exact ⟨(hc_f rfl rfl (by decide) rfl hw), (fr_f rfl rfl fr_0)⟩
    · show HC q cc gc (fset h 162 0 (.int (nI 0))) ∧ frm [162, 191, 192] [(162, 0), (162, 47)] h (fset h 162 0 (.int (nI 0)))
      exact ⟨(hc_f rfl rfl (by decide) rfl hw), (fr_f rfl rfl fr_0)⟩
  · show HC q cc gc (fset h 162 0 (.int (nI 0))) ∧ frm [162, 191, 192] [(162, 0), (162, 47)] h (fset h 162 0 (.int (nI 0)))
    exact ⟨(hc_f rfl rfl (by decide) rfl hw), (fr_f rfl rfl fr_0)⟩
def v262 (q : QT) (cc gc : Nat) (h : pm_H) (m : Nat) : Int32 × pm_H := (irm (ushr (((Fi h 162 51) * (nI 1103515245)) + (nI 12345)) (nI 16)) (nI m), fset h 162 51 (.int (((Fi h 162 51) * (nI 1103515245)) + (nI 12345))))
theorem v262_ok {n fr lo sl cc gc : Nat} {q : QT} {h : pm_H} {R : pm_Rs} {m : Nat} (hw : HC q cc gc h) (h_m : m < 10000) (hh : pm_run PT n fr lo 262 (0, pm_l0 [.ref 162, .int (nI m)] 2, [], h, 198, sl) = some R) : R = (some (.int ((v262 q cc gc h m).1)), (v262 q cc gc h m).2, 198, sl) ∧ HC q cc gc ((v262 q cc gc h m).2) ∧ frm [162] [(162, 51)] h ((v262 q cc gc h m).2) := by
  have hcc := hw.cb
  have hgc := hw.gb
  have hzr := hw.zr
  obtain ⟨n, hh⟩ := rn_i rfl rfl rfl rfl hh
  obtain ⟨n, hh⟩ := rn_i rfl rfl rfl rfl hh
  have hh : pm_run PT n fr lo 262 (2, [some (.ref 162), some (.int (nI m))], [.ref 162, .ref 162], h, 198, sl) = some R := hh
  obtain ⟨n, hh⟩ := rn_gi (x := Fi h 162 51) hw.wt rfl rfl (by decide) rfl (by decide) rfl rfl hh
  obtain ⟨n, hh⟩ := rn_i rfl rfl rfl rfl hh
  obtain ⟨n, hh⟩ := rn_i rfl rfl rfl rfl hh
  obtain ⟨n, hh⟩ := rn_i rfl rfl rfl rfl hh
  obtain ⟨n, hh⟩ := rn_i rfl rfl rfl rfl hh
  have hh : pm_run PT n fr lo 262 (13, [some (.ref 162), some (.int (nI m))], [.int (((Fi h 162 51) * (nI 1103515245)) + (nI 12345)), .ref 162], h, 198, sl) = some R := hh
  obtain ⟨n, hh⟩ := rn_pi hw.wt rfl rfl (by decide) rfl (by decide) rfl hh
  obtain ⟨n, hh⟩ := rn_i rfl rfl rfl rfl hh
  have hh : pm_run PT n fr lo 262 (17, [some (.ref 162), some (.int (nI m))], [.ref 162], fset h 162 51 (.int (((Fi h 162 51) * (nI 1103515245)) + (nI 12345))), 198, sl) = some R := hh
  obtain ⟨n, hh⟩ := rn_gi (x := ((Fi h 162 51) * (nI 1103515245)) + (nI 12345)) (hc_f rfl rfl (by decide) rfl hw).wt rfl rfl (by decide) rfl (by decide) rfl (Fi_s hw.wt (by decide) rfl (by decide) rfl) hh
  obtain ⟨n, hh⟩ := rn_i rfl rfl rfl rfl hh
  obtain ⟨n, hh⟩ := rn_i rfl rfl rfl rfl hh
  obtain ⟨n, hh⟩ := rn_i rfl rfl rfl rfl hh
  have hh : pm_run PT n fr lo 262 (24, [some (.ref 162), some (.int (nI m))], [.int (nI m), .int (ushr (((Fi h 162 51) * (nI 1103515245)) + (nI 12345)) (nI 16))], fset h 162 51 (.int (((Fi h 162 51) * (nI 1103515245)) + (nI 12345))), 198, sl) = some R := hh
  obtain ⟨n, hz1, hh⟩ := rn_rm rfl hh
  have hh : pm_run PT n fr lo 262 (25, [some (.ref 162), some (.int (nI m))], [.int (irm (ushr (((Fi h 162 51) * (nI 1103515245)) + (nI 12345)) (nI 16)) (nI m))], fset h 162 51 (.int (((Fi h 162 51) * (nI 1103515245)) + (nI 12345))), 198, sl) = some R := hh
  have er2 : R = (some (.int (irm (ushr (((Fi h 162 51) * (nI 1103515245)) + (nI 12345)) (nI 16)) (nI m))), fset h 162 51 (.int (((Fi h 162 51) * (nI 1103515245)) + (nI 12345))), 198, sl) := (rn_ret rfl (Or.inl rfl) hh).2
  have ed : v262 q cc gc h m = (irm (ushr (((Fi h 162 51) * (nI 1103515245)) + (nI 12345)) (nI 16)) (nI m), fset h 162 51 (.int (((Fi h 162 51) * (nI 1103515245)) + (nI 12345)))) := rfl
  refine ⟨?_, ?_, ?_⟩ <;> rw [ed]
  · exact er2
  · exact (hc_f rfl rfl (by decide) rfl hw)
  · exact (fr_f rfl rfl fr_0)
theorem v262_fr {cc gc : Nat} {q : QT} {h : pm_H} {m : Nat} (hw : HC q cc gc h) : HC q cc gc ((v262 q cc gc h m).2) ∧ frm [162] [(162, 51)] h ((v262 q cc gc h m).2) := by
  unfold v262
  show HC q cc gc (fset h 162 51 (.int (((Fi h 162 51) * (nI 1103515245)) + (nI 12345)))) ∧ frm [162] [(162, 51)] h (fset h 162 51 (.int (((Fi h 162 51) * (nI 1103515245)) + (nI 12345))))
  exact ⟨(hc_f rfl rfl (by decide) rfl hw), (fr_f rfl rfl fr_0)⟩
def v125 (q : QT) (cc gc : Nat) (h : pm_H) (i : Nat) : Bool × pm_H := cond (decide (i < 3)) (true, fset (cp73 h (124 + 6 * i) 13) 0 7 (.int ((Fi h 0 7) ||| (shl (nI 1) (nI i))))) (false, h)
theorem v125_ok {n fr lo sl cc gc : Nat} {q : QT} {h : pm_H} {R : pm_Rs} {i : Nat} (hw : HC q cc gc h) (h_i : i < 10000) (hi3 : i < 3) (hh : pm_run PT n fr lo 125 (0, pm_l0 [.ref 0, .int (nI i)] 2, [], h, 198, sl) = some R) : R = (some (.int (cond (v125 q cc gc h i).1 1 0)), (v125 q cc gc h i).2, 198, sl) ∧ HC q cc gc ((v125 q cc gc h i).2) ∧ frm [0, 124, 125, 126, 127, 128, 129, 130, 131, 132, 133, 134, 135, 136, 137, 138, 139, 140, 141] [(0, 7), (124, 5), (124, 6), (130, 5), (130, 6), (136, 5), (136, 6)] h ((v125 q cc gc h i).2) := by
  have hcc := hw.cb
  have hgc := hw.gb
  have hzr := hw.zr
  obtain ⟨n, hh⟩ := rn_i rfl rfl rfl rfl hh
  have hh : pm_run PT n fr lo 125 (1, [some (.ref 0), some (.int (nI i))], [.int (nI i)], h, 198, sl) = some R := hh
  obtain ⟨n, hh⟩ := en_zn (cc := .lt) (off := 8) (t := 9) (b := decide (i < 0)) (hI_lt (b := 0) (by omega) (by omega)) rfl rfl hh
  have hh := en_f (show decide (i < 0) = false from decide_eq_false (by omega)) hh
  have hh : pm_run PT n fr lo 125 (4, [some (.ref 0), some (.int (nI i))], [], h, 198, sl) = some R := hh
  obtain ⟨n, hh⟩ := rn_i rfl rfl rfl rfl hh
  obtain ⟨n, hh⟩ := rn_i rfl rfl rfl rfl hh
  have hh : pm_run PT n fr lo 125 (6, [some (.ref 0), some (.int (nI i))], [.int (nI 3), .int (nI i)], h, 198, sl) = some R := hh
  obtain ⟨n, hh⟩ := en_cn (cc := .lt) (off := 5) (t := 11) (b := decide (i < 3)) (hI_lt (by omega) (by omega)) rfl rfl hh
  cases z1 : decide (i < 3) with
  | true =>
    have hh := en_t z1 hh
    have hh : pm_run PT n fr lo 125 (11, [some (.ref 0), some (.int (nI i))], [], h, 198, sl) = some R := hh
    have y2 := of_decide_eq_true z1
    obtain ⟨n, hh⟩ := rn_i rfl rfl rfl rfl hh
    have hh : pm_run PT n fr lo 125 (12, [some (.ref 0), some (.int (nI i))], [.ref 0], h, 198, sl) = some R := hh
    obtain ⟨n, hh⟩ := rn_gr hw.wt rfl rfl (by decide) rfl (by decide) (show _ = some (2, ((123 : Nat) : Int), 1) from rfl) rfl hh
    obtain ⟨n, hh⟩ := rn_i rfl rfl rfl rfl hh
    have hh : pm_run PT n fr lo 125 (16, [some (.ref 0), some (.int (nI i))], [.int (nI i), .ref 123], h, 198, sl) = some R := hh
    obtain ⟨n, hx3, hh⟩ := en_q123 (t := i) (by omega) hw.wt rfl hh
    have hh : pm_run PT n fr lo 125 (17, [some (.ref 0), some (.int (nI i))], [.ref (124 + 6 * i)], h, 198, sl) = some R := hh
    obtain ⟨n, hh⟩ := rn_i rfl rfl rfl rfl hh
    have hh : pm_run PT n fr lo 125 (18, [some (.ref 0), some (.int (nI i))], [.ref 0, .ref (124 + 6 * i)], h, 198, sl) = some R := hh
    obtain ⟨n, hh⟩ := rn_gr hw.wt rfl rfl (by decide) rfl (by decide) (show _ = some (2, ((13 : Nat) : Int), 1) from rfl) rfl hh
    have hh : pm_run PT n fr lo 125 (21, [some (.ref 0), some (.int (nI i))], [.ref 13, .ref (124 + 6 * i)], h, 198, sl) = some R := hh
    obtain ⟨n, fr1, lo1, r1, hh1, hh⟩ := rn_call (w := 0) (t := 73) rfl rfl hh
    obtain ⟨er4, hc5⟩ := cp73_ok (xst_124 (by omega)) rfl (by omega) hw hh1
    subst er4
    obtain ⟨n, hh⟩ := rn_i rfl rfl rfl rfl hh
    obtain ⟨n, hh⟩ := rn_i rfl rfl rfl rfl hh
    have hh : pm_run PT n fr lo 125 (26, [some (.ref 0), some (.int (nI i))], [.ref 0, .ref 0], cp73 h (124 + 6 * i) 13, 198, sl) = some R := hh
    obtain ⟨n, hh⟩ := rn_gi (x := Fi h 0 7) hc5.wt rfl rfl (by decide) rfl (by decide) rfl ((Fi_e (cp73_ne (by omega))).trans rfl) hh
    obtain ⟨n, hh⟩ := rn_i rfl rfl rfl rfl hh
    obtain ⟨n, hh⟩ := rn_i rfl rfl rfl rfl hh
    obtain ⟨n, hh⟩ := rn_i rfl rfl rfl rfl hh
    obtain ⟨n, hh⟩ := rn_i rfl rfl rfl rfl hh
    have hh : pm_run PT n fr lo 125 (33, [some (.ref 0), some (.int (nI i))], [.int ((Fi h 0 7) ||| (shl (nI 1) (nI i))), .ref 0], cp73 h (124 + 6 * i) 13, 198, sl) = some R := hh
    obtain ⟨n, hh⟩ := rn_pi hc5.wt rfl rfl (by decide) rfl (by decide) rfl hh
    obtain ⟨n, hh⟩ := rn_i rfl rfl rfl rfl hh
    have hh : pm_run PT n fr lo 125 (37, [some (.ref 0), some (.int (nI i))], [.int (nI 1)], fset (cp73 h (124 + 6 * i) 13) 0 7 (.int ((Fi h 0 7) ||| (shl (nI 1) (nI i)))), 198, sl) = some R := hh
    have er6 : R = (some (.int (nI 1)), fset (cp73 h (124 + 6 * i) 13) 0 7 (.int ((Fi h 0 7) ||| (shl (nI 1) (nI i)))), 198, sl) := (rn_ret rfl (Or.inr rfl) hh).2
    have ed : v125 q cc gc h i = (true, fset (cp73 h (124 + 6 * i) 13) 0 7 (.int ((Fi h 0 7) ||| (shl (nI 1) (nI i))))) := (ct z1).trans rfl
    refine ⟨?_, ?_, ?_⟩ <;> rw [ed]
    · exact er6
    · exact (hc_f rfl rfl (by decide) rfl hc5)
    · exact (fr_f rfl rfl (fr_c124 (by omega) hw.wt rfl rfl fr_0))
  | false =>
    have hh := en_f z1 hh
    have hh : pm_run PT n fr lo 125 (9, [some (.ref 0), some (.int (nI i))], [], h, 198, sl) = some R := hh
    have y7 := of_decide_eq_false z1
    obtain ⟨n, hh⟩ := rn_i rfl rfl rfl rfl hh
    have hh : pm_run PT n fr lo 125 (10, [some (.ref 0), some (.int (nI i))], [.int (nI 0)], h, 198, sl) = some R := hh
    have er8 : R = (some (.int (nI 0)), h, 198, sl) := (rn_ret rfl (Or.inr rfl) hh).2
    have ed : v125 q cc gc h i = (false, h) := (cf z1).trans rfl
    refine ⟨?_, ?_, ?_⟩ <;> rw [ed]
    · exact er8
    · exact hw
    · exact fr_0
theorem v125_fr {cc gc : Nat} {q : QT} {h : pm_H} {i : Nat} (hw : HC q cc gc h) (hi3 : i < 3) : HC q cc gc ((v125 q cc gc h i).2) ∧ frm [0, 124, 125, 126, 127, 128, 129, 130, 131, 132, 133, 134, 135, 136, 137, 138, 139, 140, 141] [(0, 7), (124, 5), (124, 6), (130, 5), (130, 6), (136, 5), (136, 6)] h ((v125 q cc gc h i).2) := by
  unfold v125
  refine cd_s (P := fun (p : Bool × pm_H) => HC q cc gc ((p).2) ∧ frm [0, 124, 125, 126, 127, 128, 129, 130, 131, 132, 133, 134, 135, 136, 137, 138, 139, 140, 141] [(0, 7), (124, 5), (124, 6), (130, 5), (130, 6), (136, 5), (136, 6)] h ((p).2)) (b := decide (i < 3)) (fun _ => ?_) (fun _ => ?_)
  · show HC q cc gc (fset (cp73 h (124 + 6 * i) 13) 0 7 (.int ((Fi h 0 7) ||| (shl (nI 1) (nI i))))) ∧ frm [0, 124, 125, 126, 127, 128, 129, 130, 131, 132, 133, 134, 135, 136, 137, 138, 139, 140, 141] [(0, 7), (124, 5), (124, 6), (130, 5), (130, 6), (136, 5), (136, 6)] h (fset (cp73 h (124 + 6 * i) 13) 0 7 (.int ((Fi h 0 7) ||| (shl (nI 1) (nI i)))))
    exact ⟨(hc_f rfl rfl (by decide) rfl (cp73_hc (xst_124 (by omega)) hw)), (fr_f rfl rfl (fr_c124 (by omega) hw.wt rfl rfl fr_0))⟩
  · show HC q cc gc (h) ∧ frm [0, 124, 125, 126, 127, 128, 129, 130, 131, 132, 133, 134, 135, 136, 137, 138, 139, 140, 141] [(0, 7), (124, 5), (124, 6), (130, 5), (130, 6), (136, 5), (136, 6)] h (h)
    exact ⟨hw, fr_0⟩
def v126 (q : QT) (cc gc : Nat) (h : pm_H) (i : Nat) : Bool × pm_H := cond (decide (3 ≤ i)) (false, h) (cond (pm_cmp .ne ((shr (Fi h 0 7) (nI i)) &&& (nI 1)) 0) (true, fset (cp73 h 13 (124 + 6 * i)) 25 2 (.int (nI 0))) (false, h))
theorem v126_ok {n fr lo sl cc gc : Nat} {q : QT} {h : pm_H} {R : pm_Rs} {i : Nat} (hw : HC q cc gc h) (h_i : i < 10000) (hh : pm_run PT n fr lo 126 (0, pm_l0 [.ref 0, .int (nI i)] 2, [], h, 198, sl) = some R) : R = (some (.int (cond (v126 q cc gc h i).1 1 0)), (v126 q cc gc h i).2, 198, sl) ∧ HC q cc gc ((v126 q cc gc h i).2) ∧ frm [13, 14, 15, 16, 17, 18, 25] [(13, 5), (13, 6), (25, 2)] h ((v126 q cc gc h i).2) := by
  have hcc := hw.cb
  have hgc := hw.gb
  have hzr := hw.zr
  obtain ⟨n, hh⟩ := rn_i rfl rfl rfl rfl hh
  have hh : pm_run PT n fr lo 126 (1, [some (.ref 0), some (.int (nI i))], [.int (nI i)], h, 198, sl) = some R := hh
  obtain ⟨n, hh⟩ := en_zn (cc := .lt) (off := 19) (t := 20) (b := decide (i < 0)) (hI_lt (b := 0) (by omega) (by omega)) rfl rfl hh
  have hh := en_f (show decide (i < 0) = false from decide_eq_false (by omega)) hh
  have hh : pm_run PT n fr lo 126 (4, [some (.ref 0), some (.int (nI i))], [], h, 198, sl) = some R := hh
  obtain ⟨n, hh⟩ := rn_i rfl rfl rfl rfl hh
  obtain ⟨n, hh⟩ := rn_i rfl rfl rfl rfl hh
  have hh : pm_run PT n fr lo 126 (6, [some (.ref 0), some (.int (nI i))], [.int (nI 3), .int (nI i)], h, 198, sl) = some R := hh
  obtain ⟨n, hh⟩ := en_cn (cc := .ge) (off := 14) (t := 20) (b := decide (3 ≤ i)) (hI_ge (by omega) (by omega)) rfl rfl hh
  cases z1 : decide (3 ≤ i) with
  | true =>
    have hh := en_t z1 hh
    have hh : pm_run PT n fr lo 126 (20, [some (.ref 0), some (.int (nI i))], [], h, 198, sl) = some R := hh
    have y2 := of_decide_eq_true z1
    obtain ⟨n, hh⟩ := rn_i rfl rfl rfl rfl hh
    have hh : pm_run PT n fr lo 126 (21, [some (.ref 0), some (.int (nI i))], [.int (nI 0)], h, 198, sl) = some R := hh
    have er3 : R = (some (.int (nI 0)), h, 198, sl) := (rn_ret rfl (Or.inr rfl) hh).2
    have ed : v126 q cc gc h i = (false, h) := (ct z1).trans rfl
    refine ⟨?_, ?_, ?_⟩ <;> rw [ed]
    · exact er3
    · exact hw
    · exact fr_0
  | false =>
    have hh := en_f z1 hh
    have hh : pm_run PT n fr lo 126 (9, [some (.ref 0), some (.int (nI i))], [], h, 198, sl) = some R := hh
    have y4 := of_decide_eq_false z1
    obtain ⟨n, hh⟩ := rn_i rfl rfl rfl rfl hh
    have hh : pm_run PT n fr lo 126 (10, [some (.ref 0), some (.int (nI i))], [.ref 0], h, 198, sl) = some R := hh
    obtain ⟨n, hh⟩ := rn_gi (x := Fi h 0 7) hw.wt rfl rfl (by decide) rfl (by decide) rfl rfl hh
    obtain ⟨n, hh⟩ := rn_i rfl rfl rfl rfl hh
    obtain ⟨n, hh⟩ := rn_i rfl rfl rfl rfl hh
    obtain ⟨n, hh⟩ := rn_i rfl rfl rfl rfl hh
    obtain ⟨n, hh⟩ := rn_i rfl rfl rfl rfl hh
    have hh : pm_run PT n fr lo 126 (17, [some (.ref 0), some (.int (nI i))], [.int ((shr (Fi h 0 7) (nI i)) &&& (nI 1))], h, 198, sl) = some R := hh
    obtain ⟨n, hh⟩ := en_zn (cc := .ne) (off := 5) (t := 22) (b := pm_cmp .ne ((shr (Fi h 0 7) (nI i)) &&& (nI 1)) 0) rfl rfl rfl hh
    cases z5 : pm_cmp .ne ((shr (Fi h 0 7) (nI i)) &&& (nI 1)) 0 with
    | true =>
      have hh := en_t z5 hh
      have hh : pm_run PT n fr lo 126 (22, [some (.ref 0), some (.int (nI i))], [], h, 198, sl) = some R := hh
      obtain ⟨n, hh⟩ := rn_i rfl rfl rfl rfl hh
      have hh : pm_run PT n fr lo 126 (23, [some (.ref 0), some (.int (nI i))], [.ref 0], h, 198, sl) = some R := hh
      obtain ⟨n, hh⟩ := rn_gr hw.wt rfl rfl (by decide) rfl (by decide) (show _ = some (2, ((13 : Nat) : Int), 1) from rfl) rfl hh
      obtain ⟨n, hh⟩ := rn_i rfl rfl rfl rfl hh
      have hh : pm_run PT n fr lo 126 (27, [some (.ref 0), some (.int (nI i))], [.ref 0, .ref 13], h, 198, sl) = some R := hh
      obtain ⟨n, hh⟩ := rn_gr hw.wt rfl rfl (by decide) rfl (by decide) (show _ = some (2, ((123 : Nat) : Int), 1) from rfl) rfl hh
      obtain ⟨n, hh⟩ := rn_i rfl rfl rfl rfl hh
      have hh : pm_run PT n fr lo 126 (31, [some (.ref 0), some (.int (nI i))], [.int (nI i), .ref 123, .ref 13], h, 198, sl) = some R := hh
      obtain ⟨n, hx6, hh⟩ := en_q123 (t := i) (by omega) hw.wt rfl hh
      have hh : pm_run PT n fr lo 126 (32, [some (.ref 0), some (.int (nI i))], [.ref (124 + 6 * i), .ref 13], h, 198, sl) = some R := hh
      have hh : pm_run PT n fr lo 126 (32, [some (.ref 0), some (.int (nI i))], [.ref (124 + 6 * i), .ref 13], h, 198, sl) = some R := hh
      obtain ⟨n, fr1, lo1, r1, hh1, hh⟩ := rn_call (w := 0) (t := 73) rfl rfl hh
      obtain ⟨er7, hc8⟩ := cp73_ok rfl (xst_124 (by omega)) (by omega) hw hh1
      subst er7
      obtain ⟨n, hh⟩ := rn_i rfl rfl rfl rfl hh
      have hh : pm_run PT n fr lo 126 (36, [some (.ref 0), some (.int (nI i))], [.ref 0], cp73 h 13 (124 + 6 * i), 198, sl) = some R := hh
      obtain ⟨n, hh⟩ := rn_gr hc8.wt rfl rfl (by decide) rfl (by decide) (show _ = some (2, ((25 : Nat) : Int), 1) from rfl) rfl hh
      have hh : pm_run PT n fr lo 126 (39, [some (.ref 0), some (.int (nI i))], [.ref 25], cp73 h 13 (124 + 6 * i), 198, sl) = some R := hh
      obtain ⟨n, fr1, lo1, r1, hh1, hh⟩ := rn_call (w := 0) (t := 20) rfl rfl hh
      have hh1 : pm_run PT n fr1 lo1 20 (0, [some (.ref 25)], [], cp73 h 13 (124 + 6 * i), 198, sl) = some r1 := hh1
      obtain ⟨n1, hh1⟩ := rn_i rfl rfl rfl rfl hh1
      obtain ⟨n1, hh1⟩ := rn_i rfl rfl rfl rfl hh1
      have hh1 : pm_run PT n1 fr1 lo1 20 (2, [some (.ref 25)], [.int (nI 0), .ref 25], cp73 h 13 (124 + 6 * i), 198, sl) = some r1 := hh1
      obtain ⟨n1, hh1⟩ := rn_pi hc8.wt rfl rfl (by decide) rfl (by decide) rfl hh1
      have er9 : r1 = (none, fset (cp73 h 13 (124 + 6 * i)) 25 2 (.int (nI 0)), 198, sl) := rn_vret rfl rfl hh1
      subst er9
      obtain ⟨n, hh⟩ := rn_i rfl rfl rfl rfl hh
      have hh : pm_run PT n fr lo 126 (43, [some (.ref 0), some (.int (nI i))], [.int (nI 1)], fset (cp73 h 13 (124 + 6 * i)) 25 2 (.int (nI 0)), 198, sl) = some R := hh
      have er10 : R = (some (.int (nI 1)), fset (cp73 h 13 (124 + 6 * i)) 25 2 (.int (nI 0)), 198, sl) := (rn_ret rfl (Or.inr rfl) hh).2
      have ed : v126 q cc gc h i = (true, fset (cp73 h 13 (124 + 6 * i)) 25 2 (.int (nI 0))) := (cf z1).trans ((ct z5).trans rfl)
      refine ⟨?_, ?_, ?_⟩ <;> rw [ed]
      · exact er10
      · exact (hc_f rfl rfl (by decide) rfl hc8)
      · exact (fr_f rfl rfl (fr_cs rfl hw.wt rfl rfl fr_0))
    | false =>
      have hh := en_f z5 hh
      have hh : pm_run PT n fr lo 126 (20, [some (.ref 0), some (.int (nI i))], [], h, 198, sl) = some R := hh
      obtain ⟨n, hh⟩ := rn_i rfl rfl rfl rfl hh
      have hh : pm_run PT n fr lo 126 (21, [some (.ref 0), some (.int (nI i))], [.int (nI 0)], h, 198, sl) = some R := hh
      have er11 : R = (some (.int (nI 0)), h, 198, sl) := (rn_ret rfl (Or.inr rfl) hh).2
      have ed : v126 q cc gc h i = (false, h) := (cf z1).trans ((cf z5).trans rfl)
      refine ⟨?_, ?_, ?_⟩ <;> rw [ed]
      · exact er11
      · exact hw
      · exact fr_0
theorem v126_fr {cc gc : Nat} {q : QT} {h : pm_H} {i : Nat} (hw : HC q cc gc h) : HC q cc gc ((v126 q cc gc h i).2) ∧ frm [13, 14, 15, 16, 17, 18, 25] [(13, 5), (13, 6), (25, 2)] h ((v126 q cc gc h i).2) := by
  unfold v126
  refine cd_s (P := fun (p : Bool × pm_H) => HC q cc gc ((p).2) ∧ frm [13, 14, 15, 16, 17, 18, 25] [(13, 5), (13, 6), (25, 2)] h ((p).2)) (b := decide (3 ≤ i)) (fun _ => ?_) (fun _ => ?_)
  · show HC q cc gc (h) ∧ frm [13, 14, 15, 16, 17, 18, 25] [(13, 5), (13, 6), (25, 2)] h (h)
    exact ⟨hw, fr_0⟩
  · refine cd_s (P := fun (p : Bool × pm_H) => HC q cc gc ((p).2) ∧ frm [13, 14, 15, 16, 17, 18, 25] [(13, 5), (13, 6), (25, 2)] h ((p).2)) (b := pm_cmp .ne ((shr (Fi h 0 7) (nI i)) &&& (nI 1)) 0) (fun _ => ?_) (fun _ => ?_)
    · show HC q cc gc (fset (cp73 h 13 (124 + 6 * i)) 25 2 (.int (nI 0))) ∧ frm [13, 14, 15, 16, 17, 18, 25] [(13, 5), (13, 6), (25, 2)] h (fset (cp73 h 13 (124 + 6 * i)) 25 2 (.int (nI 0)))
      exact ⟨(hc_f rfl rfl (by decide) rfl (cp73_hc rfl hw)), (fr_f rfl rfl (fr_cs rfl hw.wt rfl rfl fr_0))⟩
    · show HC q cc gc (h) ∧ frm [13, 14, 15, 16, 17, 18, 25] [(13, 5), (13, 6), (25, 2)] h (h)
      exact ⟨hw, fr_0⟩
end EG
