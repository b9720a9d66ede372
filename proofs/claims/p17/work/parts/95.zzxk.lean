section MH95zzxkx0
/-! runs told exactly, written by ext.py -/
section EG
def v269 (q : QT) (cc gc : Nat) (a : Int32) : Int32 := cond (pm_cmp .gt ((a ^^^ (Int32.ofInt (-1))) &&& (a - (nI 1))) 0) ((cond (pm_cmp .le (cond (pm_cmp .le (cond (pm_cmp .le (cond (pm_cmp .le ((a ^^^ (Int32.ofInt (-1))) &&& (a - (nI 1))) (nI 65536)) ((a ^^^ (Int32.ofInt (-1))) &&& (a - (nI 1))) (ushr ((a ^^^ (Int32.ofInt (-1))) &&& (a - (nI 1))) (nI 16))) (nI 256)) (cond (pm_cmp .le ((a ^^^ (Int32.ofInt (-1))) &&& (a - (nI 1))) (nI 65536)) ((a ^^^ (Int32.ofInt (-1))) &&& (a - (nI 1))) (ushr ((a ^^^ (Int32.ofInt (-1))) &&& (a - (nI 1))) (nI 16))) (ushr (cond (pm_cmp .le ((a ^^^ (Int32.ofInt (-1))) &&& (a - (nI 1))) (nI 65536)) ((a ^^^ (Int32.ofInt (-1))) &&& (a - (nI 1))) (ushr ((a ^^^ (Int32.ofInt (-1))) &&& (a - (nI 1))) (nI 16))) (nI 8))) (nI 16)) (cond (pm_cmp .le (cond (pm_cmp .le ((a ^^^ (Int32.ofInt (-1))) &&& (a - (nI 1))) (nI 65536)) ((a ^^^ (Int32.ofInt (-1))) &&& (a - (nI 1))) (ushr ((a ^^^ (Int32.ofInt (-1))) &&& (a - (nI 1))) (nI 16))) (nI 256)) (cond (pm_cmp .le ((a ^^^ (Int32.ofInt (-1))) &&& (a - (nI 1))) (nI 65536)) ((a ^^^ (Int32.ofInt (-1))) &&& (a - (nI 1))) (ushr ((a ^^^ (Int32.ofInt (-1))) &&& (a - (nI 1))) (nI 16))) (ushr (cond (pm_cmp .le ((a ^^^ (Int32.ofInt (-1))) &&& (a - (nI 1))) (nI 65536)) ((a ^^^ (Int32.ofInt (-1))) &&& (a - (nI 1))) (ushr ((a ^^^ (Int32.ofInt (-1))) &&& (a - (nI 1))) (nI 16))) (nI 8))) (ushr (cond (pm_cmp .le (cond (pm_cmp .le ((a ^^^ (Int32.ofInt (-1))) &&& (a - (nI 1))) (nI 65536)) ((a ^^^ (Int32.ofInt (-1))) &&& (a - (nI 1))) (ushr ((a ^^^ (Int32.ofInt (-1))) &&& (a - (nI 1))) (nI 16))) (nI 256)) (cond (pm_cmp .le ((a ^^^ (Int32.ofInt (-1))) &&& (a - (nI 1))) (nI 65536)) ((a ^^^ (Int32.ofInt (-1))) &&& (a - (nI 1))) (ushr ((a ^^^ (Int32.ofInt (-1))) &&& (a - (nI 1))) (nI 16))) (ushr (cond (pm_cmp .le ((a ^^^ (Int32.ofInt (-1))) &&& (a - (nI 1))) (nI 65536)) ((a ^^^ (Int32.ofInt (-1))) &&& (a - (nI 1))) (ushr ((a ^^^ (Int32.ofInt (-1))) &&& (a - (nI 1))) (nI 16))) (nI 8))) (nI 4))) (nI 4)) (cond (pm_cmp .le (cond (pm_cmp .le (cond (pm_cmp .le ((a ^^^ (Int32.ofInt (-1))) &&& (a - (nI 1))) (nI 65536)) ((a ^^^ (Int32.ofInt (-1))) &&& (a - (nI 1))) (ushr ((a ^^^ (Int32.ofInt (-1))) &&& (a - (nI 1))) (nI 16))) (nI 256)) (cond (pm_cmp .le ((a ^^^ (Int32.ofInt (-1))) &&& (a - (nI 1))) (nI 65536)) ((a ^^^ (Int32.ofInt (-1))) &&& (a - (nI 1))) (ushr ((a ^^^ (Int32.ofInt (-1))) &&& (a - (nI 1))) (nI 16))) (ushr (cond (pm_cmp .le ((a ^^^ (Int32.ofInt (-1))) &&& (a - (nI 1))) (nI 65536)) ((a ^^^ (Int32.ofInt (-1))) &&& (a - (nI 1))) (ushr ((a ^^^ (Int32.ofInt (-1))) &&& (a - (nI 1))) (nI 16))) (nI 8))) (nI 16)) (cond (pm_cmp .le (cond (pm_cmp .le ((a ^^^ (Int32.ofInt (-1))) &&& (a - (nI 1))) (nI 65536)) ((a ^^^ (Int32.ofInt (-1))) &&& (a - (nI 1))) (ushr ((a ^^^ (Int32.ofInt (-1))) &&& (a - (nI 1))) (nI 16))) (nI 256)) (cond (pm_cmp .le ((a ^^^ (Int32.ofInt (-1))) &&& (a - (nI 1))) (nI 65536)) (nI 1) (nI 17)) ((cond (pm_cmp .le ((a ^^^ (Int32.ofInt (-1))) &&& (a - (nI 1))) (nI 65536)) (nI 1) (nI 17)) + Int32.ofInt 8)) ((cond (pm_cmp .le (cond (pm_cmp .le ((a ^^^ (Int32.ofInt (-1))) &&& (a - (nI 1))) (nI 65536)) ((a ^^^ (Int32.ofInt (-1))) &&& (a - (nI 1))) (ushr ((a ^^^ (Int32.ofInt (-1))) &&& (a - (nI 1))) (nI 16))) (nI 256)) (cond (pm_cmp .le ((a ^^^ (Int32.ofInt (-1))) &&& (a - (nI 1))) (nI 65536)) (nI 1) (nI 17)) ((cond (pm_cmp .le ((a ^^^ (Int32.ofInt (-1))) &&& (a - (nI 1))) (nI 65536)) (nI 1) (nI 17)) + Int32.ofInt 8)) + Int32.ofInt 4)) ((cond (pm_cmp .le (cond (pm_cmp .le (cond (pm_cmp .le ((a ^^^ (Int32.ofInt (-1))) &&& (a - (nI 1))) (nI 65536)) ((a ^^^ (Int32.ofInt (-1))) &&& (a - (nI 1))) (ushr ((a ^^^ (Int32.ofInt (-1))) &&& (a - (nI 1))) (nI 16))) (nI 256)) (cond (pm_cmp .le ((a ^^^ (Int32.ofInt (-1))) &&& (a - (nI 1))) (nI 65536)) ((a ^^^ (Int32.ofInt (-1))) &&& (a - (nI 1))) (ushr ((a ^^^ (Int32.ofInt (-1))) &&& (a - (nI 1))) (nI 16))) (ushr (cond (pm_cmp .le ((a ^^^ (Int32.ofInt (-1))) &&& (a - (nI 1))) (nI 65536)) ((a ^^^ (Int32.ofInt (-1))) &&& (a - (nI 1))) (ushr ((a ^^^ (Int32.ofInt (-1))) &&& (a - (nI 1))) (nI 16))) (nI 8))) (nI 16)) (cond (pm_cmp .le (cond (pm_cmp .le ((a ^^^ (Int32.ofInt (-1))) &&& (a - (nI 1))) (nI 65536)) ((a ^^^ (Int32.ofInt (-1))) &&& (a - (nI 1))) (ushr ((a ^^^ (Int32.ofInt (-1))) &&& (a - (nI 1))) (nI 16))) (nI 256)) (cond (pm_cmp .le ((a ^^^ (Int32.ofInt (-1))) &&& (a - (nI 1))) (nI 65536)) (nI 1) (nI 17)) ((cond (pm_cmp .le ((a ^^^ (Int32.ofInt (-1))) &&& (a - (nI 1))) (nI 65536)) (nI 1) (nI 17)) + Int32.ofInt 8)) ((cond (pm_cmp .le (cond (pm_cmp .le ((a ^^^ (Int32.ofInt (-1))) &&& (a - (nI 1))) (nI 65536)) ((a ^^^ (Int32.ofInt (-1))) &&& (a - (nI 1))) (ushr ((a ^^^ (Int32.ofInt (-1))) &&& (a - (nI 1))) (nI 16))) (nI 256)) (cond (pm_cmp .le ((a ^^^ (Int32.ofInt (-1))) &&& (a - (nI 1))) (nI 65536)) (nI 1) (nI 17)) ((cond (pm_cmp .le ((a ^^^ (Int32.ofInt (-1))) &&& (a - (nI 1))) (nI 65536)) (nI 1) (nI 17)) + Int32.ofInt 8)) + Int32.ofInt 4)) + Int32.ofInt 2)) + (ushr (cond (pm_cmp .le (cond (pm_cmp .le (cond (pm_cmp .le (cond (pm_cmp .le ((a ^^^ (Int32.ofInt (-1))) &&& (a - (nI 1))) (nI 65536)) ((a ^^^ (Int32.ofInt (-1))) &&& (a - (nI 1))) (ushr ((a ^^^ (Int32.ofInt (-1))) &&& (a - (nI 1))) (nI 16))) (nI 256)) (cond (pm_cmp .le ((a ^^^ (Int32.ofInt (-1))) &&& (a - (nI 1))) (nI 65536)) ((a ^^^ (Int32.ofInt (-1))) &&& (a - (nI 1))) (ushr ((a ^^^ (Int32.ofInt (-1))) &&& (a - (nI 1))) (nI 16))) (ushr (cond (pm_cmp .le ((a ^^^ (Int32.ofInt (-1))) &&& (a - (nI 1))) (nI 65536)) ((a ^^^ (Int32.ofInt (-1))) &&& (a - (nI 1))) (ushr ((a ^^^ (Int32.ofInt (-1))) &&& (a - (nI 1))) (nI 16))) (nI 8))) (nI 16)) (cond (pm_cmp .le (cond (pm_cmp .le ((a ^^^ (Int32.ofInt (-1))) &&& (a - (nI 1))) (nI 65536)) ((a ^^^ (Int32.ofInt (-1))) &&& (a - (nI 1))) (ushr ((a ^^^ (Int32.ofInt (-1))) &&& (a - (nI 1))) (nI 16))) (nI 256)) (cond (pm_cmp .le ((a ^^^ (Int32.ofInt (-1))) &&& (a - (nI 1))) (nI 65536)) ((a ^^^ (Int32.ofInt (-1))) &&& (a - (nI 1))) (ushr ((a ^^^ (Int32.ofInt (-1))) &&& (a - (nI 1))) (nI 16))) (ushr (cond (pm_cmp .le ((a ^^^ (Int32.ofInt (-1))) &&& (a - (nI 1))) (nI 65536)) ((a ^^^ (Int32.ofInt (-1))) &&& (a - (nI 1))) (ushr ((a ^^^ (Int32.ofInt (-1))) &&& (a - (nI 1))) (nI 16))) (nI 8))) (ushr (cond (pm_cmp .le (cond (pm_cmp .le ((a ^^^ (Int32.ofInt (-1))) &&& (a - (nI 1))) (nI 65536)) ((a ^^^ (Int32.ofInt (-1))) &&& (a - (nI 1))) (ushr ((a ^^^ (Int32.ofInt (-1))) &&& (a - (nI 1))) (nI 16))) (nI 256)) (cond (pm_cmp .le ((a ^^^ (Int32.ofInt (-1))) &&& (a - (nI 1))) (nI 65536)) ((a ^^^ (Int32.ofInt (-1))) &&& (a - (nI 1))) (ushr ((a ^^^ (Int32.ofInt (-1))) &&& (a - (nI 1))) (nI 16))) (ushr (cond (pm_cmp .le ((a ^^^ (Int32.ofInt (-1))) &&& (a - (nI 1))) (nI 65536)) ((a ^^^ (Int32.ofInt (-1))) &&& (a - (nI 1))) (ushr ((a ^^^ (Int32.ofInt (-1))) &&& (a - (nI 1))) (nI 16))) (nI 8))) (nI 4))) (nI 4)) (cond (pm_cmp .le (cond (pm_cmp .le (cond (pm_cmp .le ((a ^^^ (Int32.ofInt (-1))) &&& (a - (nI 1))) (nI 65536)) ((a ^^^ (Int32.ofInt (-1))) &&& (a - (nI 1))) (ushr ((a ^^^ (Int32.ofInt (-1))) &&& (a - (nI 1))) (nI 16))) (nI 256)) (cond (pm_cmp .le ((a ^^^ (Int32.ofInt (-1))) &&& (a - (nI 1))) (nI 65536)) ((a ^^^ (Int32.ofInt (-1))) &&& (a - (nI 1))) (ushr ((a ^^^ (Int32.ofInt (-1))) &&& (a - (nI 1))) (nI 16))) (ushr (cond (pm_cmp .le ((a ^^^ (Int32.ofInt (-1))) &&& (a - (nI 1))) (nI 65536)) ((a ^^^ (Int32.ofInt (-1))) &&& (a - (nI 1))) (ushr ((a ^^^ (Int32.ofInt (-1))) &&& (a - (nI 1))) (nI 16))) (nI 8))) (nI 16)) (cond (pm_cmp .le (cond (pm_cmp .le ((a ^^^ (Int32.ofInt (-1))) &&& (a - (nI 1))) (nI 65536)) ((a ^^^ (Int32.ofInt (-1))) &&& (a - (nI 1))) (ushr ((a ^^^ (Int32.ofInt (-1))) &&& (a - (nI 1))) (nI 16))) (nI 256)) (cond (pm_cmp .le ((a ^^^ (Int32.ofInt (-1))) &&& (a - (nI 1))) (nI 65536)) ((a ^^^ (Int32.ofInt (-1))) &&& (a - (nI 1))) (ushr ((a ^^^ (Int32.ofInt (-1))) &&& (a - (nI 1))) (nI 16))) (ushr (cond (pm_cmp .le ((a ^^^ (Int32.ofInt (-1))) &&& (a - (nI 1))) (nI 65536)) ((a ^^^ (Int32.ofInt (-1))) &&& (a - (nI 1))) (ushr ((a ^^^ (Int32.ofInt (-1))) &&& (a - (nI 1))) (nI 16))) (nI 8))) (ushr (cond (pm_cmp .le (cond (pm_cmp .le ((a ^^^ (Int32.ofInt (-1))) &&& (a - (nI 1))) (nI 65536)) ((a ^^^ (Int32.ofInt (-1))) &&& (a - (nI 1))) (ushr ((a ^^^ (Int32.ofInt (-1))) &&& (a - (nI 1))) (nI 16))) (nI 256)) (cond (pm_cmp .le ((a ^^^ (Int32.ofInt (-1))) &&& (a - (nI 1))) (nI 65536)) ((a ^^^ (Int32.ofInt (-1))) &&& (a - (nI 1))) (ushr ((a ^^^ (Int32.ofInt (-1))) &&& (a - (nI 1))) (nI 16))) (ushr (cond (pm_cmp .le ((a ^^^ (Int32.ofInt (-1))) &&& (a - (nI 1))) (nI 65536)) ((a ^^^ (Int32.ofInt (-1))) &&& (a - (nI 1))) (ushr ((a ^^^ (Int32.ofInt (-1))) &&& (a - (nI 1))) (nI 16))) (nI 8))) (nI 4))) (ushr (cond (pm_cmp .le (cond (pm_cmp .le (cond (pm_cmp .le ((a ^^^ (Int32.ofInt (-1))) &&& (a - (nI 1))) (nI 65536)) ((a ^^^ (Int32.ofInt (-1))) &&& (a - (nI 1))) (ushr ((a ^^^ (Int32.ofInt (-1))) &&& (a - (nI 1))) (nI 16))) (nI 256)) (cond (pm_cmp .le ((a ^^^ (Int32.ofInt (-1))) &&& (a - (nI 1))) (nI 65536)) ((a ^^^ (Int32.ofInt (-1))) &&& (a - (nI 1))) (ushr ((a ^^^ (Int32.ofInt (-1))) &&& (a - (nI 1))) (nI 16))) (ushr (cond (pm_cmp .le ((a ^^^ (Int32.ofInt (-1))) &&& (a - (nI 1))) (nI 65536)) ((a ^^^ (Int32.ofInt (-1))) &&& (a - (nI 1))) (ushr ((a ^^^ (Int32.ofInt (-1))) &&& (a - (nI 1))) (nI 16))) (nI 8))) (nI 16)) (cond (pm_cmp .le (cond (pm_cmp .le ((a ^^^ (Int32.ofInt (-1))) &&& (a - (nI 1))) (nI 65536)) ((a ^^^ (Int32.ofInt (-1))) &&& (a - (nI 1))) (ushr ((a ^^^ (Int32.ofInt (-1))) &&& (a - (nI 1))) (nI 16))) (nI 256)) (cond (pm_cmp .le ((a ^^^ (Int32.ofInt (-1))) &&& (a - (nI 1))) (nI 65536)) ((a ^^^ (Int32.ofInt (-1))) &&& (a - (nI 1))) (ushr ((a ^^^ (Int32.ofInt (-1))) &&& (a - (nI 1))) (nI 16))) (ushr (cond (pm_cmp .le ((a ^^^ (Int32.ofInt (-1))) &&& (a - (nI 1))) (nI 65536)) ((a ^^^ (Int32.ofInt (-1))) &&& (a - (nI 1))) (ushr ((a ^^^ (Int32.ofInt (-1))) &&& (a - (nI 1))) (nI 16))) (nI 8))) (ushr (cond (pm_cmp .le (cond (pm_cmp .le ((a ^^^ (Int32.ofInt (-1))) &&& (a - (nI 1))) (nI 65536)) ((a ^^^ (Int32.ofInt (-1))) &&& (a - (nI 1))) (ushr ((a ^^^ (Int32.ofInt (-1))) &&& (a - (nI 1))) (nI 16))) (nI 256)) (cond (pm_cmp .le ((a ^^^ (Int32.ofInt (-1))) &&& (a - (nI 1))) (nI 65536)) ((a ^^^ (Int32.ofInt (-1))) &&& (a - (nI 1))) (ushr ((a ^^^ (Int32.ofInt (-1))) &&& (a - (nI 1))) (nI 16))) (ushr (cond (pm_cmp .le ((a ^^^ (Int32.ofInt (-1))) &&& (a - (nI 1))) (nI 65536)) ((a ^^^ (Int32.ofInt (-1))) &&& (a - (nI 1))) (ushr ((a ^^^ (Int32.ofInt (-1))) &&& (a - (nI 1))) (nI 16))) (nI 8))) (nI 4))) (nI 2))) (nI 1))) (((a ^^^ (Int32.ofInt (-1))) &&& (a - (nI 1))) &&& (nI 32))
theorem v269_ok {n fr lo sl cc gc : Nat} {q : QT} {h : pm_H} {R : pm_Rs} {a : Int32} (hw : HC q cc gc h) (hh : pm_run PT n fr lo 269 (0, pm_l0 [.int a] 2, [], h, 198, sl) = some R) : R = (some (.int (v269 q cc gc a)), h, 198, sl) := by
  have hcc := hw.cb
  have hgc := hw.gb
  have hzr := hw.zr
  obtain ⟨n, hh⟩ := rn_i rfl rfl rfl rfl hh
  obtain ⟨n, hh⟩ := rn_i rfl rfl rfl rfl hh
  obtain ⟨n, hh⟩ := rn_i rfl rfl rfl rfl hh
  obtain ⟨n, hh⟩ := rn_i rfl rfl rfl rfl hh
  obtain ⟨n, hh⟩ := rn_i rfl rfl rfl rfl hh
  obtain ⟨n, hh⟩ := rn_i rfl rfl rfl rfl hh
  obtain ⟨n, hh⟩ := rn_i rfl rfl rfl rfl hh
  obtain ⟨n, hh⟩ := rn_i rfl rfl rfl rfl hh
  obtain ⟨n, hh⟩ := rn_i rfl rfl rfl rfl hh
  have hh : pm_run PT n fr lo 269 (9, [some (.int ((a ^^^ (Int32.ofInt (-1))) &&& (a - (nI 1)))), none], [.int ((a ^^^ (Int32.ofInt (-1))) &&& (a - (nI 1)))], h, 198, sl) = some R := hh
  obtain ⟨n, hh⟩ := en_zn (cc := .gt) (off := 8) (t := 17) (b := pm_cmp .gt ((a ^^^ (Int32.ofInt (-1))) &&& (a - (nI 1))) 0) rfl rfl rfl hh
  cases z1 : pm_cmp .gt ((a ^^^ (Int32.ofInt (-1))) &&& (a - (nI 1))) 0 with
  | true =>
    have hh := en_t z1 hh
    have hh : pm_run PT n fr lo 269 (17, [some (.int ((a ^^^ (Int32.ofInt (-1))) &&& (a - (nI 1)))), none], [], h, 198, sl) = some R := hh
    obtain ⟨n, hh⟩ := rn_i rfl rfl rfl rfl hh
    obtain ⟨n, hh⟩ := rn_i rfl rfl rfl rfl hh
    obtain ⟨n, hh⟩ := rn_i rfl rfl rfl rfl hh
    obtain ⟨n, hh⟩ := rn_i rfl rfl rfl rfl hh
    have hh : pm_run PT n fr lo 269 (23, [some (.int ((a ^^^ (Int32.ofInt (-1))) &&& (a - (nI 1)))), some (.int (nI 1))], [.int (nI 65536), .int ((a ^^^ (Int32.ofInt (-1))) &&& (a - (nI 1)))], h, 198, sl) = some R := hh
    obtain ⟨n, hh⟩ := en_cn (cc := .le) (off := 11) (t := 34) (b := pm_cmp .le ((a ^^^ (Int32.ofInt (-1))) &&& (a - (nI 1))) (nI 65536)) rfl rfl rfl hh
    have hj3 : ∃ mJ, pm_run PT mJ fr lo 269 (cond (pm_cmp .le ((a ^^^ (Int32.ofInt (-1))) &&& (a - (nI 1))) (nI 65536)) (34, [some (.int ((a ^^^ (Int32.ofInt (-1))) &&& (a - (nI 1)))), some (.int (nI 1))], [], h, 198, sl) (34, [some (.int (ushr ((a ^^^ (Int32.ofInt (-1))) &&& (a - (nI 1))) (nI 16))), some (.int (nI 17))], [], h, 198, sl)) = some R := en_J (fun z2 => by
        have hh := en_t z2 hh
        have hh : pm_run PT n fr lo 269 (34, [some (.int ((a ^^^ (Int32.ofInt (-1))) &&& (a - (nI 1)))), some (.int (nI 1))], [], h, 198, sl) = some R := hh
        exact ⟨n, hh⟩) (fun z2 => by
        have hh := en_f z2 hh
        have hh : pm_run PT n fr lo 269 (26, [some (.int ((a ^^^ (Int32.ofInt (-1))) &&& (a - (nI 1)))), some (.int (nI 1))], [], h, 198, sl) = some R := hh
        have hh : pm_run PT n fr lo 269 (26, [some (.int ((a ^^^ (Int32.ofInt (-1))) &&& (a - (nI 1)))), some (.int (nI 1))], [], h, 198, sl) = some R := hh
        obtain ⟨n, hh⟩ := en_inc (x := 1) (c := 16) (j := 1) rfl rfl (by decide) hh
        have hh : pm_run PT n fr lo 269 (29, [some (.int ((a ^^^ (Int32.ofInt (-1))) &&& (a - (nI 1)))), some (.int (nI 17))], [], h, 198, sl) = some R := hh
        obtain ⟨n, hh⟩ := rn_i rfl rfl rfl rfl hh
        obtain ⟨n, hh⟩ := rn_i rfl rfl rfl rfl hh
        obtain ⟨n, hh⟩ := rn_i rfl rfl rfl rfl hh
        obtain ⟨n, hh⟩ := rn_i rfl rfl rfl rfl hh
        exact ⟨n, hh⟩)
    obtain ⟨n, hh⟩ := hj3
    rw [show (cond (pm_cmp .le ((a ^^^ (Int32.ofInt (-1))) &&& (a - (nI 1))) (nI 65536)) (34, [some (.int ((a ^^^ (Int32.ofInt (-1))) &&& (a - (nI 1)))), some (.int (nI 1))], [], h, 198, sl) (34, [some (.int (ushr ((a ^^^ (Int32.ofInt (-1))) &&& (a - (nI 1))) (nI 16))), some (.int (nI 17))], [], h, 198, sl) : pm_St) = (34, [some (.int (cond (pm_cmp .le ((a ^^^ (Int32.ofInt (-1))) &&& (a - (nI 1))) (nI 65536)) ((a ^^^ (Int32.ofInt (-1))) &&& (a - (nI 1))) (ushr ((a ^^^ (Int32.ofInt (-1))) &&& (a - (nI 1))) (nI 16)))), some (.int (cond (pm_cmp .le ((a ^^^ (Int32.ofInt (-1))) &&& (a - (nI 1))) (nI 65536)) (nI 1) (nI 17)))], [], h, 198, sl) from by cases (pm_cmp .le ((a ^^^ (Int32.ofInt (-1))) &&& (a - (nI 1))) (nI 65536)) <;> rfl] at hh
    obtain ⟨n, hh⟩ := rn_i rfl rfl rfl rfl hh
    obtain ⟨n, hh⟩ := rn_i rfl rfl rfl rfl hh
    have hh : pm_run PT n fr lo 269 (38, [some (.int (cond (pm_cmp .le ((a ^^^ (Int32.ofInt (-1))) &&& (a - (nI 1))) (nI 65536)) ((a ^^^ (Int32.ofInt (-1))) &&& (a - (nI 1))) (ushr ((a ^^^ (Int32.ofInt (-1))) &&& (a - (nI 1))) (nI 16)))), some (.int (cond (pm_cmp .le ((a ^^^ (Int32.ofInt (-1))) &&& (a - (nI 1))) (nI 65536)) (nI 1) (nI 17)))], [.int (nI 256), .int (cond (pm_cmp .le ((a ^^^ (Int32.ofInt (-1))) &&& (a - (nI 1))) (nI 65536)) ((a ^^^ (Int32.ofInt (-1))) &&& (a - (nI 1))) (ushr ((a ^^^ (Int32.ofInt (-1))) &&& (a - (nI 1))) (nI 16)))], h, 198, sl) = some R := hh
    obtain ⟨n, hh⟩ := en_cn (cc := .le) (off := 11) (t := 49) (b := pm_cmp .le (cond (pm_cmp .le ((a ^^^ (Int32.ofInt (-1))) &&& (a - (nI 1))) (nI 65536)) ((a ^^^ (Int32.ofInt (-1))) &&& (a - (nI 1))) (ushr ((a ^^^ (Int32.ofInt (-1))) &&& (a - (nI 1))) (nI 16))) (nI 256)) rfl rfl rfl hh
    have hj5 : ∃ mJ, pm_run PT mJ fr lo 269 (cond (pm_cmp .le (cond (pm_cmp .le ((a ^^^ (Int32.ofInt (-1))) &&& (a - (nI 1))) (nI 65536)) ((a ^^^ (Int32.ofInt (-1))) &&& (a - (nI 1))) (ushr ((a ^^^ (Int32.ofInt (-1))) &&& (a - (nI 1))) (nI 16))) (nI 256)) (49, [some (.int (cond (pm_cmp .le ((a ^^^ (Int32.ofInt (-1))) &&& (a - (nI 1))) (nI 65536)) ((a ^^^ (Int32.ofInt (-1))) &&& (a - (nI 1))) (ushr ((a ^^^ (Int32.ofInt (-1))) &&& (a - (nI 1))) (nI 16)))), some (.int (cond (pm_cmp .le ((a ^^^ (Int32.ofInt (-1))) &&& (a - (nI 1))) (nI 65536)) (nI 1) (nI 17)))], [], h, 198, sl) (49, [some (.int (ushr (cond (pm_cmp .le ((a ^^^ (Int32.ofInt (-1))) &&& (a - (nI 1))) (nI 65536)) ((a ^^^ (Int32.ofInt (-1))) &&& (a - (nI 1))) (ushr ((a ^^^ (Int32.ofInt (-1))) &&& (a - (nI 1))) (nI 16))) (nI 8))), some (.int ((cond (pm_cmp .le ((a ^^^ (Int32.ofInt (-1))) &&& (a - (nI 1))) (nI 65536)) (nI 1) (nI 17)) + Int32.ofInt 8))], [], h, 198, sl)) = some R := en_J (fun z4 => by
        have hh := en_t z4 hh
        have hh : pm_run PT n fr lo 269 (49, [some (.int (cond (pm_cmp .le ((a ^^^ (Int32.ofInt (-1))) &&& (a - (nI 1))) (nI 65536)) ((a ^^^ (Int32.ofInt (-1))) &&& (a - (nI 1))) (ushr ((a ^^^ (Int32.ofInt (-1))) &&& (a - (nI 1))) (nI 16)))), some (.int (cond (pm_cmp .le ((a ^^^ (Int32.ofInt (-1))) &&& (a - (nI 1))) (nI 65536)) (nI 1) (nI 17)))], [], h, 198, sl) = some R := hh
        exact ⟨n, hh⟩) (fun z4 => by
        have hh := en_f z4 hh
        have hh : pm_run PT n fr lo 269 (41, [some (.int (cond (pm_cmp .le ((a ^^^ (Int32.ofInt (-1))) &&& (a - (nI 1))) (nI 65536)) ((a ^^^ (Int32.ofInt (-1))) &&& (a - (nI 1))) (ushr ((a ^^^ (Int32.ofInt (-1))) &&& (a - (nI 1))) (nI 16)))), some (.int (cond (pm_cmp .le ((a ^^^ (Int32.ofInt (-1))) &&& (a - (nI 1))) (nI 65536)) (nI 1) (nI 17)))], [], h, 198, sl) = some R := hh
        obtain ⟨n, hh⟩ := rn_i rfl rfl rfl rfl hh
        obtain ⟨n, hh⟩ := rn_i rfl rfl rfl rfl hh
        obtain ⟨n, hh⟩ := rn_i rfl rfl rfl rfl hh
        obtain ⟨n, hh⟩ := rn_i rfl rfl rfl rfl hh
        obtain ⟨n, hh⟩ := rn_i rfl rfl rfl rfl hh
        exact ⟨n, hh⟩)
    obtain ⟨n, hh⟩ := hj5
    rw [show (cond (pm_cmp .le (cond (pm_cmp .le ((a ^^^ (Int32.ofInt (-1))) &&& (a - (nI 1))) (nI 65536)) ((a ^^^ (Int32.ofInt (-1))) &&& (a - (nI 1))) (ushr ((a ^^^ (Int32.ofInt (-1))) &&& (a - (nI 1))) (nI 16))) (nI 256)) (49, [some (.int (cond (pm_cmp .le ((a ^^^ (Int32.ofInt (-1))) &&& (a - (nI 1))) (nI 65536)) ((a ^^^ (Int32.ofInt (-1))) &&& (a - (nI 1))) (ushr ((a ^^^ (Int32.ofInt (-1))) &&& (a - (nI 1))) (nI 16)))), some (.int (cond (pm_cmp .le ((a ^^^ (Int32.ofInt (-1))) &&& (a - (nI 1))) (nI 65536)) (nI 1) (nI 17)))], [], h, 198, sl) (49, [some (.int (ushr (cond (pm_cmp .le ((a ^^^ (Int32.ofInt (-1))) &&& (a - (nI 1))) (nI 65536)) ((a ^^^ (Int32.ofInt (-1))) &&& (a - (nI 1))) (ushr ((a ^^^ (Int32.ofInt (-1))) &&& (a - (nI 1))) (nI 16))) (nI 8))), some (.int ((cond (pm_cmp .le ((a ^^^ (Int32.ofInt (-1))) &&& (a - (nI 1))) (nI 65536)) (nI 1) (nI 17)) + Int32.ofInt 8))], [], h, 198, sl) : pm_St) = (49, [some (.int (cond (pm_cmp .le (cond (pm_cmp .le ((a ^^^ (Int32.ofInt (-1))) &&& (a - (nI 1))) (nI 65536)) ((a ^^^ (Int32.ofInt (-1))) &&& (a - (nI 1))) (ushr ((a ^^^ (Int32.ofInt (-1))) &&& (a - (nI 1))) (nI 16))) (nI 256)) (cond (pm_cmp .le ((a ^^^ (Int32.ofInt (-1))) &&& (a - (nI 1))) (nI 65536)) ((a ^^^ (Int32.ofInt (-1))) &&& (a - (nI 1))) (ushr ((a ^^^ (Int32.ofInt (-1))) &&& (a - (nI 1))) (nI 16))) (ushr (cond (pm_cmp .le ((a ^^^ (Int32.ofInt (-1))) &&& (a - (nI 1))) (nI 65536)) ((a ^^^ (Int32.ofInt (-1))) &&& (a - (nI 1))) (ushr ((a ^^^ (Int32.ofInt (-1))) &&& (a - (nI 1))) (nI 16))) (nI 8)))), some (.int (cond (pm_cmp .le (cond (pm_cmp .le ((a ^^^ (Int32.ofInt (-1))) &&& (a - (nI 1))) (nI 65536)) ((a ^^^ (Int32.ofInt (-1))) &&& (a - (nI 1))) (ushr ((a ^^^ (Int32.ofInt (-1))) &&& (a - (nI 1))) (nI 16))) (nI 256)) (cond (pm_cmp .le ((a ^^^ (Int32.ofInt (-1))) &&& (a - (nI 1))) (nI 65536)) (nI 1) (nI 17)) ((cond (pm_cmp .le ((a ^^^ (Int32.ofInt (-1))) &&& (a - (nI 1))) (nI 65536)) (nI 1) (nI 17)) + Int32.ofInt 8)))], [], h, 198, sl) from by cases (pm_cmp .le (cond (pm_cmp .le ((a ^^^ (Int32.ofInt (-1))) &&& (a - (nI 1))) (nI 65536)) ((a ^^^ (Int32.ofInt (-1))) &&& (a - (nI 1))) (ushr ((a ^^^ (Int32.ofInt (-1))) &&& (a - (nI 1))) (nI 16))) (nI 256)) <;> rfl] at hh
    obtain ⟨n, hh⟩ := rn_i rfl rfl rfl rfl hh
    obtain ⟨n, hh⟩ := rn_i rfl rfl rfl rfl hh
    have hh : pm_run PT n fr lo 269 (52, [some (.int (cond (pm_cmp .le (cond (pm_cmp .le ((a ^^^ (Int32.ofInt (-1))) &&& (a - (nI 1))) (nI 65536)) ((a ^^^ (Int32.ofInt (-1))) &&& (a - (nI 1))) (ushr ((a ^^^ (Int32.ofInt (-1))) &&& (a - (nI 1))) (nI 16))) (nI 256)) (cond (pm_cmp .le ((a ^^^ (Int32.ofInt (-1))) &&& (a - (nI 1))) (nI 65536)) ((a ^^^ (Int32.ofInt (-1))) &&& (a - (nI 1))) (ushr ((a ^^^ (Int32.ofInt (-1))) &&& (a - (nI 1))) (nI 16))) (ushr (cond (pm_cmp .le ((a ^^^ (Int32.ofInt (-1))) &&& (a - (nI 1))) (nI 65536)) ((a ^^^ (Int32.ofInt (-1))) &&& (a - (nI 1))) (ushr ((a ^^^ (Int32.ofInt (-1))) &&& (a - (nI 1))) (nI 16))) (nI 8)))), some (.int (cond (pm_cmp .le (cond (pm_cmp .le ((a ^^^ (Int32.ofInt (-1))) &&& (a - (nI 1))) (nI 65536)) ((a ^^^ (Int32.ofInt (-1))) &&& (a - (nI 1))) (ushr ((a ^^^ (Int32.ofInt (-1))) &&& (a - (nI 1))) (nI 16))) (nI 256)) (cond (pm_cmp .le ((a ^^^ (Int32.ofInt (-1))) &&& (a - (nI 1))) (nI 65536)) (nI 1) (nI 17)) ((cond (pm_cmp .le ((a ^^^ (Int32.ofInt (-1))) &&& (a - (nI 1))) (nI 65536)) (nI 1) (nI 17)) + Int32.ofInt 8)))], [.int (nI 16), .int (cond (pm_cmp .le (cond (pm_cmp .le ((a ^^^ (Int32.ofInt (-1))) &&& (a - (nI 1))) (nI 65536)) ((a ^^^ (Int32.ofInt (-1))) &&& (a - (nI 1))) (ushr ((a ^^^ (Int32.ofInt (-1))) &&& (a - (nI 1))) (nI 16))) (nI 256)) (cond (pm_cmp .le ((a ^^^ (Int32.ofInt (-1))) &&& (a - (nI 1))) (nI 65536)) ((a ^^^ (Int32.ofInt (-1))) &&& (a - (nI 1))) (ushr ((a ^^^ (Int32.ofInt (-1))) &&& (a - (nI 1))) (nI 16))) (ushr (cond (pm_cmp .le ((a ^^^ (Int32.ofInt (-1))) &&& (a - (nI 1))) (nI 65536)) ((a ^^^ (Int32.ofInt (-1))) &&& (a - (nI 1))) (ushr ((a ^^^ (Int32.ofInt (-1))) &&& (a - (nI 1))) (nI 16))) (nI 8)))], h, 198, sl) = some R := hh
    obtain ⟨n, hh⟩ := en_cn (cc := .le) (off := 10) (t := 62) (b := pm_cmp .le (cond (pm_cmp .le (cond (pm_cmp .le ((a ^^^ (Int32.ofInt (-1))) &&& (a - (nI 1))) (nI 65536)) ((a ^^^ (Int32.ofInt (-1))) &&& (a - (nI 1))) (ushr ((a ^^^ (Int32.ofInt (-1))) &&& (a - (nI 1))) (nI 16))) (nI 256)) (cond (pm_cmp .le ((a ^^^ (Int32.ofInt (-1))) &&& (a - (nI 1))) (nI 65536)) ((a ^^^ (Int32.ofInt (-1))) &&& (a - (nI 1))) (ushr ((a ^^^ (Int32.ofInt (-1))) &&& (a - (nI 1))) (nI 16))) (ushr (cond (pm_cmp .le ((a ^^^ (Int32.ofInt (-1))) &&& (a - (nI 1))) (nI 65536)) ((a ^^^ (Int32.ofInt (-1))) &&& (a - (nI 1))) (ushr ((a ^^^ (Int32.ofInt (-1))) &&& (a - (nI 1))) (nI 16))) (nI 8))) (nI 16)) rfl rfl rfl hh
    have hj7 : ∃ mJ, pm_run PT mJ fr lo 269 (cond (pm_cmp .le (cond (pm_cmp .le (cond (pm_cmp .le ((a ^^^ (Int32.ofInt (-1))) &&& (a - (nI 1))) (nI 65536)) ((a ^^^ (Int32.ofInt (-1))) &&& (a - (nI 1))) (ushr ((a ^^^ (Int32.ofInt (-1))) &&& (a - (nI 1))) (nI 16))) (nI 256)) (cond (pm_cmp .le ((a ^^^ (Int32.ofInt (-1))) &&& (a - (nI 1))) (nI 65536)) ((a ^^^ (Int32.ofInt (-1))) &&& (a - (nI 1))) (ushr ((a ^^^ (Int32.ofInt (-1))) &&& (a - (nI 1))) (nI 16))) (ushr (cond (pm_cmp .le ((a ^^^ (Int32.ofInt (-1))) &&& (a - (nI 1))) (nI 65536)) ((a ^^^ (Int32.ofInt (-1))) &&& (a - (nI 1))) (ushr ((a ^^^ (Int32.ofInt (-1))) &&& (a - (nI 1))) (nI 16))) (nI 8))) (nI 16)) (62, [some (.int (cond (pm_cmp .le (cond (pm_cmp .le ((a ^^^ (Int32.ofInt (-1))) &&& (a - (nI 1))) (nI 65536)) ((a ^^^ (Int32.ofInt (-1))) &&& (a - (nI 1))) (ushr ((a ^^^ (Int32.ofInt (-1))) &&& (a - (nI 1))) (nI 16))) (nI 256)) (cond (pm_cmp .le ((a ^^^ (Int32.ofInt (-1))) &&& (a - (nI 1))) (nI 65536)) ((a ^^^ (Int32.ofInt (-1))) &&& (a - (nI 1))) (ushr ((a ^^^ (Int32.ofInt (-1))) &&& (a - (nI 1))) (nI 16))) (ushr (cond (pm_cmp .le ((a ^^^ (Int32.ofInt (-1))) &&& (a - (nI 1))) (nI 65536)) ((a ^^^ (Int32.ofInt (-1))) &&& (a - (nI 1))) (ushr ((a ^^^ (Int32.ofInt (-1))) &&& (a - (nI 1))) (nI 16))) (nI 8)))), some (.int (cond (pm_cmp .le (cond (pm_cmp .le ((a ^^^ (Int32.ofInt (-1))) &&& (a - (nI 1))) (nI 65536)) ((a ^^^ (Int32.ofInt (-1))) &&& (a - (nI 1))) (ushr ((a ^^^ (Int32.ofInt (-1))) &&& (a - (nI 1))) (nI 16))) (nI 256)) (cond (pm_cmp .le ((a ^^^ (Int32.ofInt (-1))) &&& (a - (nI 1))) (nI 65536)) (nI 1) (nI 17)) ((cond (pm_cmp .le ((a ^^^ (Int32.ofInt (-1))) &&& (a - (nI 1))) (nI 65536)) (nI 1) (nI 17)) + Int32.ofInt 8)))], [], h, 198, sl) (62, [some (.int (ushr (cond (pm_cmp .le (cond (pm_cmp .le ((a ^^^ (Int32.ofInt (-1))) &&& (a - (nI 1))) (nI 65536)) ((a ^^^ (Int32.ofInt (-1))) &&& (a - (nI 1))) (ushr ((a ^^^ (Int32.ofInt (-1))) &&& (a - (nI 1))) (nI 16))) (nI 256)) (cond (pm_cmp .le ((a ^^^ (Int32.ofInt (-1))) &&& (a - (nI 1))) (nI 65536)) ((a ^^^ (Int32.ofInt (-1))) &&& (a - (nI 1))) (ushr ((a ^^^ (Int32.ofInt (-1))) &&& (a - (nI 1))) (nI 16))) (ushr (cond (pm_cmp .le ((a ^^^ (Int32.ofInt (-1))) &&& (a - (nI 1))) (nI 65536)) ((a ^^^ (Int32.ofInt (-1))) &&& (a - (nI 1))) (ushr ((a ^^^ (Int32.ofInt (-1))) &&& (a - (nI 1))) (nI 16))) (nI 8))) (nI 4))), some (.int ((cond (pm_cmp .le (cond (pm_cmp .le ((a ^^^ (Int32.ofInt (-1))) &&& (a - (nI 1))) (nI 65536)) ((a ^^^ (Int32.ofInt (-1))) &&& (a - (nI 1))) (ushr ((a ^^^ (Int32.ofInt (-1))) &&& (a - (nI 1))) (nI 16))) (nI 256)) (cond (pm_cmp .le ((a ^^^ (Int32.ofInt (-1))) &&& (a - (nI 1))) (nI 65536)) (nI 1) (nI 17)) ((cond (pm_cmp .le ((a ^^^ (Int32.ofInt (-1))) &&& (a - (nI 1))) (nI 65536)) (nI 1) (nI 17)) + Int32.ofInt 8)) + Int32.ofInt 4))], [], h, 198, sl)) = some R := en_J (fun z6 => by
        have hh := en_t z6 hh
        have hh : pm_run PT n fr lo 269 (62, [some (.int (cond (pm_cmp .le (cond (pm_cmp .le ((a ^^^ (Int32.ofInt (-1))) &&& (a - (nI 1))) (nI 65536)) ((a ^^^ (Int32.ofInt (-1))) &&& (a - (nI 1))) (ushr ((a ^^^ (Int32.ofInt (-1))) &&& (a - (nI 1))) (nI 16))) (nI 256)) (cond (pm_cmp .le ((a ^^^ (Int32.ofInt (-1))) &&& (a - (nI 1))) (nI 65536)) ((a ^^^ (Int32.ofInt (-1))) &&& (a - (nI 1))) (ushr ((a ^^^ (Int32.ofInt (-1))) &&& (a - (nI 1))) (nI 16))) (ushr (cond (pm_cmp .le ((a ^^^ (Int32.ofInt (-1))) &&& (a - (nI 1))) (nI 65536)) ((a ^^^ (Int32.ofInt (-1))) &&& (a - (nI 1))) (ushr ((a ^^^ (Int32.ofInt (-1))) &&& (a - (nI 1))) (nI 16))) (nI 8)))), some (.int (cond (pm_cmp .le (cond (pm_cmp .le ((a ^^^ (Int32.ofInt (-1))) &&& (a - (nI 1))) (nI 65536)) ((a ^^^ (Int32.ofInt (-1))) &&& (a - (nI 1))) (ushr ((a ^^^ (Int32.ofInt (-1))) &&& (a - (nI 1))) (nI 16))) (nI 256)) (cond (pm_cmp .le ((a ^^^ (Int32.ofInt (-1))) &&& (a - (nI 1))) (nI 65536)) (nI 1) (nI 17)) ((cond (pm_cmp .le ((a ^^^ (Int32.ofInt (-1))) &&& (a - (nI 1))) (nI 65536)) (nI 1) (nI 17)) + Int32.ofInt 8)))], [], h, 198, sl) = some R := hh
        exact ⟨n, hh⟩) (fun z6 => by
        have hh := en_f z6 hh
        have hh : pm_run PT n fr lo 269 (55, [some (.int (cond (pm_cmp .le (cond (pm_cmp .le ((a ^^^ (Int32.ofInt (-1))) &&& (a - (nI 1))) (nI 65536)) ((a ^^^ (Int32.ofInt (-1))) &&& (a - (nI 1))) (ushr ((a ^^^ (Int32.ofInt (-1))) &&& (a - (nI 1))) (nI 16))) (nI 256)) (cond (pm_cmp .le ((a ^^^ (Int32.ofInt (-1))) &&& (a - (nI 1))) (nI 65536)) ((a ^^^ (Int32.ofInt (-1))) &&& (a - (nI 1))) (ushr ((a ^^^ (Int32.ofInt (-1))) &&& (a - (nI 1))) (nI 16))) (ushr (cond (pm_cmp .le ((a ^^^ (Int32.ofInt (-1))) &&& (a - (nI 1))) (nI 65536)) ((a ^^^ (Int32.ofInt (-1))) &&& (a - (nI 1))) (ushr ((a ^^^ (Int32.ofInt (-1))) &&& (a - (nI 1))) (nI 16))) (nI 8)))), some (.int (cond (pm_cmp .le (cond (pm_cmp .le ((a ^^^ (Int32.ofInt (-1))) &&& (a - (nI 1))) (nI 65536)) ((a ^^^ (Int32.ofInt (-1))) &&& (a - (nI 1))) (ushr ((a ^^^ (Int32.ofInt (-1))) &&& (a - (nI 1))) (nI 16))) (nI 256)) (cond (pm_cmp .le ((a ^^^ (Int32.ofInt (-1))) &&& (a - (nI 1))) (nI 65536)) (nI 1) (nI 17)) ((cond (pm_cmp .le ((a ^^^ (Int32.ofInt (-1))) &&& (a - (nI 1))) (nI 65536)) (nI 1) (nI 17)) + Int32.ofInt 8)))], [], h, 198, sl) = some R := hh
        obtain ⟨n, hh⟩ := rn_i rfl rfl rfl rfl hh
        obtain ⟨n, hh⟩ := rn_i rfl rfl rfl rfl hh
        obtain ⟨n, hh⟩ := rn_i rfl rfl rfl rfl hh
        obtain ⟨n, hh⟩ := rn_i rfl rfl rfl rfl hh
        obtain ⟨n, hh⟩ := rn_i rfl rfl rfl rfl hh
        exact ⟨n, hh⟩)
    obtain ⟨n, hh⟩ := hj7
    rw [show (cond (pm_cmp .le (cond (pm_cmp .le (cond (pm_cmp .le ((a ^^^ (Int32.ofInt (-1))) &&& (a - (nI 1))) (nI 65536)) ((a ^^^ (Int32.ofInt (-1))) &&& (a - (nI 1))) (ushr ((a ^^^ (Int32.ofInt (-1))) &&& (a - (nI 1))) (nI 16))) (nI 256)) (cond (pm_cmp .le ((a ^^^ (Int32.ofInt (-1))) &&& (a - (nI 1))) (nI 65536)) ((a ^^^ (Int32.ofInt (-1))) &&& (a - (nI 1))) (ushr ((a ^^^ (Int32.ofInt (-1))) &&& (a - (nI 1))) (nI 16))) (ushr (cond (pm_cmp .le ((a ^^^ (Int32.ofInt (-1))) &&& (a - (nI 1))) (nI 65536)) ((a ^^^ (Int32.ofInt (-1))) &&& (a - (nI 1))) (ushr ((a ^^^ (Int32.ofInt (-1))) &&& (a - (nI 1))) (nI 16))) (nI 8))) (nI 16)) (62, [some (.int (cond (pm_cmp .le (cond (pm_cmp .le ((a ^^^ (Int32.ofInt (-1))) &&& (a - (nI 1))) (nI 65536)) ((a ^^^ (Int32.ofInt (-1))) &&& (a - (nI 1))) (ushr ((a ^^^ (Int32.ofInt (-1))) &&& (a - (nI 1))) (nI 16))) (nI 256)) (cond (pm_cmp .le ((a ^^^ (Int32.ofInt (-1))) &&& (a - (nI 1))) (nI 65536)) ((a ^^^ (Int32.ofInt (-1))) &&& (a - (nI 1))) (ushr ((a ^^^ (Int32.ofInt (-1))) &&& (a - (nI 1))) (nI 16))) (ushr (cond (pm_cmp .le ((a ^^^ (Int32.ofInt (-1))) &&& (a - (nI 1))) (nI 65536)) ((a ^^^ (Int32.ofInt (-1))) &&& (a - (nI 1))) (ushr ((a ^^^ (Int32.ofInt (-1))) &&& (a - (nI 1))) (nI 16))) (nI 8)))), some (.int (cond (pm_cmp .le (cond (pm_cmp .le ((a ^^^ (Int32.ofInt (-1))) &&& (a - (nI 1))) (nI 65536)) ((a ^^^ (Int32.ofInt (-1))) &&& (a - (nI 1))) (ushr ((a ^^^ (Int32.ofInt (-1))) &&& (a - (nI 1))) (nI 16))) (nI 256)) (cond (pm_cmp .le ((a ^^^ (Int32.ofInt (-1))) &&& (a - (nI 1))) (nI 65536)) (nI 1) (nI 17)) ((cond (pm_cmp .le ((a ^^^ (Int32.ofInt (-1))) &&& (a - (nI 1))) (nI 65536)) (nI 1) (nI 17)) + Int32.ofInt 8)))], [], h, 198, sl) (62, [some (.int (ushr (cond (pm_cmp .le (cond (pm_cmp .le ((a ^^^ (Int32.ofInt (-1))) &&& (a - (nI 1))) (nI 65536)) ((a ^^^ (Int32.ofInt (-1))) &&& (a - (nI 1))) (ushr ((a ^^^ (Int32.ofInt (-1))) &&& (a - (nI 1))) (nI 16))) (nI 256)) (cond (pm_cmp .le ((a ^^^ (Int32.ofInt (-1))) &&& (a - (nI 1))) (nI 65536)) ((a ^^^ (Int32.ofInt (-1))) &&& (a - (nI 1))) (ushr ((a ^^^ (Int32.ofInt (-1))) &&& (a - (nI 1))) (nI 16))) (ushr (cond (pm_cmp .le ((a ^^^ (Int32.ofInt (-1))) &&& (a - (nI 1))) (nI 65536)) ((a ^^^ (Int32.ofInt (-1))) &&& (a - (nI 1))) (ushr ((a ^^^ (Int32.ofInt (-1))) &&& (a - (nI 1))) (nI 16))) (nI 8))) (nI 4))), some (.int ((cond (pm_cmp .le (cond (pm_cmp .le ((a ^^^ (Int32.ofInt (-1))) &&& (a - (nI 1))) (nI 65536)) ((a ^^^ (Int32.ofInt (-1))) &&& (a - (nI 1))) (ushr ((a ^^^ (Int32.ofInt (-1))) &&& (a - (nI 1))) (nI 16))) (nI 256)) (cond (pm_cmp .le ((a ^^^ (Int32.ofInt (-1))) &&& (a - (nI 1))) (nI 65536)) (nI 1) (nI 17)) ((cond (pm_cmp .le ((a ^^^ (Int32.ofInt (-1))) &&& (a - (nI 1))) (nI 65536)) (nI 1) (nI 17)) + Int32.ofInt 8)) + Int32.ofInt 4))], [], h, 198, sl) : pm_St) = (62, [some (.int (cond (pm_cmp .le (cond (pm_cmp .le (cond (pm_cmp .le ((a ^^^ (Int32.ofInt (-1))) &&& (a - (nI 1))) (nI 65536)) ((a ^^^ (Int32.ofInt (-1))) &&& (a - (nI 1))) (ushr ((a ^^^ (Int32.ofInt (-1))) &&& (a - (nI 1))) (nI 16))) (nI 256)) (cond (pm_cmp .le ((a ^^^ (Int32.ofInt (-1))) &&& (a - (nI 1))) (nI 65536)) ((a ^^^ (Int32.ofInt (-1))) &&& (a - (nI 1))) (ushr ((a ^^^ (Int32.ofInt (-1))) &&& (a - (nI 1))) (nI 16))) (ushr (cond (pm_cmp .le ((a ^^^ (Int32.ofInt (-1))) &&& (a - (nI 1))) (nI 65536)) ((a ^^^ (Int32.ofInt (-1))) &&& (a - (nI 1))) (ushr ((a ^^^ (Int32.ofInt (-1))) &&& (a - (nI 1))) (nI 16))) (nI 8))) (nI 16)) (cond (pm_cmp .le (cond (pm_cmp .le ((a ^^^ (Int32.ofInt (-1))) &&& (a - (nI 1))) (nI 65536)) ((a ^^^ (Int32.ofInt (-1))) &&& (a - (nI 1))) (ushr ((a ^^^ (Int32.ofInt (-1))) &&& (a - (nI 1))) (nI 16))) (nI 256)) (cond (pm_cmp .le ((a ^^^ (Int32.ofInt (-1))) &&& (a - (nI 1))) (nI 65536)) ((a ^^^ (Int32.ofInt (-1))) &&& (a - (nI 1))) (ushr ((a ^^^ (Int32.ofInt (-1))) &&& (a - (nI 1))) (nI 16))) (ushr (cond (pm_cmp .le ((a ^^^ (Int32.ofInt (-1))) &&& (a - (nI 1))) (nI 65536)) ((a ^^^ (Int32.ofInt (-1))) &&& (a - (nI 1))) (ushr ((a ^^^ (Int32.ofInt (-1))) &&& (a - (nI 1))) (nI 16))) (nI 8))) (ushr (cond (pm_cmp .le (cond (pm_cmp .le ((a ^^^ (Int32.ofInt (-1))) &&& (a - (nI 1))) (nI 65536)) ((a ^^^ (Int32.ofInt (-1))) &&& (a - (nI 1))) (ushr ((a ^^^ (Int32.ofInt (-1))) &&& (a - (nI 1))) (nI 16))) (nI 256)) (cond (pm_cmp .le ((a ^^^ (Int32.ofInt (-1))) &&& (a - (nI 1))) (nI 65536)) ((a ^^^ (Int32.ofInt (-1))) &&& (a - (nI 1))) (ushr ((a ^^^ (Int32.ofInt (-1))) &&& (a - (nI 1))) (nI 16))) (ushr (cond (pm_cmp .le ((a ^^^ (Int32.ofInt (-1))) &&& (a - (nI 1))) (nI 65536)) ((a ^^^ (Int32.ofInt (-1))) &&& (a - (nI 1))) (ushr ((a ^^^ (Int32.ofInt (-1))) &&& (a - (nI 1))) (nI 16))) (nI 8))) (nI 4)))), some (.int (cond (pm_cmp .le (cond (pm_cmp .le (cond (pm_cmp .le ((a ^^^ (Int32.ofInt (-1))) &&& (a - (nI 1))) (nI 65536)) ((a ^^^ (Int32.ofInt (-1))) &&& (a - (nI 1))) (ushr ((a ^^^ (Int32.ofInt (-1))) &&& (a - (nI 1))) (nI 16))) (nI 256)) (cond (pm_cmp .le ((a ^^^ (Int32.ofInt (-1))) &&& (a - (nI 1))) (nI 65536)) ((a ^^^ (Int32.ofInt (-1))) &&& (a - (nI 1))) (ushr ((a ^^^ (Int32.ofInt (-1))) &&& (a - (nI 1))) (nI 16))) (ushr (cond (pm_cmp .le ((a ^^^ (Int32.ofInt (-1))) &&& (a - (nI 1))) (nI 65536)) ((a ^^^ (Int32.ofInt (-1))) &&& (a - (nI 1))) (ushr ((a ^^^ (Int32.ofInt (-1))) &&& (a - (nI 1))) (nI 16))) (nI 8))) (nI 16)) (cond (pm_cmp .le (cond (pm_cmp .le ((a ^^^ (Int32.ofInt (-1))) &&& (a - (nI 1))) (nI 65536)) ((a ^^^ (Int32.ofInt (-1))) &&& (a - (nI 1))) (ushr ((a ^^^ (Int32.ofInt (-1))) &&& (a - (nI 1))) (nI 16))) (nI 256)) (cond (pm_cmp .le ((a ^^^ (Int32.ofInt (-1))) &&& (a - (nI 1))) (nI 65536)) (nI 1) (nI 17)) ((cond (pm_cmp .le ((a ^^^ (Int32.ofInt (-1))) &&& (a - (nI 1))) (nI 65536)) (nI 1) (nI 17)) + Int32.ofInt 8)) ((cond (pm_cmp .le (cond (pm_cmp .le ((a ^^^ (Int32.ofInt (-1))) &&& (a - (nI 1))) (nI 65536)) ((a ^^^ (Int32.ofInt (-1))) &&& (a - (nI 1))) (ushr ((a ^^^ (Int32.ofInt (-1))) &&& (a - (nI 1))) (nI 16))) (nI 256)) (cond (pm_cmp .le ((a ^^^ (Int32.ofInt (-1))) &&& (a - (nI 1))) (nI 65536)) (nI 1) (nI 17)) ((cond (pm_cmp .le ((a ^^^ (Int32.ofInt (-1))) &&& (a - (nI 1))) (nI 65536)) (nI 1) (nI 17)) + Int32.ofInt 8)) + Int32.ofInt 4)))], [], h, 198, sl) from by cases (pm_cmp .le (cond (pm_cmp .le (cond (pm_cmp .le ((a ^^^ (Int32.ofInt (-1))) &&& (a - (nI 1))) (nI 65536)) ((a ^^^ (Int32.ofInt (-1))) &&& (a - (nI 1))) (ushr ((a ^^^ (Int32.ofInt (-1))) &&& (a - (nI 1))) (nI 16))) (nI 256)) (cond (pm_cmp .le ((a ^^^ (Int32.ofInt (-1))) &&& (a - (nI 1))) (nI 65536)) ((a ^^^ (Int32.ofInt (-1))) &&& (a - (nI 1))) (ushr ((a ^^^ (Int32.ofInt (-1))) &&& (a - (nI 1))) (nI 16))) (ushr (cond (pm_cmp .le ((a ^^^ (Int32.ofInt (-1))) &&& (a - (nI 1))) (nI 65536)) ((a ^^^ (Int32.ofInt (-1))) &&& (a - (nI 1))) (ushr ((a ^^^ (Int32.ofInt (-1))) &&& (a - (nI 1))) (nI 16))) (nI 8))) (nI 16)) <;> rfl] at hh
    obtain ⟨n, hh⟩ := rn_i rfl rfl rfl rfl hh
    obtain ⟨n, hh⟩ := rn_i rfl rfl rfl rfl hh
    have hh : pm_run PT n fr lo 269 (64, [some (.int (cond (pm_cmp .le (cond (pm_cmp .le (cond (pm_cmp .le ((a ^^^ (Int32.ofInt (-1))) &&& (a - (nI 1))) (nI 65536)) ((a ^^^ (Int32.ofInt (-1))) &&& (a - (nI 1))) (ushr ((a ^^^ (Int32.ofInt (-1))) &&& (a - (nI 1))) (nI 16))) (nI 256)) (cond (pm_cmp .le ((a ^^^ (Int32.ofInt (-1))) &&& (a - (nI 1))) (nI 65536)) ((a ^^^ (Int32.ofInt (-1))) &&& (a - (nI 1))) (ushr ((a ^^^ (Int32.ofInt (-1))) &&& (a - (nI 1))) (nI 16))) (ushr (cond (pm_cmp .le ((a ^^^ (Int32.ofInt (-1))) &&& (a - (nI 1))) (nI 65536)) ((a ^^^ (Int32.ofInt (-1))) &&& (a - (nI 1))) (ushr ((a ^^^ (Int32.ofInt (-1))) &&& (a - (nI 1))) (nI 16))) (nI 8))) (nI 16)) (cond (pm_cmp .le (cond (pm_cmp .le ((a ^^^ (Int32.ofInt (-1))) &&& (a - (nI 1))) (nI 65536)) ((a ^^^ (Int32.ofInt (-1))) &&& (a - (nI 1))) (ushr ((a ^^^ (Int32.ofInt (-1))) &&& (a - (nI 1))) (nI 16))) (nI 256)) (cond (pm_cmp .le ((a ^^^ (Int32.ofInt (-1))) &&& (a - (nI 1))) (nI 65536)) ((a ^^^ (Int32.ofInt (-1))) &&& (a - (nI 1))) (ushr ((a ^^^ (Int32.ofInt (-1))) &&& (a - (nI 1))) (nI 16))) (ushr (cond (pm_cmp .le ((a ^^^ (Int32.ofInt (-1))) &&& (a - (nI 1))) (nI 65536)) ((a ^^^ (Int32.ofInt (-1))) &&& (a - (nI 1))) (ushr ((a ^^^ (Int32.ofInt (-1))) &&& (a - (nI 1))) (nI 16))) (nI 8))) (ushr (cond (pm_cmp .le (cond (pm_cmp .le ((a ^^^ (Int32.ofInt (-1))) &&& (a - (nI 1))) (nI 65536)) ((a ^^^ (Int32.ofInt (-1))) &&& (a - (nI 1))) (ushr ((a ^^^ (Int32.ofInt (-1))) &&& (a - (nI 1))) (nI 16))) (nI 256)) (cond (pm_cmp .le ((a ^^^ (Int32.ofInt (-1))) &&& (a - (nI 1))) (nI 65536)) ((a ^^^ (Int32.ofInt (-1))) &&& (a - (nI 1))) (ushr ((a ^^^ (Int32.ofInt (-1))) &&& (a - (nI 1))) (nI 16))) (ushr (cond (pm_cmp .le ((a ^^^ (Int32.ofInt (-1))) &&& (a - (nI 1))) (nI 65536)) ((a ^^^ (Int32.ofInt (-1))) &&& (a - (nI 1))) (ushr ((a ^^^ (Int32.ofInt (-1))) &&& (a - (nI 1))) (nI 16))) (nI 8))) (nI 4)))), some (.int (cond (pm_cmp .le (cond (pm_cmp .le (cond (pm_cmp .le ((a ^^^ (Int32.ofInt (-1))) &&& (a - (nI 1))) (nI 65536)) ((a ^^^ (Int32.ofInt (-1))) &&& (a - (nI 1))) (ushr ((a ^^^ (Int32.ofInt (-1))) &&& (a - (nI 1))) (nI 16))) (nI 256)) (cond (pm_cmp .le ((a ^^^ (Int32.ofInt (-1))) &&& (a - (nI 1))) (nI 65536)) ((a ^^^ (Int32.ofInt (-1))) &&& (a - (nI 1))) (ushr ((a ^^^ (Int32.ofInt (-1))) &&& (a - (nI 1))) (nI 16))) (ushr (cond (pm_cmp .le ((a ^^^ (Int32.ofInt (-1))) &&& (a - (nI 1))) (nI 65536)) ((a ^^^ (Int32.ofInt (-1))) &&& (a - (nI 1))) (ushr ((a ^^^ (Int32.ofInt (-1))) &&& (a - (nI 1))) (nI 16))) (nI 8))) (nI 16)) (cond (pm_cmp .le (cond (pm_cmp .le ((a ^^^ (Int32.ofInt (-1))) &&& (a - (nI 1))) (nI 65536)) ((a ^^^ (Int32.ofInt (-1))) &&& (a - (nI 1))) (ushr ((a ^^^ (Int32.ofInt (-1))) &&& (a - (nI 1))) (nI 16))) (nI 256)) (cond (pm_cmp .le ((a ^^^ (Int32.ofInt (-1))) &&& (a - (nI 1))) (nI 65536)) (nI 1) (nI 17)) ((cond (pm_cmp .le ((a ^^^ (Int32.ofInt (-1))) &&& (a - (nI 1))) (nI 65536)) (nI 1) (nI 17)) + Int32.ofInt 8)) ((cond (pm_cmp .le (cond (pm_cmp .le ((a ^^^ (Int32.ofInt (-1))) &&& (a - (nI 1))) (nI 65536)) ((a ^^^ (Int32.ofInt (-1))) &&& (a - (nI 1))) (ushr ((a ^^^ (Int32.ofInt (-1))) &&& (a - (nI 1))) (nI 16))) (nI 256)) (cond (pm_cmp .le ((a ^^^ (Int32.ofInt (-1))) &&& (a - (nI 1))) (nI 65536)) (nI 1) (nI 17)) ((cond (pm_cmp .le ((a ^^^ (Int32.ofInt (-1))) &&& (a - (nI 1))) (nI 65536)) (nI 1) (nI 17)) + Int32.ofInt 8)) + Int32.ofInt 4)))], [.int (nI 4), .int (cond (pm_cmp .le (cond (pm_cmp .le (cond (pm_cmp .le ((a ^^^ (Int32.ofInt (-1))) &&& (a - (nI 1))) (nI 65536)) ((a ^^^ (Int32.ofInt (-1))) &&& (a - (nI 1))) (ushr ((a ^^^ (Int32.ofInt (-1))) &&& (a - (nI 1))) (nI 16))) (nI 256)) (cond (pm_cmp .le ((a ^^^ (Int32.ofInt (-1))) &&& (a - (nI 1))) (nI 65536)) ((a ^^^ (Int32.ofInt (-1))) &&& (a - (nI 1))) (ushr ((a ^^^ (Int32.ofInt (-1))) &&& (a - (nI 1))) (nI 16))) (ushr (cond (pm_cmp .le ((a ^^^ (Int32.ofInt (-1))) &&& (a - (nI 1))) (nI 65536)) ((a ^^^ (Int32.ofInt (-1))) &&& (a - (nI 1))) (ushr ((a ^^^ (Int32.ofInt (-1))) &&& (a - (nI 1))) (nI 16))) (nI 8))) (nI 16)) (cond (pm_cmp .le (cond (pm_cmp .le ((a ^^^ (Int32.ofInt (-1))) &&& (a - (nI 1))) (nI 65536)) ((a ^^^ (Int32.ofInt (-1))) &&& (a - (nI 1))) (ushr ((a ^^^ (Int32.ofInt (-1))) &&& (a - (nI 1))) (nI 16))) (nI 256)) (cond (pm_cmp .le ((a ^^^ (Int32.ofInt (-1))) &&& (a - (nI 1))) (nI 65536)) ((a ^^^ (Int32.ofInt (-1))) &&& (a - (nI 1))) (ushr ((a ^^^ (Int32.ofInt (-1))) &&& (a - (nI 1))) (nI 16))) (ushr (cond (pm_cmp .le ((a ^^^ (Int32.ofInt (-1))) &&& (a - (nI 1))) (nI 65536)) ((a ^^^ (Int32.ofInt (-1))) &&& (a - (nI 1))) (ushr ((a ^^^ (Int32.ofInt (-1))) &&& (a - (nI 1))) (nI 16))) (nI 8))) (ushr (cond (pm_cmp .le (cond (pm_cmp .le ((a ^^^ (Int32.ofInt (-1))) &&& (a - (nI 1))) (nI 65536)) ((a ^^^ (Int32.ofInt (-1))) &&& (a - (nI 1))) (ushr ((a ^^^ (Int32.ofInt (-1))) &&& (a - (nI 1))) (nI 16))) (nI 256)) (cond (pm_cmp .le ((a ^^^ (Int32.ofInt (-1))) &&& (a - (nI 1))) (nI 65536)) ((a ^^^ (Int32.ofInt (-1))) &&& (a - (nI 1))) (ushr ((a ^^^ (Int32.ofInt (-1))) &&& (a - (nI 1))) (nI 16))) (ushr (cond (pm_cmp .le ((a ^^^ (Int32.ofInt (-1))) &&& (a - (nI 1))) (nI 65536)) ((a ^^^ (Int32.ofInt (-1))) &&& (a - (nI 1))) (ushr ((a ^^^ (Int32.ofInt (-1))) &&& (a - (nI 1))) (nI 16))) (nI 8))) (nI 4)))], h, 198, sl) = some R := hh
    obtain ⟨n, hh⟩ := en_cn (cc := .le) (off := 10) (t := 74) (b := pm_cmp .le (cond (pm_cmp .le (cond (pm_cmp .le (cond (pm_cmp .le ((a ^^^ (Int32.ofInt (-1))) &&& (a - (nI 1))) (nI 65536)) ((a ^^^ (Int32.ofInt (-1))) &&& (a - (nI 1))) (ushr ((a ^^^ (Int32.ofInt (-1))) &&& (a - (nI 1))) (nI 16))) (nI 256)) (cond (pm_cmp .le ((a ^^^ (Int32.ofInt (-1))) &&& (a - (nI 1))) (nI 65536)) ((a ^^^ (Int32.ofInt (-1))) &&& (a - (nI 1))) (ushr ((a ^^^ (Int32.ofInt (-1))) &&& (a - (nI 1))) (nI 16))) (ushr (cond (pm_cmp .le ((a ^^^ (Int32.ofInt (-1))) &&& (a - (nI 1))) (nI 65536)) ((a ^^^ (Int32.ofInt (-1))) &&& (a - (nI 1))) (ushr ((a ^^^ (Int32.ofInt (-1))) &&& (a - (nI 1))) (nI 16))) (nI 8))) (nI 16)) (cond (pm_cmp .le (cond (pm_cmp .le ((a ^^^ (Int32.ofInt (-1))) &&& (a - (nI 1))) (nI 65536)) ((a ^^^ (Int32.ofInt (-1))) &&& (a - (nI 1))) (ushr ((a ^^^ (Int32.ofInt (-1))) &&& (a - (nI 1))) (nI 16))) (nI 256)) (cond (pm_cmp .le ((a ^^^ (Int32.ofInt (-1))) &&& (a - (nI 1))) (nI 65536)) ((a ^^^ (Int32.ofInt (-1))) &&& (a - (nI 1))) (ushr ((a ^^^ (Int32.ofInt (-1))) &&& (a - (nI 1))) (nI 16))) (ushr (cond (pm_cmp .le ((a ^^^ (Int32.ofInt (-1))) &&& (a - (nI 1))) (nI 65536)) ((a ^^^ (Int32.ofInt (-1))) &&& (a - (nI 1))) (ushr ((a ^^^ (Int32.ofInt (-1))) &&& (a - (nI 1))) (nI 16))) (nI 8))) (ushr (cond (pm_cmp .le (cond (pm_cmp .le ((a ^^^ (Int32.ofInt (-1))) &&& (a - (nI 1))) (nI 65536)) ((a ^^^ (Int32.ofInt (-1))) &&& (a - (nI 1))) (ushr ((a ^^^ (Int32.ofInt (-1))) &&& (a - (nI 1))) (nI 16))) (nI 256)) (cond (pm_cmp .le ((a ^^^ (Int32.ofInt (-1))) &&& (a - (nI 1))) (nI 65536)) ((a ^^^ (Int32.ofInt (-1))) &&& (a - (nI 1))) (ushr ((a ^^^ (Int32.ofInt (-1))) &&& (a - (nI 1))) (nI 16))) (ushr (cond (pm_cmp .le ((a ^^^ (Int32.ofInt (-1))) &&& (a - (nI 1))) (nI 65536)) ((a ^^^ (Int32.ofInt (-1))) &&& (a - (nI 1))) (ushr ((a ^^^ (Int32.ofInt (-1))) &&& (a - (nI 1))) (nI 16))) (nI 8))) (nI 4))) (nI 4)) rfl rfl rfl hh
    have hj9 : ∃ mJ, pm_run PT mJ fr lo 269 (cond (pm_cmp .le (cond (pm_cmp .le (cond (pm_cmp .le (cond (pm_cmp .le ((a ^^^ (Int32.ofInt (-1))) &&& (a - (nI 1))) (nI 65536)) ((a ^^^ (Int32.ofInt (-1))) &&& (a - (nI 1))) (ushr ((a ^^^ (Int32.ofInt (-1))) &&& (a - (nI 1))) (nI 16))) (nI 256)) (cond (pm_cmp .le ((a ^^^ (Int32.ofInt (-1))) &&& (a - (nI 1))) (nI 65536)) ((a ^^^ (Int32.ofInt (-1))) &&& (a - (nI 1))) (ushr ((a ^^^ (Int32.ofInt (-1))) &&& (a - (nI 1))) (nI 16))) (ushr (cond (pm_cmp .le ((a ^^^ (Int32.ofInt (-1))) &&& (a - (nI 1))) (nI 65536)) ((a ^^^ (Int32.ofInt (-1))) &&& (a - (nI 1))) (ushr ((a ^^^ (Int32.ofInt (-1))) &&& (a - (nI 1))) (nI 16))) (nI 8))) (nI 16)) (cond (pm_cmp .le (cond (pm_cmp .le ((a ^^^ (Int32.ofInt (-1))) &&& (a - (nI 1))) (nI 65536)) ((a ^^^ (Int32.ofInt (-1))) &&& (a - (nI 1))) (ushr ((a ^^^ (Int32.ofInt (-1))) &&& (a - (nI 1))) (nI 16))) (nI 256)) (cond (pm_cmp .le ((a ^^^ (Int32.ofInt (-1))) &&& (a - (nI 1))) (nI 65536)) ((a ^^^ (Int32.ofInt (-1))) &&& (a - (nI 1))) (ushr ((a ^^^ (Int32.ofInt (-1))) &&& (a - (nI 1))) (nI 16))) (ushr (cond (pm_cmp .le ((a ^^^ (Int32.ofInt (-1))) &&& (a - (nI 1))) (nI 65536)) ((a ^^^ (Int32.ofInt (-1))) &&& (a - (nI 1))) (ushr ((a ^^^ (Int32.ofInt (-1))) &&& (a - (nI 1))) (nI 16))) (nI 8))) (ushr (cond (pm_cmp .le (cond (pm_cmp .le ((a ^^^ (Int32.ofInt (-1))) &&& (a - (nI 1))) (nI 65536)) ((a ^^^ (Int32.ofInt (-1))) &&& (a - (nI 1))) (ushr ((a ^^^ (Int32.ofInt (-1))) &&& (a - (nI 1))) (nI 16))) (nI 256)) (cond (pm_cmp .le ((a ^^^ (Int32.ofInt (-1))) &&& (a - (nI 1))) (nI 65536)) ((a ^^^ (Int32.ofInt (-1))) &&& (a - (nI 1))) (ushr ((a ^^^ (Int32.ofInt (-1))) &&& (a - (nI 1))) (nI 16))) (ushr (cond (pm_cmp .le ((a ^^^ (Int32.ofInt (-1))) &&& (a - (nI 1))) (nI 65536)) ((a ^^^ (Int32.ofInt (-1))) &&& (a - (nI 1))) (ushr ((a ^^^ (Int32.ofInt (-1))) &&& (a - (nI 1))) (nI 16))) (nI 8))) (nI 4))) (nI 4)) (74, [some (.int (cond (pm_cmp .le (cond (pm_cmp .le (cond (pm_cmp .le ((a ^^^ (Int32.ofInt (-1))) &&& (a - (nI 1))) (nI 65536)) ((a ^^^ (Int32.ofInt (-1))) &&& (a - (nI 1))) (ushr ((a ^^^ (Int32.ofInt (-1))) &&& (a - (nI 1))) (nI 16))) (nI 256)) (cond (pm_cmp .le ((a ^^^ (Int32.ofInt (-1))) &&& (a - (nI 1))) (nI 65536)) ((a ^^^ (Int32.ofInt (-1))) &&& (a - (nI 1))) (ushr ((a ^^^ (Int32.ofInt (-1))) &&& (a - (nI 1))) (nI 16))) (ushr (cond (pm_cmp .le ((a ^^^ (Int32.ofInt (-1))) &&& (a - (nI 1))) (nI 65536)) ((a ^^^ (Int32.ofInt (-1))) &&& (a - (nI 1))) (ushr ((a ^^^ (Int32.ofInt (-1))) &&& (a - (nI 1))) (nI 16))) (nI 8))) (nI 16)) (cond (pm_cmp .le (cond (pm_cmp .le ((a ^^^ (Int32.ofInt (-1))) &&& (a - (nI 1))) (nI 65536)) ((a ^^^ (Int32.ofInt (-1))) &&& (a - (nI 1))) (ushr ((a ^^^ (Int32.ofInt (-1))) &&& (a - (nI 1))) (nI 16))) (nI 256)) (cond (pm_cmp .le ((a ^^^ (Int32.ofInt (-1))) &&& (a - (nI 1))) (nI 65536)) ((a ^^^ (Int32.ofInt (-1))) &&& (a - (nI 1))) (ushr ((a ^^^ (Int32.ofInt (-1))) &&& (a - (nI 1))) (nI 16))) (ushr (cond (pm_cmp .le ((a ^^^ (Int32.ofInt (-1))) &&& (a - (nI 1))) (nI 65536)) ((a ^^^ (Int32.ofInt (-1))) &&& (a - (nI 1))) (ushr ((a ^^^ (Int32.ofInt (-1))) &&& (a - (nI 1))) (nI 16))) (nI 8))) (ushr (cond (pm_cmp .le (cond (pm_cmp .le ((a ^^^ (Int32.ofInt (-1))) &&& (a - (nI 1))) (nI 65536)) ((a ^^^ (Int32.ofInt (-1))) &&& (a - (nI 1))) (ushr ((a ^^^ (Int32.ofInt (-1))) &&& (a - (nI 1))) (nI 16))) (nI 256)) (cond (pm_cmp .le ((a ^^^ (Int32.ofInt (-1))) &&& (a - (nI 1))) (nI 65536)) ((a ^^^ (Int32.ofInt (-1))) &&& (a - (nI 1))) (ushr ((a ^^^ (Int32.ofInt (-1))) &&& (a - (nI 1))) (nI 16))) (ushr (cond (pm_cmp .le ((a ^^^ (Int32.ofInt (-1))) &&& (a - (nI 1))) (nI 65536)) ((a ^^^ (Int32.ofInt (-1))) &&& (a - (nI 1))) (ushr ((a ^^^ (Int32.ofInt (-1))) &&& (a - (nI 1))) (nI 16))) (nI 8))) (nI 4)))), some (.int (cond (pm_cmp .le (cond (pm_cmp .le (cond (pm_cmp .le ((a ^^^ (Int32.ofInt (-1))) &&& (a - (nI 1))) (nI 65536)) ((a ^^^ (Int32.ofInt (-1))) &&& (a - (nI 1))) (ushr ((a ^^^ (Int32.ofInt (-1))) &&& (a - (nI 1))) (nI 16))) (nI 256)) (cond (pm_cmp .le ((a ^^^ (Int32.ofInt (-1))) &&& (a - (nI 1))) (nI 65536)) ((a ^^^ (Int32.ofInt (-1))) &&& (a - (nI 1))) (ushr ((a ^^^ (Int32.ofInt (-1))) &&& (a - (nI 1))) (nI 16))) (ushr (cond (pm_cmp .le ((a ^^^ (Int32.ofInt (-1))) &&& (a - (nI 1))) (nI 65536)) ((a ^^^ (Int32.ofInt (-1))) &&& (a - (nI 1))) (ushr ((a ^^^ (Int32.ofInt (-1))) &&& (a - (nI 1))) (nI 16))) (nI 8))) (nI 16)) (cond (pm_cmp .le (cond (pm_cmp .le ((a ^^^ (Int32.ofInt (-1))) &&& (a - (nI 1))) (nI 65536)) ((a ^^^ (Int32.ofInt (-1))) &&& (a - (nI 1))) (ushr ((a ^^^ (Int32.ofInt (-1))) &&& (a - (nI 1))) (nI 16))) (nI 256)) (cond (pm_cmp .le ((a ^^^ (Int32.ofInt (-1))) &&& (a - (nI 1))) (nI 65536)) (nI 1) (nI 17)) ((cond (pm_cmp .le ((a ^^^ (Int32.ofInt (-1))) &&& (a - (nI 1))) (nI 65536)) (nI 1) (nI 17)) + Int32.ofInt 8)) ((cond (pm_cmp .le (cond (pm_cmp .le ((a ^^^ (Int32.ofInt (-1))) &&& (a - (nI 1))) (nI 65536)) ((a ^^^ (Int32.ofInt (-1))) &&& (a - (nI 1))) (ushr ((a ^^^ (Int32.ofInt (-1))) &&& (a - (nI 1))) (nI 16))) (nI 256)) (cond (pm_cmp .le ((a ^^^ (Int32.ofInt (-1))) &&& (a - (nI 1))) (nI 65536)) (nI 1) (nI 17)) ((cond (pm_cmp .le ((a ^^^ (Int32.ofInt (-1))) &&& (a - (nI 1))) (nI 65536)) (nI 1) (nI 17)) + Int32.ofInt 8)) + Int32.ofInt 4)))], [], h, 198, sl) (74, [some (.int (ushr (cond (pm_cmp .le (cond (pm_cmp .le (cond (pm_cmp .le ((a ^^^ (Int32.ofInt (-1))) &&& (a - (nI 1))) (nI 65536)) ((a ^^^ (Int32.ofInt (-1))) &&& (a - (nI 1))) (ushr ((a ^^^ (Int32.ofInt (-1))) &&& (a - (nI 1))) (nI 16))) (nI 256)) (cond (pm_cmp .le ((a ^^^ (Int32.ofInt (-1))) &&& (a - (nI 1))) (nI 65536)) ((a ^^^ (Int32.ofInt (-1))) &&& (a - (nI 1))) (ushr ((a ^^^ (Int32.ofInt (-1))) &&& (a - (nI 1))) (nI 16))) (ushr (cond (pm_cmp .le ((a ^^^ (Int32.ofInt (-1))) &&& (a - (nI 1))) (nI 65536)) ((a ^^^ (Int32.ofInt (-1))) &&& (a - (nI 1))) (ushr ((a ^^^ (Int32.ofInt (-1))) &&& (a - (nI 1))) (nI 16))) (nI 8))) (nI 16)) (cond (pm_cmp .le (cond (pm_cmp .le ((a ^^^ (Int32.ofInt (-1))) &&& (a - (nI 1))) (nI 65536)) ((a ^^^ (Int32.ofInt (-1))) &&& (a - (nI 1))) (ushr ((a ^^^ (Int32.ofInt (-1))) &&& (a - (nI 1))) (nI 16))) (nI 256)) (cond (pm_cmp .le ((a ^^^ (Int32.ofInt (-1))) &&& (a - (nI 1))) (nI 65536)) ((a ^^^ (Int32.ofInt (-1))) &&& (a - (nI 1))) (ushr ((a ^^^ (Int32.ofInt (-1))) &&& (a - (nI 1))) (nI 16))) (ushr (cond (pm_cmp .le ((a ^^^ (Int32.ofInt (-1))) &&& (a - (nI 1))) (nI 65536)) ((a ^^^ (Int32.ofInt (-1))) &&& (a - (nI 1))) (ushr ((a ^^^ (Int32.ofInt (-1))) &&& (a - (nI 1))) (nI 16))) (nI 8))) (ushr (cond (pm_cmp .le (cond (pm_cmp .le ((a ^^^ (Int32.ofInt (-1))) &&& (a - (nI 1))) (nI 65536)) ((a ^^^ (Int32.ofInt (-1))) &&& (a - (nI 1))) (ushr ((a ^^^ (Int32.ofInt (-1))) &&& (a - (nI 1))) (nI 16))) (nI 256)) (cond (pm_cmp .le ((a ^^^ (Int32.ofInt (-1))) &&& (a - (nI 1))) (nI 65536)) ((a ^^^ (Int32.ofInt (-1))) &&& (a - (nI 1))) (ushr ((a ^^^ (Int32.ofInt (-1))) &&& (a - (nI 1))) (nI 16))) (ushr (cond (pm_cmp .le ((a ^^^ (Int32.ofInt (-1))) &&& (a - (nI 1))) (nI 65536)) ((a ^^^ (Int32.ofInt (-1))) &&& (a - (nI 1))) (ushr ((a ^^^ (Int32.ofInt (-1))) &&& (a - (nI 1))) (nI 16))) (nI 8))) (nI 4))) (nI 2))), some (.int ((cond (pm_cmp .le (cond (pm_cmp .le (cond (pm_cmp .le ((a ^^^ (Int32.ofInt (-1))) &&& (a - (nI 1))) (nI 65536)) ((a ^^^ (Int32.ofInt (-1))) &&& (a - (nI 1))) (ushr ((a ^^^ (Int32.ofInt (-1))) &&& (a - (nI 1))) (nI 16))) (nI 256)) (cond (pm_cmp .le ((a ^^^ (Int32.ofInt (-1))) &&& (a - (nI 1))) (nI 65536)) ((a ^^^ (Int32.ofInt (-1))) &&& (a - (nI 1))) (ushr ((a ^^^ (Int32.ofInt (-1))) &&& (a - (nI 1))) (nI 16))) (ushr (cond (pm_cmp .le ((a ^^^ (Int32.ofInt (-1))) &&& (a - (nI 1))) (nI 65536)) ((a ^^^ (Int32.ofInt (-1))) &&& (a - (nI 1))) (ushr ((a ^^^ (Int32.ofInt (-1))) &&& (a - (nI 1))) (nI 16))) (nI 8))) (nI 16)) (cond (pm_cmp .le (cond (pm_cmp .le ((a ^^^ (Int32.ofInt (-1))) &&& (a - (nI 1))) (nI 65536)) ((a ^^^ (Int32.ofInt (-1))) &&& (a - (nI 1))) (ushr ((a ^^^ (Int32.ofInt (-1))) &&& (a - (nI 1))) (nI 16))) (nI 256)) (cond (pm_cmp .le ((a ^^^ (Int32.ofInt (-1))) &&& (a - (nI 1))) (nI 65536)) (nI 1) (nI 17)) ((cond (pm_cmp .le ((a ^^^ (Int32.ofInt (-1))) &&& (a - (nI 1))) (nI 65536)) (nI 1) (nI 17)) + Int32.ofInt 8)) ((cond (pm_cmp .le (cond (pm_cmp .le ((a ^^^ (Int32.ofInt (-1))) &&& (a - (nI 1))) (nI 65536)) ((a ^^^ (Int32.ofInt (-1))) &&& (a - (nI 1))) (ushr ((a ^^^ (Int32.ofInt (-1))) &&& (a - (nI 1))) (nI 16))) (nI 256)) (cond (pm_cmp .le ((a ^^^ (Int32.ofInt (-1))) &&& (a - (nI 1))) (nI 65536)) (nI 1) (nI 17)) ((cond (pm_cmp .le ((a ^^^ (Int32.ofInt (-1))) &&& (a - (nI 1))) (nI 65536)) (nI 1) (nI 17)) + Int32.ofInt 8)) + Int32.ofInt 4)) + Int32.ofInt 2))], [], h, 198, sl)) = some R := en_J (fun z8 => by
        have hh := en_t z8 hh
        have hh : pm_run PT n fr lo 269 (74, [some (.int (cond (pm_cmp .le (cond (pm_cmp .le (cond (pm_cmp .le ((a ^^^ (Int32.ofInt (-1))) &&& (a - (nI 1))) (nI 65536)) ((a ^^^ (Int32.ofInt (-1))) &&& (a - (nI 1))) (ushr ((a ^^^ (Int32.ofInt (-1))) &&& (a - (nI 1))) (nI 16))) (nI 256)) (cond (pm_cmp .le ((a ^^^ (Int32.ofInt (-1))) &&& (a - (nI 1))) (nI 65536)) ((a ^^^ (Int32.ofInt (-1))) &&& (a - (nI 1))) (ushr ((a ^^^ (Int32.ofInt (-1))) &&& (a - (nI 1))) (nI 16))) (ushr (cond (pm_cmp .le ((a ^^^ (Int32.ofInt (-1))) &&& (a - (nI 1))) (nI 65536)) ((a ^^^ (Int32.ofInt (-1))) &&& (a - (nI 1))) (ushr ((a ^^^ (Int32.ofInt (-1))) &&& (a - (nI 1))) (nI 16))) (nI 8))) (nI 16)) (cond (pm_cmp .le (cond (pm_cmp .le ((a ^^^ (Int32.ofInt (-1))) &&& (a - (nI 1))) (nI 65536)) ((a ^^^ (Int32.ofInt (-1))) &&& (a - (nI 1))) (ushr ((a ^^^ (Int32.ofInt (-1))) &&& (a - (nI 1))) (nI 16))) (nI 256)) (cond (pm_cmp .le ((a ^^^ (Int32.ofInt (-1))) &&& (a - (nI 1))) (nI 65536)) ((a ^^^ (Int32.ofInt (-1))) &&& (a - (nI 1))) (ushr ((a ^^^ (Int32.ofInt (-1))) &&& (a - (nI 1))) (nI 16))) (ushr (cond (pm_cmp .le ((a ^^^ (Int32.ofInt (-1))) &&& (a - (nI 1))) (nI 65536)) ((a ^^^ (Int32.ofInt (-1))) &&& (a - (nI 1))) (ushr ((a ^^^ (Int32.ofInt (-1))) &&& (a - (nI 1))) (nI 16))) (nI 8))) (ushr (cond (pm_cmp .le (cond (pm_cmp .le ((a ^^^ (Int32.ofInt (-1))) &&& (a - (nI 1))) (nI 65536)) ((a ^^^ (Int32.ofInt (-1))) &&& (a - (nI 1))) (ushr ((a ^^^ (Int32.ofInt (-1))) &&& (a - (nI 1))) (nI 16))) (nI 256)) (cond (pm_cmp .le ((a ^^^ (Int32.ofInt (-1))) &&& (a - (nI 1))) (nI 65536)) ((a ^^^ (Int32.ofInt (-1))) &&& (a - (nI 1))) (ushr ((a ^^^ (Int32.ofInt (-1))) &&& (a - (nI 1))) (nI 16))) (ushr (cond (pm_cmp .le ((a ^^^ (Int32.ofInt (-1))) &&& (a - (nI 1))) (nI 65536)) ((a ^^^ (Int32.ofInt (-1))) &&& (a - (nI 1))) (ushr ((a ^^^ (Int32.ofInt (-1))) &&& (a - (nI 1))) (nI 16))) (nI 8))) (nI 4)))), some (.int (cond (pm_cmp .le (cond (pm_cmp .le (cond (pm_cmp .le ((a ^^^ (Int32.ofInt (-1))) &&& (a - (nI 1))) (nI 65536)) ((a ^^^ (Int32.ofInt (-1))) &&& (a - (nI 1))) (ushr ((a ^^^ (Int32.ofInt (-1))) &&& (a - (nI 1))) (nI 16))) (nI 256)) (cond (pm_cmp .le ((a ^^^ (Int32.ofInt (-1))) &&& (a - (nI 1))) (nI 65536)) ((a ^^^ (Int32.ofInt (-1))) &&& (a - (nI 1))) (ushr ((a ^^^ (Int32.ofInt (-1))) &&& (a - (nI 1))) (nI 16))) (ushr (cond (pm_cmp .le ((a ^^^ (Int32.ofInt (-1))) &&& (a - (nI 1))) (nI 65536)) ((a ^^^ (Int32.ofInt (-1))) &&& (a - (nI 1))) (ushr ((a ^^^ (Int32.ofInt (-1))) &&& (a - (nI 1))) (nI 16))) (nI 8))) (nI 16)) (cond (pm_cmp .le (cond (pm_cmp .le ((a ^^^ (Int32.ofInt (-1))) &&& (a - (nI 1))) (nI 65536)) ((a ^^^ (Int32.ofInt (-1))) &&& (a - (nI 1))) (ushr ((a ^^^ (Int32.ofInt (-1))) &&& (a - (nI 1))) (nI 16))) (nI 256)) (cond (pm_cmp .le ((a ^^^ (Int32.ofInt (-1))) &&& (a - (nI 1))) (nI 65536)) (nI 1) (nI 17)) ((cond (pm_cmp .le ((a ^^^ (Int32.ofInt (-1))) &&& (a - (nI 1))) (nI 65536)) (nI 1) (nI 17)) + Int32.ofInt 8)) ((cond (pm_cmp .le (cond (pm_cmp .le ((a ^^^ (Int32.ofInt (-1))) &&& (a - (nI 1))) (nI 65536)) ((a ^^^ (Int32.ofInt (-1))) &&& (a - (nI 1))) (ushr ((a ^^^ (Int32.ofInt (-1))) &&& (a - (nI 1))) (nI 16))) (nI 256)) (cond (pm_cmp .le ((a ^^^ (Int32.ofInt (-1))) &&& (a - (nI 1))) (nI 65536)) (nI 1) (nI 17)) ((cond (pm_cmp .le ((a ^^^ (Int32.ofInt (-1))) &&& (a - (nI 1))) (nI 65536)) (nI 1) (nI 17)) + Int32.ofInt 8)) + Int32.ofInt 4)))], [], h, 198, sl) = some R := hh
        exact ⟨n, hh⟩) (fun z8 => by
        have hh := en_f z8 hh
        have hh : pm_run PT n fr lo 269 (67, [some (.int (cond (pm_cmp .le (cond (pm_cmp .le (cond (pm_cmp .le ((a ^^^ (Int32.ofInt (-1))) &&& (a - (nI 1))) (nI 65536)) ((a ^^^ (Int32.ofInt (-1))) &&& (a - (nI 1))) (ushr ((a ^^^ (Int32.ofInt (-1))) &&& (a - (nI 1))) (nI 16))) (nI 256)) (cond (pm_cmp .le ((a ^^^ (Int32.ofInt (-1))) &&& (a - (nI 1))) (nI 65536)) ((a ^^^ (Int32.ofInt (-1))) &&& (a - (nI 1))) (ushr ((a ^^^ (Int32.ofInt (-1))) &&& (a - (nI 1))) (nI 16))) (ushr (cond (pm_cmp .le ((a ^^^ (Int32.ofInt (-1))) &&& (a - (nI 1))) (nI 65536)) ((a ^^^ (Int32.ofInt (-1))) &&& (a - (nI 1))) (ushr ((a ^^^ (Int32.ofInt (-1))) &&& (a - (nI 1))) (nI 16))) (nI 8))) (nI 16)) (cond (pm_cmp .le (cond (pm_cmp .le ((a ^^^ (Int32.ofInt (-1))) &&& (a - (nI 1))) (nI 65536)) ((a ^^^ (Int32.ofInt (-1))) &&& (a - (nI 1))) (ushr ((a ^^^ (Int32.ofInt (-1))) &&& (a - (nI 1))) (nI 16))) (nI 256)) (cond (pm_cmp .le ((a ^^^ (Int32.ofInt (-1))) &&& (a - (nI 1))) (nI 65536)) ((a ^^^ (Int32.ofInt (-1))) &&& (a - (nI 1))) (ushr ((a ^^^ (Int32.ofInt (-1))) &&& (a - (nI 1))) (nI 16))) (ushr (cond (pm_cmp .le ((a ^^^ (Int32.ofInt (-1))) &&& (a - (nI 1))) (nI 65536)) ((a ^^^ (Int32.ofInt (-1))) &&& (a - (nI 1))) (ushr ((a ^^^ (Int32.ofInt (-1))) &&& (a - (nI 1))) (nI 16))) (nI 8))) (ushr (cond (pm_cmp .le (cond (pm_cmp .le ((a ^^^ (Int32.ofInt (-1))) &&& (a - (nI 1))) (nI 65536)) ((a ^^^ (Int32.ofInt (-1))) &&& (a - (nI 1))) (ushr ((a ^^^ (Int32.ofInt (-1))) &&& (a - (nI 1))) (nI 16))) (nI 256)) (cond (pm_cmp .le ((a ^^^ (Int32.ofInt (-1))) &&& (a - (nI 1))) (nI 65536)) ((a ^^^ (Int32.ofInt (-1))) &&& (a - (nI 1))) (ushr ((a ^^^ (Int32.ofInt (-1))) &&& (a - (nI 1))) (nI 16))) (ushr (cond (pm_cmp .le ((a ^^^ (Int32.ofInt (-1))) &&& (a - (nI 1))) (nI 65536)) ((a ^^^ (Int32.ofInt (-1))) &&& (a - (nI 1))) (ushr ((a ^^^ (Int32.ofInt (-1))) &&& (a - (nI 1))) (nI 16))) (nI 8))) (nI 4)))), some (.int (cond (pm_cmp .le (cond (pm_cmp .le (cond (pm_cmp .le ((a ^^^ (Int32.ofInt (-1))) &&& (a - (nI 1))) (nI 65536)) ((a ^^^ (Int32.ofInt (-1))) &&& (a - (nI 1))) (ushr ((a ^^^ (Int32.ofInt (-1))) &&& (a - (nI 1))) (nI 16))) (nI 256)) (cond (pm_cmp .le ((a ^^^ (Int32.ofInt (-1))) &&& (a - (nI 1))) (nI 65536)) ((a ^^^ (Int32.ofInt (-1))) &&& (a - (nI 1))) (ushr ((a ^^^ (Int32.ofInt (-1))) &&& (a - (nI 1))) (nI 16))) (ushr (cond (pm_cmp .le ((a ^^^ (Int32.ofInt (-1))) &&& (a - (nI 1))) (nI 65536)) ((a ^^^ (Int32.ofInt (-1))) &&& (a - (nI 1))) (ushr ((a ^^^ (Int32.ofInt (-1))) &&& (a - (nI 1))) (nI 16))) (nI 8))) (nI 16)) (cond (pm_cmp .le (cond (pm_cmp .le ((a ^^^ (Int32.ofInt (-1))) &&& (a - (nI 1))) (nI 65536)) ((a ^^^ (Int32.ofInt (-1))) &&& (a - (nI 1))) (ushr ((a ^^^ (Int32.ofInt (-1))) &&& (a - (nI 1))) (nI 16))) (nI 256)) (cond (pm_cmp .le ((a ^^^ (Int32.ofInt (-1))) &&& (a - (nI 1))) (nI 65536)) (nI 1) (nI 17)) ((cond (pm_cmp .le ((a ^^^ (Int32.ofInt (-1))) &&& (a - (nI 1))) (nI 65536)) (nI 1) (nI 17)) + Int32.ofInt 8)) ((cond (pm_cmp .le (cond (pm_cmp .le ((a ^^^ (Int32.ofInt (-1))) &&& (a - (nI 1))) (nI 65536)) ((a ^^^ (Int32.ofInt (-1))) &&& (a - (nI 1))) (ushr ((a ^^^ (Int32.ofInt (-1))) &&& (a - (nI 1))) (nI 16))) (nI 256)) (cond (pm_cmp .le ((a ^^^ (Int32.ofInt (-1))) &&& (a - (nI 1))) (nI 65536)) (nI 1) (nI 17)) ((cond (pm_cmp .le ((a ^^^ (Int32.ofInt (-1))) &&& (a - (nI 1))) (nI 65536)) (nI 1) (nI 17)) + Int32.ofInt 8)) + Int32.ofInt 4)))], [], h, 198, sl) = some R := hh
        obtain ⟨n, hh⟩ := rn_i rfl rfl rfl rfl hh
        obtain ⟨n, hh⟩ := rn_i rfl rfl rfl rfl hh
        obtain ⟨n, hh⟩ := rn_i rfl rfl rfl rfl hh
        obtain ⟨n, hh⟩ := rn_i rfl rfl rfl rfl hh
        obtain ⟨n, hh⟩ := rn_i rfl rfl rfl rfl hh
        exact ⟨n, hh⟩)
    obtain ⟨n, hh⟩ := hj9
    rw [show (cond (pm_cmp .le (cond (pm_cmp .le (cond (pm_cmp .le (cond (pm_cmp .le ((a ^^^ (Int32.ofInt (-1))) &&& (a - (nI 1))) (nI 65536)) ((a ^^^ (Int32.ofInt (-1))) &&& (a - (nI 1))) (ushr ((a ^^^ (Int32.ofInt (-1))) &&& (a - (nI 1))) (nI 16))) (nI 256)) (cond (pm_cmp .le ((a ^^^ (Int32.ofInt (-1))) &&& (a - (nI 1))) (nI 65536)) ((a ^^^ (Int32.ofInt (-1))) &&& (a - (nI 1))) (ushr ((a ^^^ (Int32.ofInt (-1))) &&& (a - (nI 1))) (nI 16))) (ushr (cond (pm_cmp .le ((a ^^^ (Int32.ofInt (-1))) &&& (a - (nI 1))) (nI 65536)) ((a ^^^ (Int32.ofInt (-1))) &&& (a - (nI 1))) (ushr ((a ^^^ (Int32.ofInt (-1))) &&& (a - (nI 1))) (nI 16))) (nI 8))) (nI 16)) (cond (pm_cmp .le (cond (pm_cmp .le ((a ^^^ (Int32.ofInt (-1))) &&& (a - (nI 1))) (nI 65536)) ((a ^^^ (Int32.ofInt (-1))) &&& (a - (nI 1))) (ushr ((a ^^^ (Int32.ofInt (-1))) &&& (a - (nI 1))) (nI 16))) (nI 256)) (cond (pm_cmp .le ((a ^^^ (Int32.ofInt (-1))) &&& (a - (nI 1))) (nI 65536)) ((a ^^^ (Int32.ofInt (-1))) &&& (a - (nI 1))) (ushr ((a ^^^ (Int32.ofInt (-1))) &&& (a - (nI 1))) (nI 16))) (ushr (cond (pm_cmp .le ((a ^^^ (Int32.ofInt (-1))) &&& (a - (nI 1))) (nI 65536)) ((a ^^^ (Int32.ofInt (-1))) &&& (a - (nI 1))) (ushr ((a ^^^ (Int32.ofInt (-1))) &&& (a - (nI 1))) (nI 16))) (nI 8))) (ushr (cond (pm_cmp .le (cond (pm_cmp .le ((a ^^^ (Int32.ofInt (-1))) &&& (a - (nI 1))) (nI 65536)) ((a ^^^ (Int32.ofInt (-1))) &&& (a - (nI 1))) (ushr ((a ^^^ (Int32.ofInt (-1))) &&& (a - (nI 1))) (nI 16))) (nI 256)) (cond (pm_cmp .le ((a ^^^ (Int32.ofInt (-1))) &&& (a - (nI 1))) (nI 65536)) ((a ^^^ (Int32.ofInt (-1))) &&& (a - (nI 1))) (ushr ((a ^^^ (Int32.ofInt (-1))) &&& (a - (nI 1))) (nI 16))) (ushr (cond (pm_cmp .le ((a ^^^ (Int32.ofInt (-1))) &&& (a - (nI 1))) (nI 65536)) ((a ^^^ (Int32.ofInt (-1))) &&& (a - (nI 1))) (ushr ((a ^^^ (Int32.ofInt (-1))) &&& (a - (nI 1))) (nI 16))) (nI 8))) (nI 4))) (nI 4)) (74, [some (.int (cond (pm_cmp .le (cond (pm_cmp .le (cond (pm_cmp .le ((a ^^^ (Int32.ofInt (-1))) &&& (a - (nI 1))) (nI 65536)) ((a ^^^ (Int32.ofInt (-1))) &&& (a - (nI 1))) (ushr ((a ^^^ (Int32.ofInt (-1))) &&& (a - (nI 1))) (nI 16))) (nI 256)) (cond (pm_cmp .le ((a ^^^ (Int32.ofInt (-1))) &&& (a - (nI 1))) (nI 65536)) ((a ^^^ (Int32.ofInt (-1))) &&& (a - (nI 1))) (ushr ((a ^^^ (Int32.ofInt (-1))) &&& (a - (nI 1))) (nI 16))) (ushr (cond (pm_cmp .le ((a ^^^ (Int32.ofInt (-1))) &&& (a - (nI 1))) (nI 65536)) ((a ^^^ (Int32.ofInt (-1))) &&& (a - (nI 1))) (ushr ((a ^^^ (Int32.ofInt (-1))) &&& (a - (nI 1))) (nI 16))) (nI 8))) (nI 16)) (cond (pm_cmp .le (cond (pm_cmp .le ((a ^^^ (Int32.ofInt (-1))) &&& (a - (nI 1))) (nI 65536)) ((a ^^^ (Int32.ofInt (-1))) &&& (a - (nI 1))) (ushr ((a ^^^ (Int32.ofInt (-1))) &&& (a - (nI 1))) (nI 16))) (nI 256)) (cond (pm_cmp .le ((a ^^^ (Int32.ofInt (-1))) &&& (a - (nI 1))) (nI 65536)) ((a ^^^ (Int32.ofInt (-1))) &&& (a - (nI 1))) (ushr ((a ^^^ (Int32.ofInt (-1))) &&& (a - (nI 1))) (nI 16))) (ushr (cond (pm_cmp .le ((a ^^^ (Int32.ofInt (-1))) &&& (a - (nI 1))) (nI 65536)) ((a ^^^ (Int32.ofInt (-1))) &&& (a - (nI 1))) (ushr ((a ^^^ (Int32.ofInt (-1))) &&& (a - (nI 1))) (nI 16))) (nI 8))) (ushr (cond (pm_cmp .le (cond (pm_cmp .le ((a ^^^ (Int32.ofInt (-1))) &&& (a - (nI 1))) (nI 65536)) ((a ^^^ (Int32.ofInt (-1))) &&& (a - (nI 1))) (ushr ((a ^^^ (Int32.ofInt (-1))) &&& (a - (nI 1))) (nI 16))) (nI 256)) (cond (pm_cmp .le ((a ^^^ (Int32.ofInt (-1))) &&& (a - (nI 1))) (nI 65536)) ((a ^^^ (Int32.ofInt (-1))) &&& (a - (nI 1))) (ushr ((a ^^^ (Int32.ofInt (-1))) &&& (a - (nI 1))) (nI 16))) (ushr (cond (pm_cmp .le ((a ^^^ (Int32.ofInt (-1))) &&& (a - (nI 1))) (nI 65536)) ((a ^^^ (Int32.ofInt (-1))) &&& (a - (nI 1))) (ushr ((a ^^^ (Int32.ofInt (-1))) &&& (a - (nI 1))) (nI 16))) (nI 8))) (nI 4)))), some (.int (cond (pm_cmp .le (cond (pm_cmp .le (cond (pm_cmp .le ((a ^^^ (Int32.ofInt (-1))) &&& (a - (nI 1))) (nI 65536)) ((a ^^^ (Int32.ofInt (-1))) &&& (a - (nI 1))) (ushr ((a ^^^ (Int32.ofInt (-1))) &&& (a - (nI 1))) (nI 16))) (nI 256)) (cond (pm_cmp .le ((a ^^^ (Int32.ofInt (-1))) &&& (a - (nI 1))) (nI 65536)) ((a ^^^ (Int32.ofInt (-1))) &&& (a - (nI 1))) (ushr ((a ^^^ (Int32.ofInt (-1))) &&& (a - (nI 1))) (nI 16))) (ushr (cond (pm_cmp .le ((a ^^^ (Int32.ofInt (-1))) &&& (a - (nI 1))) (nI 65536)) ((a ^^^ (Int32.ofInt (-1))) &&& (a - (nI 1))) (ushr ((a ^^^ (Int32.ofInt (-1))) &&& (a - (nI 1))) (nI 16))) (nI 8))) (nI 16)) (cond (pm_cmp .le (cond (pm_cmp .le ((a ^^^ (Int32.ofInt (-1))) &&& (a - (nI 1))) (nI 65536)) ((a ^^^ (Int32.ofInt (-1))) &&& (a - (nI 1))) (ushr ((a ^^^ (Int32.ofInt (-1))) &&& (a - (nI 1))) (nI 16))) (nI 256)) (cond (pm_cmp .le ((a ^^^ (Int32.ofInt (-1))) &&& (a - (nI 1))) (nI 65536)) (nI 1) (nI 17)) ((cond (pm_cmp .le ((a ^^^ (Int32.ofInt (-1))) &&& (a - (nI 1))) (nI 65536)) (nI 1) (nI 17)) + Int32.ofInt 8)) ((cond (pm_cmp .le (cond (pm_cmp .le ((a ^^^ (Int32.ofInt (-1))) &&& (a - (nI 1))) (nI 65536)) ((a ^^^ (Int32.ofInt (-1))) &&& (a - (nI 1))) (ushr ((a ^^^ (Int32.ofInt (-1))) &&& (a - (nI 1))) (nI 16))) (nI 256)) (cond (pm_cmp .le ((a ^^^ (Int32.ofInt (-1))) &&& (a - (nI 1))) (nI 65536)) (nI 1) (nI 17)) ((cond (pm_cmp .le ((a ^^^ (Int32.ofInt (-1))) &&& (a - (nI 1))) (nI 65536)) (nI 1) (nI 17)) + Int32.ofInt 8)) + Int32.ofInt 4)))], [], h, 198, sl) (74, [some (.int (ushr (cond (pm_cmp .le (cond (pm_cmp .le (cond (pm_cmp .le ((a ^^^ (Int32.ofInt (-1))) &&& (a - (nI 1))) (nI 65536)) ((a ^^^ (Int32.ofInt (-1))) &&& (a - (nI 1))) (ushr ((a ^^^ (Int32.ofInt (-1))) &&& (a - (nI 1))) (nI 16))) (nI 256)) (cond (pm_cmp .le ((a ^^^ (Int32.ofInt (-1))) &&& (a - (nI 1))) (nI 65536)) ((a ^^^ (Int32.ofInt (-1))) &&& (a - (nI 1))) (ushr ((a ^^^ (Int32.ofInt (-1))) &&& (a - (nI 1))) (nI 16))) (ushr (cond (pm_cmp .le ((a ^^^ (Int32.ofInt (-1))) &&& (a - (nI 1))) (nI 65536)) ((a ^^^ (Int32.ofInt (-1))) &&& (a - (nI 1))) (ushr ((a ^^^ (Int32.ofInt (-1))) &&& (a - (nI 1))) (nI 16))) (nI 8))) (nI 16)) (cond (pm_cmp .le (cond (pm_cmp .le ((a ^^^ (Int32.ofInt (-1))) &&& (a - (nI 1))) (nI 65536)) ((a ^^^ (Int32.ofInt (-1))) &&& (a - (nI 1))) (ushr ((a ^^^ (Int32.ofInt (-1))) &&& (a - (nI 1))) (nI 16))) (nI 256)) (cond (pm_cmp .le ((a ^^^ (Int32.ofInt (-1))) &&& (a - (nI 1))) (nI 65536)) ((a ^^^ (Int32.ofInt (-1))) &&& (a - (nI 1))) (ushr ((a ^^^ (Int32.ofInt (-1))) &&& (a - (nI 1))) (nI 16))) (ushr (cond (pm_cmp .le ((a ^^^ (Int32.ofInt (-1))) &&& (a - (nI 1))) (nI 65536)) ((a ^^^ (Int32.ofInt (-1))) &&& (a - (nI 1))) (ushr ((a ^^^ (Int32.ofInt (-1))) &&& (a - (nI 1))) (nI 16))) (nI 8))) (ushr (cond (pm_cmp .le (cond (pm_cmp .le ((a ^^^ (Int32.ofInt (-1))) &&& (a - (nI 1))) (nI 65536)) ((a ^^^ (Int32.ofInt (-1))) &&& (a - (nI 1))) (ushr ((a ^^^ (Int32.ofInt (-1))) &&& (a - (nI 1))) (nI 16))) (nI 256)) (cond (pm_cmp .le ((a ^^^ (Int32.ofInt (-1))) &&& (a - (nI 1))) (nI 65536)) ((a ^^^ (Int32.ofInt (-1))) &&& (a - (nI 1))) (ushr ((a ^^^ (Int32.ofInt (-1))) &&& (a - (nI 1))) (nI 16))) (ushr (cond (pm_cmp .le ((a ^^^ (Int32.ofInt (-1))) &&& (a - (nI 1))) (nI 65536)) ((a ^^^ (Int32.ofInt (-1))) &&& (a - (nI 1))) (ushr ((a ^^^ (Int32.ofInt (-1))) &&& (a - (nI 1))) (nI 16))) (nI 8))) (nI 4))) (nI 2))), some (.int ((cond (pm_cmp .le (cond (pm_cmp .le (cond (pm_cmp .le ((a ^^^ (Int32.ofInt (-1))) &&& (a - (nI 1))) (nI 65536)) ((a ^^^ (Int32.ofInt (-1))) &&& (a - (nI 1))) (ushr ((a ^^^ (Int32.ofInt (-1))) &&& (a - (nI 1))) (nI 16))) (nI 256)) (cond (pm_cmp .le ((a ^^^ (Int32.ofInt (-1))) &&& (a - (nI 1))) (nI 65536)) ((a ^^^ (Int32.ofInt (-1))) &&& (a - (nI 1))) (ushr ((a ^^^ (Int32.ofInt (-1))) &&& (a - (nI 1))) (nI 16))) (ushr (cond (pm_cmp .le ((a ^^^ (Int32.ofInt (-1))) &&& (a - (nI 1))) (nI 65536)) ((a ^^^ (Int32.ofInt (-1))) &&& (a - (nI 1))) (ushr ((a ^^^ (Int32.ofInt (-1))) &&& (a - (nI 1))) (nI 16))) (nI 8))) (nI 16)) (cond (pm_cmp .le (cond (pm_cmp .le ((a ^^^ (Int32.ofInt (-1))) &&& (a - (nI 1))) (nI 65536)) ((a ^^^ (Int32.ofInt (-1))) &&& (a - (nI 1))) (ushr ((a ^^^ (Int32.ofInt (-1))) &&& (a - (nI 1))) (nI 16))) (nI 256)) (cond (pm_cmp .le ((a ^^^ (Int32.ofInt (-1))) &&& (a - (nI 1))) (nI 65536)) (nI 1) (nI 17)) ((cond (pm_cmp .le ((a ^^^ (Int32.ofInt (-1))) &&& (a - (nI 1))) (nI 65536)) (nI 1) (nI 17)) + Int32.ofInt 8)) ((cond (pm_cmp .le (cond (pm_cmp .le ((a ^^^ (Int32.ofInt (-1))) &&& (a - (nI 1))) (nI 65536)) ((a ^^^ (Int32.ofInt (-1))) &&& (a - (nI 1))) (ushr ((a ^^^ (Int32.ofInt (-1))) &&& (a - (nI 1))) (nI 16))) (nI 256)) (cond (pm_cmp .le ((a ^^^ (Int32.ofInt (-1))) &&& (a - (nI 1))) (nI 65536)) (nI 1) (nI 17)) ((cond (pm_cmp .le ((a ^^^ (Int32.ofInt (-1))) &&& (a - (nI 1))) (nI 65536)) (nI 1) (nI 17)) + Int32.ofInt 8)) + Int32.ofInt 4)) + Int32.ofInt 2))], [], h, 198, sl) : pm_St) = (74, [some (.int (cond (pm_cmp .le (cond (pm_cmp .le (cond (pm_cmp .le (cond (pm_cmp .le ((a ^^^ (Int32.ofInt (-1))) &&& (a - (nI 1))) (nI 65536)) ((a ^^^ (Int32.ofInt (-1))) &&& (a - (nI 1))) (ushr ((a ^^^ (Int32.ofInt (-1))) &&& (a - (nI 1))) (nI 16))) (nI 256)) (cond (pm_cmp .le ((a ^^^ (Int32.ofInt (-1))) &&& (a - (nI 1))) (nI 65536)) ((a ^^^ (Int32.ofInt (-1))) &&& (a - (nI 1))) (ushr ((a ^^^ (Int32.ofInt (-1))) &&& (a - (nI 1))) (nI 16))) (ushr (cond (pm_cmp .le ((a ^^^ (Int32.ofInt (-1))) &&& (a - (nI 1))) (nI 65536)) ((a ^^^ (Int32.ofInt (-1))) &&& (a - (nI 1))) (ushr ((a ^^^ (Int32.ofInt (-1))) &&& (a - (nI 1))) (nI 16))) (nI 8))) (nI 16)) (cond (pm_cmp .le (cond (pm_cmp .le ((a ^^^ (Int32.ofInt (-1))) &&& (a - (nI 1))) (nI 65536)) ((a ^^^ (Int32.ofInt (-1))) &&& (a - (nI 1))) (ushr ((a ^^^ (Int32.ofInt (-1))) &&& (a - (nI 1))) (nI 16))) (nI 256)) (cond (pm_cmp .le ((a ^^^ (Int32.ofInt (-1))) &&& (a - (nI 1))) (nI 65536)) ((a ^^^ (Int32.ofInt (-1))) &&& (a - (nI 1))) (ushr ((a ^^^ (Int32.ofInt (-1))) &&& (a - (nI 1))) (nI 16))) (ushr (cond (pm_cmp .le ((a ^^^ (Int32.ofInt (-1))) &&& (a - (nI 1))) (nI 65536)) ((a ^^^ (Int32.ofInt (-1))) &&& (a - (nI 1))) (ushr ((a ^^^ (Int32.ofInt (-1))) &&& (a - (nI 1))) (nI 16))) (nI 8))) (ushr (cond (pm_cmp .le (cond (pm_cmp .le ((a ^^^ (Int32.ofInt (-1))) &&& (a - (nI 1))) (nI 65536)) ((a ^^^ (Int32.ofInt (-1))) &&& (a - (nI 1))) (ushr ((a ^^^ (Int32.ofInt (-1))) &&& (a - (nI 1))) (nI 16))) (nI 256)) (cond (pm_cmp .le ((a ^^^ (Int32.ofInt (-1))) &&& (a - (nI 1))) (nI 65536)) ((a ^^^ (Int32.ofInt (-1))) &&& (a - (nI 1))) (ushr ((a ^^^ (Int32.ofInt (-1))) &&& (a - (nI 1))) (nI 16))) (ushr (cond (pm_cmp .le ((a ^^^ (Int32.ofInt (-1))) &&& (a - (nI 1))) (nI 65536)) ((a ^^^ (Int32.ofInt (-1))) &&& (a - (nI 1))) (ushr ((a ^^^ (Int32.ofInt (-1))) &&& (a - (nI 1))) (nI 16))) (nI 8))) (nI 4))) (nI 4)) (cond (pm_cmp .le (cond (pm_cmp .le (cond (pm_cmp .le ((a ^^^ (Int32.ofInt (-1))) &&& (a - (nI 1))) (nI 65536)) ((a ^^^ (Int32.ofInt (-1))) &&& (a - (nI 1))) (ushr ((a ^^^ (Int32.ofInt (-1))) &&& (a - (nI 1))) (nI 16))) (nI 256)) (cond (pm_cmp .le ((a ^^^ (Int32.ofInt (-1))) &&& (a - (nI 1))) (nI 65536)) ((a ^^^ (Int32.ofInt (-1))) &&& (a - (nI 1))) (ushr ((a ^^^ (Int32.ofInt (-1))) &&& (a - (nI 1))) (nI 16))) (ushr (cond (pm_cmp .le ((a ^^^ (Int32.ofInt (-1))) &&& (a - (nI 1))) (nI 65536)) ((a ^^^ (Int32.ofInt (-1))) &&& (a - (nI 1))) (ushr ((a ^^^ (Int32.ofInt (-1))) &&& (a - (nI 1))) (nI 16))) (nI 8))) (nI 16)) (cond (pm_cmp .le (cond (pm_cmp .le ((a ^^^ (Int32.ofInt (-1))) &&& (a - (nI 1))) (nI 65536)) ((a ^^^ (Int32.ofInt (-1))) &&& (a - (nI 1))) (ushr ((a ^^^ (Int32.ofInt (-1))) &&& (a - (nI 1))) (nI 16))) (nI 256)) (cond (pm_cmp .le ((a ^^^ (Int32.ofInt (-1))) &&& (a - (nI 1))) (nI 65536)) ((a ^^^ (Int32.ofInt (-1))) &&& (a - (nI 1))) (ushr ((a ^^^ (Int32.ofInt (-1))) &&& (a - (nI 1))) (nI 16))) (ushr (cond (pm_cmp .le ((a ^^^ (Int32.ofInt (-1))) &&& (a - (nI 1))) (nI 65536)) ((a ^^^ (Int32.ofInt (-1))) &&& (a - (nI 1))) (ushr ((a ^^^ (Int32.ofInt (-1))) &&& (a - (nI 1))) (nI 16))) (nI 8))) (ushr (cond (pm_cmp .le (cond (pm_cmp .le ((a ^^^ (Int32.ofInt (-1))) &&& (a - (nI 1))) (nI 65536)) ((a ^^^ (Int32.ofInt (-1))) &&& (a - (nI 1))) (ushr ((a ^^^ (Int32.ofInt (-1))) &&& (a - (nI 1))) (nI 16))) (nI 256)) (cond (pm_cmp .le ((a ^^^ (Int32.ofInt (-1))) &&& (a - (nI 1))) (nI 65536)) ((a ^^^ (Int32.ofInt (-1))) &&& (a - (nI 1))) (ushr ((a ^^^ (Int32.ofInt (-1))) &&& (a - (nI 1))) (nI 16))) (ushr (cond (pm_cmp .le ((a ^^^ (Int32.ofInt (-1))) &&& (a - (nI 1))) (nI 65536)) ((a ^^^ (Int32.ofInt (-1))) &&& (a - (nI 1))) (ushr ((a ^^^ (Int32.ofInt (-1))) &&& (a - (nI 1))) (nI 16))) (nI 8))) (nI 4))) (ushr (cond (pm_cmp .le (cond (pm_cmp .le (cond (pm_cmp .le ((a ^^^ (Int32.ofInt (-1))) &&& (a - (nI 1))) (nI 65536)) ((a ^^^ (Int32.ofInt (-1))) &&& (a - (nI 1))) (ushr ((a ^^^ (Int32.ofInt (-1))) &&& (a - (nI 1))) (nI 16))) (nI 256)) (cond (pm_cmp .le ((a ^^^ (Int32.ofInt (-1))) &&& (a - (nI 1))) (nI 65536)) ((a ^^^ (Int32.ofInt (-1))) &&& (a - (nI 1))) (ushr ((a ^^^ (Int32.ofInt (-1))) &&& (a - (nI 1))) (nI 16))) (ushr (cond (pm_cmp .le ((a ^^^ (Int32.ofInt (-1))) &&& (a - (nI 1))) (nI 65536)) ((a ^^^ (Int32.ofInt (-1))) &&& (a - (nI 1))) (ushr ((a ^^^ (Int32.ofInt (-1))) &&& (a - (nI 1))) (nI 16))) (nI 8))) (nI 16)) (cond (pm_cmp .le (cond (pm_cmp .le ((a ^^^ (Int32.ofInt (-1))) &&& (a - (nI 1))) (nI 65536)) ((a ^^^ (Int32.ofInt (-1))) &&& (a - (nI 1))) (ushr ((a ^^^ (Int32.ofInt (-1))) &&& (a - (nI 1))) (nI 16))) (nI 256)) (cond (pm_cmp .le ((a ^^^ (Int32.ofInt (-1))) &&& (a - (nI 1))) (nI 65536)) ((a ^^^ (Int32.ofInt (-1))) &&& (a - (nI 1))) (ushr ((a ^^^ (Int32.ofInt (-1))) &&& (a - (nI 1))) (nI 16))) (ushr (cond (pm_cmp .le ((a ^^^ (Int32.ofInt (-1))) &&& (a - (nI 1))) (nI 65536)) ((a ^^^ (Int32.ofInt (-1))) &&& (a - (nI 1))) (ushr ((a ^^^ (Int32.ofInt (-1))) &&& (a - (nI 1))) (nI 16))) (nI 8))) (ushr (cond (pm_cmp .le (cond (pm_cmp .le ((a ^^^ (Int32.ofInt (-1))) &&& (a - (nI 1))) (nI 65536)) ((a ^^^ (Int32.ofInt (-1))) &&& (a - (nI 1))) (ushr ((a ^^^ (Int32.ofInt (-1))) &&& (a - (nI 1))) (nI 16))) (nI 256)) (cond (pm_cmp .le ((a ^^^ (Int32.ofInt (-1))) &&& (a - (nI 1))) (nI 65536)) ((a ^^^ (Int32.ofInt (-1))) &&& (a - (nI 1))) (ushr ((a ^^^ (Int32.ofInt (-1))) &&& (a - (nI 1))) (nI 16))) (ushr (cond (pm_cmp .le ((a ^^^ (Int32.ofInt (-1))) &&& (a - (nI 1))) (nI 65536)) ((a ^^^ (Int32.ofInt (-1))) &&& (a - (nI 1))) (ushr ((a ^^^ (Int32.ofInt (-1))) &&& (a - (nI 1))) (nI 16))) (nI 8))) (nI 4))) (nI 2)))), some (.int (cond (pm_cmp .le (cond (pm_cmp .le (cond (pm_cmp .le (cond (pm_cmp .le ((a ^^^ (Int32.ofInt (-1))) &&& (a - (nI 1))) (nI 65536)) ((a ^^^ (Int32.ofInt (-1))) &&& (a - (nI 1))) (ushr ((a ^^^ (Int32.ofInt (-1))) &&& (a - (nI 1))) (nI 16))) (nI 256)) (cond (pm_cmp .le ((a ^^^ (Int32.ofInt (-1))) &&& (a - (nI 1))) (nI 65536)) ((a ^^^ (Int32.ofInt (-1))) &&& (a - (nI 1))) (ushr ((a ^^^ (Int32.ofInt (-1))) &&& (a - (nI 1))) (nI 16))) (ushr (cond (pm_cmp .le ((a ^^^ (Int32.ofInt (-1))) &&& (a - (nI 1))) (nI 65536)) ((a ^^^ (Int32.ofInt (-1))) &&& (a - (nI 1))) (ushr ((a ^^^ (Int32.ofInt (-1))) &&& (a - (nI 1))) (nI 16))) (nI 8))) (nI 16)) (cond (pm_cmp .le (cond (pm_cmp .le ((a ^^^ (Int32.ofInt (-1))) &&& (a - (nI 1))) (nI 65536)) ((a ^^^ (Int32.ofInt (-1))) &&& (a - (nI 1))) (ushr ((a ^^^ (Int32.ofInt (-1))) &&& (a - (nI 1))) (nI 16))) (nI 256)) (cond (pm_cmp .le ((a ^^^ (Int32.ofInt (-1))) &&& (a - (nI 1))) (nI 65536)) ((a ^^^ (Int32.ofInt (-1))) &&& (a - (nI 1))) (ushr ((a ^^^ (Int32.ofInt (-1))) &&& (a - (nI 1))) (nI 16))) (ushr (cond (pm_cmp .le ((a ^^^ (Int32.ofInt (-1))) &&& (a - (nI 1))) (nI 65536)) ((a ^^^ (Int32.ofInt (-1))) &&& (a - (nI 1))) (ushr ((a ^^^ (Int32.ofInt (-1))) &&& (a - (nI 1))) (nI 16))) (nI 8))) (ushr (cond (pm_cmp .le (cond (pm_cmp .le ((a ^^^ (Int32.ofInt (-1))) &&& (a - (nI 1))) (nI 65536)) ((a ^^^ (Int32.ofInt (-1))) &&& (a - (nI 1))) (ushr ((a ^^^ (Int32.ofInt (-1))) &&& (a - (nI 1))) (nI 16))) (nI 256)) (cond (pm_cmp .le ((a ^^^ (Int32.ofInt (-1))) &&& (a - (nI 1))) (nI 65536)) ((a ^^^ (Int32.ofInt (-1))) &&& (a - (nI 1))) (ushr ((a ^^^ (Int32.ofInt (-1))) &&& (a - (nI 1))) (nI 16))) (ushr (cond (pm_cmp .le ((a ^^^ (Int32.ofInt (-1))) &&& (a - (nI 1))) (nI 65536)) ((a ^^^ (Int32.ofInt (-1))) &&& (a - (nI 1))) (ushr ((a ^^^ (Int32.ofInt (-1))) &&& (a - (nI 1))) (nI 16))) (nI 8))) (nI 4))) (nI 4)) (cond (pm_cmp .le (cond (pm_cmp .le (cond (pm_cmp .le ((a ^^^ (Int32.ofInt (-1))) &&& (a - (nI 1))) (nI 65536)) ((a ^^^ (Int32.ofInt (-1))) &&& (a - (nI 1))) (ushr ((a ^^^ (Int32.ofInt (-1))) &&& (a - (nI 1))) (nI 16))) (nI 256)) (cond (pm_cmp .le ((a ^^^ (Int32.ofInt (-1))) &&& (a - (nI 1))) (nI 65536)) ((a ^^^ (Int32.ofInt (-1))) &&& (a - (nI 1))) (ushr ((a ^^^ (Int32.ofInt (-1))) &&& (a - (nI 1))) (nI 16))) (ushr (cond (pm_cmp .le ((a ^^^ (Int32.ofInt (-1))) &&& (a - (nI 1))) (nI 65536)) ((a ^^^ (Int32.ofInt (-1))) &&& (a - (nI 1))) (ushr ((a ^^^ (Int32.ofInt (-1))) &&& (a - (nI 1))) (nI 16))) (nI 8))) (nI 16)) (cond (pm_cmp .le (cond (pm_cmp .le ((a ^^^ (Int32.ofInt (-1))) &&& (a - (nI 1))) (nI 65536)) ((a ^^^ (Int32.ofInt (-1))) &&& (a - (nI 1))) (ushr ((a ^^^ (Int32.ofInt (-1))) &&& (a - (nI 1))) (nI 16))) (nI 256)) (cond (pm_cmp .le ((a ^^^ (Int32.ofInt (-1))) &&& (a - (nI 1))) (nI 65536)) (nI 1) (nI 17)) ((cond (pm_cmp .le ((a ^^^ (Int32.ofInt (-1))) &&& (a - (nI 1))) (nI 65536)) (nI 1) (nI 17)) + Int32.ofInt 8)) ((cond (pm_cmp .le (cond (pm_cmp .le ((a ^^^ (Int32.ofInt (-1))) &&& (a - (nI 1))) (nI 65536)) ((a ^^^ (Int32.ofInt (-1))) &&& (a - (nI 1))) (ushr ((a ^^^ (Int32.ofInt (-1))) &&& (a - (nI 1))) (nI 16))) (nI 256)) (cond (pm_cmp .le ((a ^^^ (Int32.ofInt (-1))) &&& (a - (nI 1))) (nI 65536)) (nI 1) (nI 17)) ((cond (pm_cmp .le ((a ^^^ (Int32.ofInt (-1))) &&& (a - (nI 1))) (nI 65536)) (nI 1) (nI 17)) + Int32.ofInt 8)) + Int32.ofInt 4)) ((cond (pm_cmp .le (cond (pm_cmp .le (cond (pm_cmp .le ((a ^^^ (Int32.ofInt (-1))) &&& (a - (nI 1))) (nI 65536)) ((a ^^^ (Int32.ofInt (-1))) &&& (a - (nI 1))) (ushr ((a ^^^ (Int32.ofInt (-1))) &&& (a - (nI 1))) (nI 16))) (nI 256)) (cond (pm_cmp .le ((a ^^^ (Int32.ofInt (-1))) &&& (a - (nI 1))) (nI 65536)) ((a ^^^ (Int32.ofInt (-1))) &&& (a - (nI 1))) (ushr ((a ^^^ (Int32.ofInt (-1))) &&& (a - (nI 1))) (nI 16))) (ushr (cond (pm_cmp .le ((a ^^^ (Int32.ofInt (-1))) &&& (a - (nI 1))) (nI 65536)) ((a ^^^ (Int32.ofInt (-1))) &&& (a - (nI 1))) (ushr ((a ^^^ (Int32.ofInt (-1))) &&& (a - (nI 1))) (nI 16))) (nI 8))) (nI 16)) (cond (pm_cmp .le (cond (pm_cmp .le ((a ^^^ (Int32.ofInt (-1))) &&& (a - (nI 1))) (nI 65536)) ((a ^^^ (Int32.ofInt (-1))) &&& (a - (nI 1))) (ushr ((a ^^^ (Int32.ofInt (-1))) &&& (a - (nI 1))) (nI 16))) (nI 256)) (cond (pm_cmp .le ((a ^^^ (Int32.ofInt (-1))) &&& (a - (nI 1))) (nI 65536)) (nI 1) (nI 17)) ((cond (pm_cmp .le ((a ^^^ (Int32.ofInt (-1))) &&& (a - (nI 1))) (nI 65536)) (nI 1) (nI 17)) + Int32.ofInt 8)) ((cond (pm_cmp .le (cond (pm_cmp .le ((a ^^^ (Int32.ofInt (-1))) &&& (a - (nI 1))) (nI 65536)) ((a ^^^ (Int32.ofInt (-1))) &&& (a - (nI 1))) (ushr ((a ^^^ (Int32.ofInt (-1))) &&& (a - (nI 1))) (nI 16))) (nI 256)) (cond (pm_cmp .le ((a ^^^ (Int32.ofInt (-1))) &&& (a - (nI 1))) (nI 65536)) (nI 1) (nI 17)) ((cond (pm_cmp .le ((a ^^^ (Int32.ofInt (-1))) &&& (a - (nI 1))) (nI 65536)) (nI 1) (nI 17)) + Int32.ofInt 8)) + Int32.ofInt 4)) + Int32.ofInt 2)))], [], h, 198, sl) from by cases (pm_cmp .le (cond (pm_cmp .le (cond (pm_cmp .le (cond (pm_cmp .le ((a ^^^ (Int32.ofInt (-1))) &&& (a - (nI 1))) (nI 65536)) ((a ^^^ (Int32.ofInt (-1))) &&& (a - (nI 1))) (ushr ((a ^^^ (Int32.ofInt (-1))) &&& (a - (nI 1))) (nI 16))) (nI 256)) (cond (pm_cmp .le ((a ^^^ (Int32.ofInt (-1))) &&& (a - (nI 1))) (nI 65536)) ((a ^^^ (Int32.ofInt (-1))) &&& (a - (nI 1))) (ushr ((a ^^^ (Int32.ofInt (-1))) &&& (a - (nI 1))) (nI 16))) (ushr (cond (pm_cmp .le ((a ^^^ (Int32.ofInt (-1))) &&& (a - (nI 1))) (nI 65536)) ((a ^^^ (Int32.ofInt (-1))) &&& (a - (nI 1))) (ushr ((a ^^^ (Int32.ofInt (-1))) &&& (a - (nI 1))) (nI 16))) (nI 8))) (nI 16)) (cond (pm_cmp .le (cond (pm_cmp .le ((a ^^^ (Int32.ofInt (-1))) &&& (a - (nI 1))) (nI 65536)) ((a ^^^ (Int32.ofInt (-1))) &&& (a - (nI 1))) (ushr ((a ^^^ (Int32.ofInt (-1))) &&& (a - (nI 1))) (nI 16))) (nI 256)) (cond (pm_cmp .le ((a ^^^ (Int32.ofInt (-1))) &&& (a - (nI 1))) (nI 65536)) ((a ^^^ (Int32.ofInt (-1))) &&& (a - (nI 1))) (ushr ((a ^^^ (Int32.ofInt (-1))) &&& (a - (nI 1))) (nI 16))) (ushr (cond (pm_cmp .le ((a ^^^ (Int32.ofInt (-1))) &&& (a - (nI 1))) (nI 65536)) ((a ^^^ (Int32.ofInt (-1))) &&& (a - (nI 1))) (ushr ((a ^^^ (Int32.ofInt (-1))) &&& (a - (nI 1))) (nI 16))) (nI 8))) (ushr (cond (pm_cmp .le (cond (pm_cmp .le ((a ^^^ (Int32.ofInt (-1))) &&& (a - (nI 1))) (nI 65536)) ((a ^^^ (Int32.ofInt (-1))) &&& (a - (nI 1))) (ushr ((a ^^^ (Int32.ofInt (-1))) &&& (a - (nI 1))) (nI 16))) (nI 256)) (cond (pm_cmp .le ((a ^^^ (Int32.ofInt (-1))) &&& (a - (nI 1))) (nI 65536)) ((a ^^^ (Int32.ofInt (-1))) &&& (a - (nI 1))) (ushr ((a ^^^ (Int32.ofInt (-1))) &&& (a - (nI 1))) (nI 16))) (ushr (cond (pm_cmp .le ((a ^^^ (Int32.ofInt (-1))) &&& (a - (nI 1))) (nI 65536)) ((a ^^^ (Int32.ofInt (-1))) &&& (a - (nI 1))) (ushr ((a ^^^ (Int32.ofInt (-1))) &&& (a - (nI 1))) (nI 16))) (nI 8))) (nI 4))) (nI 4)) <;> rfl] at hh
    obtain ⟨n, hh⟩ := rn_i rfl rfl rfl rfl hh
    obtain ⟨n, hh⟩ := rn_i rfl rfl rfl rfl hh
    obtain ⟨n, hh⟩ := rn_i rfl rfl rfl rfl hh
    obtain ⟨n, hh⟩ := rn_i rfl rfl rfl rfl hh
    obtain ⟨n, hh⟩ := rn_i rfl rfl rfl rfl hh
    have hh : pm_run PT n fr lo 269 (79, [some (.int (cond (pm_cmp .le (cond (pm_cmp .le (cond (pm_cmp .le (cond (pm_cmp .le ((a ^^^ (Int32.ofInt (-1))) &&& (a - (nI 1))) (nI 65536)) ((a ^^^ (Int32.ofInt (-1))) &&& (a - (nI 1))) (ushr ((a ^^^ (Int32.ofInt (-1))) &&& (a - (nI 1))) (nI 16))) (nI 256)) (cond (pm_cmp .le ((a ^^^ (Int32.ofInt (-1))) &&& (a - (nI 1))) (nI 65536)) ((a ^^^ (Int32.ofInt (-1))) &&& (a - (nI 1))) (ushr ((a ^^^ (Int32.ofInt (-1))) &&& (a - (nI 1))) (nI 16))) (ushr (cond (pm_cmp .le ((a ^^^ (Int32.ofInt (-1))) &&& (a - (nI 1))) (nI 65536)) ((a ^^^ (Int32.ofInt (-1))) &&& (a - (nI 1))) (ushr ((a ^^^ (Int32.ofInt (-1))) &&& (a - (nI 1))) (nI 16))) (nI 8))) (nI 16)) (cond (pm_cmp .le (cond (pm_cmp .le ((a ^^^ (Int32.ofInt (-1))) &&& (a - (nI 1))) (nI 65536)) ((a ^^^ (Int32.ofInt (-1))) &&& (a - (nI 1))) (ushr ((a ^^^ (Int32.ofInt (-1))) &&& (a - (nI 1))) (nI 16))) (nI 256)) (cond (pm_cmp .le ((a ^^^ (Int32.ofInt (-1))) &&& (a - (nI 1))) (nI 65536)) ((a ^^^ (Int32.ofInt (-1))) &&& (a - (nI 1))) (ushr ((a ^^^ (Int32.ofInt (-1))) &&& (a - (nI 1))) (nI 16))) (ushr (cond (pm_cmp .le ((a ^^^ (Int32.ofInt (-1))) &&& (a - (nI 1))) (nI 65536)) ((a ^^^ (Int32.ofInt (-1))) &&& (a - (nI 1))) (ushr ((a ^^^ (Int32.ofInt (-1))) &&& (a - (nI 1))) (nI 16))) (nI 8))) (ushr (cond (pm_cmp .le (cond (pm_cmp .le ((a ^^^ (Int32.ofInt (-1))) &&& (a - (nI 1))) (nI 65536)) ((a ^^^ (Int32.ofInt (-1))) &&& (a - (nI 1))) (ushr ((a ^^^ (Int32.ofInt (-1))) &&& (a - (nI 1))) (nI 16))) (nI 256)) (cond (pm_cmp .le ((a ^^^ (Int32.ofInt (-1))) &&& (a - (nI 1))) (nI 65536)) ((a ^^^ (Int32.ofInt (-1))) &&& (a - (nI 1))) (ushr ((a ^^^ (Int32.ofInt (-1))) &&& (a - (nI 1))) (nI 16))) (ushr (cond (pm_cmp .le ((a ^^^ (Int32.ofInt (-1))) &&& (a - (nI 1))) (nI 65536)) ((a ^^^ (Int32.ofInt (-1))) &&& (a - (nI 1))) (ushr ((a ^^^ (Int32.ofInt (-1))) &&& (a - (nI 1))) (nI 16))) (nI 8))) (nI 4))) (nI 4)) (cond (pm_cmp .le (cond (pm_cmp .le (cond (pm_cmp .le ((a ^^^ (Int32.ofInt (-1))) &&& (a - (nI 1))) (nI 65536)) ((a ^^^ (Int32.ofInt (-1))) &&& (a - (nI 1))) (ushr ((a ^^^ (Int32.ofInt (-1))) &&& (a - (nI 1))) (nI 16))) (nI 256)) (cond (pm_cmp .le ((a ^^^ (Int32.ofInt (-1))) &&& (a - (nI 1))) (nI 65536)) ((a ^^^ (Int32.ofInt (-1))) &&& (a - (nI 1))) (ushr ((a ^^^ (Int32.ofInt (-1))) &&& (a - (nI 1))) (nI 16))) (ushr (cond (pm_cmp .le ((a ^^^ (Int32.ofInt (-1))) &&& (a - (nI 1))) (nI 65536)) ((a ^^^ (Int32.ofInt (-1))) &&& (a - (nI 1))) (ushr ((a ^^^ (Int32.ofInt (-1))) &&& (a - (nI 1))) (nI 16))) (nI 8))) (nI 16)) (cond (pm_cmp .le (cond (pm_cmp .le ((a ^^^ (Int32.ofInt (-1))) &&& (a - (nI 1))) (nI 65536)) ((a ^^^ (Int32.ofInt (-1))) &&& (a - (nI 1))) (ushr ((a ^^^ (Int32.ofInt (-1))) &&& (a - (nI 1))) (nI 16))) (nI 256)) (cond (pm_cmp .le ((a ^^^ (Int32.ofInt (-1))) &&& (a - (nI 1))) (nI 65536)) ((a ^^^ (Int32.ofInt (-1))) &&& (a - (nI 1))) (ushr ((a ^^^ (Int32.ofInt (-1))) &&& (a - (nI 1))) (nI 16))) (ushr (cond (pm_cmp .le ((a ^^^ (Int32.ofInt (-1))) &&& (a - (nI 1))) (nI 65536)) ((a ^^^ (Int32.ofInt (-1))) &&& (a - (nI 1))) (ushr ((a ^^^ (Int32.ofInt (-1))) &&& (a - (nI 1))) (nI 16))) (nI 8))) (ushr (cond (pm_cmp .le (cond (pm_cmp .le ((a ^^^ (Int32.ofInt (-1))) &&& (a - (nI 1))) (nI 65536)) ((a ^^^ (Int32.ofInt (-1))) &&& (a - (nI 1))) (ushr ((a ^^^ (Int32.ofInt (-1))) &&& (a - (nI 1))) (nI 16))) (nI 256)) (cond (pm_cmp .le ((a ^^^ (Int32.ofInt (-1))) &&& (a - (nI 1))) (nI 65536)) ((a ^^^ (Int32.ofInt (-1))) &&& (a - (nI 1))) (ushr ((a ^^^ (Int32.ofInt (-1))) &&& (a - (nI 1))) (nI 16))) (ushr (cond (pm_cmp .le ((a ^^^ (Int32.ofInt (-1))) &&& (a - (nI 1))) (nI 65536)) ((a ^^^ (Int32.ofInt (-1))) &&& (a - (nI 1))) (ushr ((a ^^^ (Int32.ofInt (-1))) &&& (a - (nI 1))) (nI 16))) (nI 8))) (nI 4))) (ushr (cond (pm_cmp .le (cond (pm_cmp .le (cond (pm_cmp .le ((a ^^^ (Int32.ofInt (-1))) &&& (a - (nI 1))) (nI 65536)) ((a ^^^ (Int32.ofInt (-1))) &&& (a - (nI 1))) (ushr ((a ^^^ (Int32.ofInt (-1))) &&& (a - (nI 1))) (nI 16))) (nI 256)) (cond (pm_cmp .le ((a ^^^ (Int32.ofInt (-1))) &&& (a - (nI 1))) (nI 65536)) ((a ^^^ (Int32.ofInt (-1))) &&& (a - (nI 1))) (ushr ((a ^^^ (Int32.ofInt (-1))) &&& (a - (nI 1))) (nI 16))) (ushr (cond (pm_cmp .le ((a ^^^ (Int32.ofInt (-1))) &&& (a - (nI 1))) (nI 65536)) ((a ^^^ (Int32.ofInt (-1))) &&& (a - (nI 1))) (ushr ((a ^^^ (Int32.ofInt (-1))) &&& (a - (nI 1))) (nI 16))) (nI 8))) (nI 16)) (cond (pm_cmp .le (cond (pm_cmp .le ((a ^^^ (Int32.ofInt (-1))) &&& (a - (nI 1))) (nI 65536)) ((a ^^^ (Int32.ofInt (-1))) &&& (a - (nI 1))) (ushr ((a ^^^ (Int32.ofInt (-1))) &&& (a - (nI 1))) (nI 16))) (nI 256)) (cond (pm_cmp .le ((a ^^^ (Int32.ofInt (-1))) &&& (a - (nI 1))) (nI 65536)) ((a ^^^ (Int32.ofInt (-1))) &&& (a - (nI 1))) (ushr ((a ^^^ (Int32.ofInt (-1))) &&& (a - (nI 1))) (nI 16))) (ushr (cond (pm_cmp .le ((a ^^^ (Int32.ofInt (-1))) &&& (a - (nI 1))) (nI 65536)) ((a ^^^ (Int32.ofInt (-1))) &&& (a - (nI 1))) (ushr ((a ^^^ (Int32.ofInt (-1))) &&& (a - (nI 1))) (nI 16))) (nI 8))) (ushr (cond (pm_cmp .le (cond (pm_cmp .le ((a ^^^ (Int32.ofInt (-1))) &&& (a - (nI 1))) (nI 65536)) ((a ^^^ (Int32.ofInt (-1))) &&& (a - (nI 1))) (ushr ((a ^^^ (Int32.ofInt (-1))) &&& (a - (nI 1))) (nI 16))) (nI 256)) (cond (pm_cmp .le ((a ^^^ (Int32.ofInt (-1))) &&& (a - (nI 1))) (nI 65536)) ((a ^^^ (Int32.ofInt (-1))) &&& (a - (nI 1))) (ushr ((a ^^^ (Int32.ofInt (-1))) &&& (a - (nI 1))) (nI 16))) (ushr (cond (pm_cmp .le ((a ^^^ (Int32.ofInt (-1))) &&& (a - (nI 1))) (nI 65536)) ((a ^^^ (Int32.ofInt (-1))) &&& (a - (nI 1))) (ushr ((a ^^^ (Int32.ofInt (-1))) &&& (a - (nI 1))) (nI 16))) (nI 8))) (nI 4))) (nI 2)))), some (.int (cond (pm_cmp .le (cond (pm_cmp .le (cond (pm_cmp .le (cond (pm_cmp .le ((a ^^^ (Int32.ofInt (-1))) &&& (a - (nI 1))) (nI 65536)) ((a ^^^ (Int32.ofInt (-1))) &&& (a - (nI 1))) (ushr ((a ^^^ (Int32.ofInt (-1))) &&& (a - (nI 1))) (nI 16))) (nI 256)) (cond (pm_cmp .le ((a ^^^ (Int32.ofInt (-1))) &&& (a - (nI 1))) (nI 65536)) ((a ^^^ (Int32.ofInt (-1))) &&& (a - (nI 1))) (ushr ((a ^^^ (Int32.ofInt (-1))) &&& (a - (nI 1))) (nI 16))) (ushr (cond (pm_cmp .le ((a ^^^ (Int32.ofInt (-1))) &&& (a - (nI 1))) (nI 65536)) ((a ^^^ (Int32.ofInt (-1))) &&& (a - (nI 1))) (ushr ((a ^^^ (Int32.ofInt (-1))) &&& (a - (nI 1))) (nI 16))) (nI 8))) (nI 16)) (cond (pm_cmp .le (cond (pm_cmp .le ((a ^^^ (Int32.ofInt (-1))) &&& (a - (nI 1))) (nI 65536)) ((a ^^^ (Int32.ofInt (-1))) &&& (a - (nI 1))) (ushr ((a ^^^ (Int32.ofInt (-1))) &&& (a - (nI 1))) (nI 16))) (nI 256)) (cond (pm_cmp .le ((a ^^^ (Int32.ofInt (-1))) &&& (a - (nI 1))) (nI 65536)) ((a ^^^ (Int32.ofInt (-1))) &&& (a - (nI 1))) (ushr ((a ^^^ (Int32.ofInt (-1))) &&& (a - (nI 1))) (nI 16))) (ushr (cond (pm_cmp .le ((a ^^^ (Int32.ofInt (-1))) &&& (a - (nI 1))) (nI 65536)) ((a ^^^ (Int32.ofInt (-1))) &&& (a - (nI 1))) (ushr ((a ^^^ (Int32.ofInt (-1))) &&& (a - (nI 1))) (nI 16))) (nI 8))) (ushr (cond (pm_cmp .le (cond (pm_cmp .le ((a ^^^ (Int32.ofInt (-1))) &&& (a - (nI 1))) (nI 65536)) ((a ^^^ (Int32.ofInt (-1))) &&& (a - (nI 1))) (ushr ((a ^^^ (Int32.ofInt (-1))) &&& (a - (nI 1))) (nI 16))) (nI 256)) (cond (pm_cmp .le ((a ^^^ (Int32.ofInt (-1))) &&& (a - (nI 1))) (nI 65536)) ((a ^^^ (Int32.ofInt (-1))) &&& (a - (nI 1))) (ushr ((a ^^^ (Int32.ofInt (-1))) &&& (a - (nI 1))) (nI 16))) (ushr (cond (pm_cmp .le ((a ^^^ (Int32.ofInt (-1))) &&& (a - (nI 1))) (nI 65536)) ((a ^^^ (Int32.ofInt (-1))) &&& (a - (nI 1))) (ushr ((a ^^^ (Int32.ofInt (-1))) &&& (a - (nI 1))) (nI 16))) (nI 8))) (nI 4))) (nI 4)) (cond (pm_cmp .le (cond (pm_cmp .le (cond (pm_cmp .le ((a ^^^ (Int32.ofInt (-1))) &&& (a - (nI 1))) (nI 65536)) ((a ^^^ (Int32.ofInt (-1))) &&& (a - (nI 1))) (ushr ((a ^^^ (Int32.ofInt (-1))) &&& (a - (nI 1))) (nI 16))) (nI 256)) (cond (pm_cmp .le ((a ^^^ (Int32.ofInt (-1))) &&& (a - (nI 1))) (nI 65536)) ((a ^^^ (Int32.ofInt (-1))) &&& (a - (nI 1))) (ushr ((a ^^^ (Int32.ofInt (-1))) &&& (a - (nI 1))) (nI 16))) (ushr (cond (pm_cmp .le ((a ^^^ (Int32.ofInt (-1))) &&& (a - (nI 1))) (nI 65536)) ((a ^^^ (Int32.ofInt (-1))) &&& (a - (nI 1))) (ushr ((a ^^^ (Int32.ofInt (-1))) &&& (a - (nI 1))) (nI 16))) (nI 8))) (nI 16)) (cond (pm_cmp .le (cond (pm_cmp .le ((a ^^^ (Int32.ofInt (-1))) &&& (a - (nI 1))) (nI 65536)) ((a ^^^ (Int32.ofInt (-1))) &&& (a - (nI 1))) (ushr ((a ^^^ (Int32.ofInt (-1))) &&& (a - (nI 1))) (nI 16))) (nI 256)) (cond (pm_cmp .le ((a ^^^ (Int32.ofInt (-1))) &&& (a - (nI 1))) (nI 65536)) (nI 1) (nI 17)) ((cond (pm_cmp .le ((a ^^^ (Int32.ofInt (-1))) &&& (a - (nI 1))) (nI 65536)) (nI 1) (nI 17)) + Int32.ofInt 8)) ((cond (pm_cmp .le (cond (pm_cmp .le ((a ^^^ (Int32.ofInt (-1))) &&& (a - (nI 1))) (nI 65536)) ((a ^^^ (Int32.ofInt (-1))) &&& (a - (nI 1))) (ushr ((a ^^^ (Int32.ofInt (-1))) &&& (a - (nI 1))) (nI 16))) (nI 256)) (cond (pm_cmp .le ((a ^^^ (Int32.ofInt (-1))) &&& (a - (nI 1))) (nI 65536)) (nI 1) (nI 17)) ((cond (pm_cmp .le ((a ^^^ (Int32.ofInt (-1))) &&& (a - (nI 1))) (nI 65536)) (nI 1) (nI 17)) + Int32.ofInt 8)) + Int32.ofInt 4)) ((cond (pm_cmp .le (cond (pm_cmp .le (cond (pm_cmp .le ((a ^^^ (Int32.ofInt (-1))) &&& (a - (nI 1))) (nI 65536)) ((a ^^^ (Int32.ofInt (-1))) &&& (a - (nI 1))) (ushr ((a ^^^ (Int32.ofInt (-1))) &&& (a - (nI 1))) (nI 16))) (nI 256)) (cond (pm_cmp .le ((a ^^^ (Int32.ofInt (-1))) &&& (a - (nI 1))) (nI 65536)) ((a ^^^ (Int32.ofInt (-1))) &&& (a - (nI 1))) (ushr ((a ^^^ (Int32.ofInt (-1))) &&& (a - (nI 1))) (nI 16))) (ushr (cond (pm_cmp .le ((a ^^^ (Int32.ofInt (-1))) &&& (a - (nI 1))) (nI 65536)) ((a ^^^ (Int32.ofInt (-1))) &&& (a - (nI 1))) (ushr ((a ^^^ (Int32.ofInt (-1))) &&& (a - (nI 1))) (nI 16))) (nI 8))) (nI 16)) (cond (pm_cmp .le (cond (pm_cmp .le ((a ^^^ (Int32.ofInt (-1))) &&& (a - (nI 1))) (nI 65536)) ((a ^^^ (Int32.ofInt (-1))) &&& (a - (nI 1))) (ushr ((a ^^^ (Int32.ofInt (-1))) &&& (a - (nI 1))) (nI 16))) (nI 256)) (cond (pm_cmp .le ((a ^^^ (Int32.ofInt (-1))) &&& (a - (nI 1))) (nI 65536)) (nI 1) (nI 17)) ((cond (pm_cmp .le ((a ^^^ (Int32.ofInt (-1))) &&& (a - (nI 1))) (nI 65536)) (nI 1) (nI 17)) + Int32.ofInt 8)) ((cond (pm_cmp .le (cond (pm_cmp .le ((a ^^^ (Int32.ofInt (-1))) &&& (a - (nI 1))) (nI 65536)) ((a ^^^ (Int32.ofInt (-1))) &&& (a - (nI 1))) (ushr ((a ^^^ (Int32.ofInt (-1))) &&& (a - (nI 1))) (nI 16))) (nI 256)) (cond (pm_cmp .le ((a ^^^ (Int32.ofInt (-1))) &&& (a - (nI 1))) (nI 65536)) (nI 1) (nI 17)) ((cond (pm_cmp .le ((a ^^^ (Int32.ofInt (-1))) &&& (a - (nI 1))) (nI 65536)) (nI 1) (nI 17)) + Int32.ofInt 8)) + Int32.ofInt 4)) + Int32.ofInt 2)))], [.int ((cond (pm_cmp .le (cond (pm_cmp .le (cond (pm_cmp .le (cond (pm_cmp .le ((a ^^^ (Int32.ofInt (-1))) &&& (a - (nI 1))) (nI 65536)) ((a ^^^ (Int32.ofInt (-1))) &&& (a - (nI 1))) (ushr ((a ^^^ (Int32.ofInt (-1))) &&& (a - (nI 1))) (nI 16))) (nI 256)) (cond (pm_cmp .le ((a ^^^ (Int32.ofInt (-1))) &&& (a - (nI 1))) (nI 65536)) ((a ^^^ (Int32.ofInt (-1))) &&& (a - (nI 1))) (ushr ((a ^^^ (Int32.ofInt (-1))) &&& (a - (nI 1))) (nI 16))) (ushr (cond (pm_cmp .le ((a ^^^ (Int32.ofInt (-1))) &&& (a - (nI 1))) (nI 65536)) ((a ^^^ (Int32.ofInt (-1))) &&& (a - (nI 1))) (ushr ((a ^^^ (Int32.ofInt (-1))) &&& (a - (nI 1))) (nI 16))) (nI 8))) (nI 16)) (cond (pm_cmp .le (cond (pm_cmp .le ((a ^^^ (Int32.ofInt (-1))) &&& (a - (nI 1))) (nI 65536)) ((a ^^^ (Int32.ofInt (-1))) &&& (a - (nI 1))) (ushr ((a ^^^ (Int32.ofInt (-1))) &&& (a - (nI 1))) (nI 16))) (nI 256)) (cond (pm_cmp .le ((a ^^^ (Int32.ofInt (-1))) &&& (a - (nI 1))) (nI 65536)) ((a ^^^ (Int32.ofInt (-1))) &&& (a - (nI 1))) (ushr ((a ^^^ (Int32.ofInt (-1))) &&& (a - (nI 1))) (nI 16))) (ushr (cond (pm_cmp .le ((a ^^^ (Int32.ofInt (-1))) &&& (a - (nI 1))) (nI 65536)) ((a ^^^ (Int32.ofInt (-1))) &&& (a - (nI 1))) (ushr ((a ^^^ (Int32.ofInt (-1))) &&& (a - (nI 1))) (nI 16))) (nI 8))) (ushr (cond (pm_cmp .le (cond (pm_cmp .le ((a ^^^ (Int32.ofInt (-1))) &&& (a - (nI 1))) (nI 65536)) ((a ^^^ (Int32.ofInt (-1))) &&& (a - (nI 1))) (ushr ((a ^^^ (Int32.ofInt (-1))) &&& (a - (nI 1))) (nI 16))) (nI 256)) (cond (pm_cmp .le ((a ^^^ (Int32.ofInt (-1))) &&& (a - (nI 1))) (nI 65536)) ((a ^^^ (Int32.ofInt (-1))) &&& (a - (nI 1))) (ushr ((a ^^^ (Int32.ofInt (-1))) &&& (a - (nI 1))) (nI 16))) (ushr (cond (pm_cmp .le ((a ^^^ (Int32.ofInt (-1))) &&& (a - (nI 1))) (nI 65536)) ((a ^^^ (Int32.ofInt (-1))) &&& (a - (nI 1))) (ushr ((a ^^^ (Int32.ofInt (-1))) &&& (a - (nI 1))) (nI 16))) (nI 8))) (nI 4))) (nI 4)) (cond (pm_cmp .le (cond (pm_cmp .le (cond (pm_cmp .le ((a ^^^ (Int32.ofInt (-1))) &&& (a - (nI 1))) (nI 65536)) ((a ^^^ (Int32.ofInt (-1))) &&& (a - (nI 1))) (ushr ((a ^^^ (Int32.ofInt (-1))) &&& (a - (nI 1))) (nI 16))) (nI 256)) (cond (pm_cmp .le ((a ^^^ (Int32.ofInt (-1))) &&& (a - (nI 1))) (nI 65536)) ((a ^^^ (Int32.ofInt (-1))) &&& (a - (nI 1))) (ushr ((a ^^^ (Int32.ofInt (-1))) &&& (a - (nI 1))) (nI 16))) (ushr (cond (pm_cmp .le ((a ^^^ (Int32.ofInt (-1))) &&& (a - (nI 1))) (nI 65536)) ((a ^^^ (Int32.ofInt (-1))) &&& (a - (nI 1))) (ushr ((a ^^^ (Int32.ofInt (-1))) &&& (a - (nI 1))) (nI 16))) (nI 8))) (nI 16)) (cond (pm_cmp .le (cond (pm_cmp .le ((a ^^^ (Int32.ofInt (-1))) &&& (a - (nI 1))) (nI 65536)) ((a ^^^ (Int32.ofInt (-1))) &&& (a - (nI 1))) (ushr ((a ^^^ (Int32.ofInt (-1))) &&& (a - (nI 1))) (nI 16))) (nI 256)) (cond (pm_cmp .le ((a ^^^ (Int32.ofInt (-1))) &&& (a - (nI 1))) (nI 65536)) (nI 1) (nI 17)) ((cond (pm_cmp .le ((a ^^^ (Int32.ofInt (-1))) &&& (a - (nI 1))) (nI 65536)) (nI 1) (nI 17)) + Int32.ofInt 8)) ((cond (pm_cmp .le (cond (pm_cmp .le ((a ^^^ (Int32.ofInt (-1))) &&& (a - (nI 1))) (nI 65536)) ((a ^^^ (Int32.ofInt (-1))) &&& (a - (nI 1))) (ushr ((a ^^^ (Int32.ofInt (-1))) &&& (a - (nI 1))) (nI 16))) (nI 256)) (cond (pm_cmp .le ((a ^^^ (Int32.ofInt (-1))) &&& (a - (nI 1))) (nI 65536)) (nI 1) (nI 17)) ((cond (pm_cmp .le ((a ^^^ (Int32.ofInt (-1))) &&& (a - (nI 1))) (nI 65536)) (nI 1) (nI 17)) + Int32.ofInt 8)) + Int32.ofInt 4)) ((cond (pm_cmp .le (cond (pm_cmp .le (cond (pm_cmp .le ((a ^^^ (Int32.ofInt (-1))) &&& (a - (nI 1))) (nI 65536)) ((a ^^^ (Int32.ofInt (-1))) &&& (a - (nI 1))) (ushr ((a ^^^ (Int32.ofInt (-1))) &&& (a - (nI 1))) (nI 16))) (nI 256)) (cond (pm_cmp .le ((a ^^^ (Int32.ofInt (-1))) &&& (a - (nI 1))) (nI 65536)) ((a ^^^ (Int32.ofInt (-1))) &&& (a - (nI 1))) (ushr ((a ^^^ (Int32.ofInt (-1))) &&& (a - (nI 1))) (nI 16))) (ushr (cond (pm_cmp .le ((a ^^^ (Int32.ofInt (-1))) &&& (a - (nI 1))) (nI 65536)) ((a ^^^ (Int32.ofInt (-1))) &&& (a - (nI 1))) (ushr ((a ^^^ (Int32.ofInt (-1))) &&& (a - (nI 1))) (nI 16))) (nI 8))) (nI 16)) (cond (pm_cmp .le (cond (pm_cmp .le ((a ^^^ (Int32.ofInt (-1))) &&& (a - (nI 1))) (nI 65536)) ((a ^^^ (Int32.ofInt (-1))) &&& (a - (nI 1))) (ushr ((a ^^^ (Int32.ofInt (-1))) &&& (a - (nI 1))) (nI 16))) (nI 256)) (cond (pm_cmp .le ((a ^^^ (Int32.ofInt (-1))) &&& (a - (nI 1))) (nI 65536)) (nI 1) (nI 17)) ((cond (pm_cmp .le ((a ^^^ (Int32.ofInt (-1))) &&& (a - (nI 1))) (nI 65536)) (nI 1) (nI 17)) + Int32.ofInt 8)) ((cond (pm_cmp .le (cond (pm_cmp .le ((a ^^^ (Int32.ofInt (-1))) &&& (a - (nI 1))) (nI 65536)) ((a ^^^ (Int32.ofInt (-1))) &&& (a - (nI 1))) (ushr ((a ^^^ (Int32.ofInt (-1))) &&& (a - (nI 1))) (nI 16))) (nI 256)) (cond (pm_cmp .le ((a ^^^ (Int32.ofInt (-1))) &&& (a - (nI 1))) (nI 65536)) (nI 1) (nI 17)) ((cond (pm_cmp .le ((a ^^^ (Int32.ofInt (-1))) &&& (a - (nI 1))) (nI 65536)) (nI 1) (nI 17)) + Int32.ofInt 8)) + Int32.ofInt 4)) + Int32.ofInt 2)) + (ushr (cond (pm_cmp .le (cond (pm_cmp .le (cond (pm_cmp .le (cond (pm_cmp .le ((a ^^^ (Int32.ofInt (-1))) &&& (a - (nI 1))) (nI 65536)) ((a ^^^ (Int32.ofInt (-1))) &&& (a - (nI 1))) (ushr ((a ^^^ (Int32.ofInt (-1))) &&& (a - (nI 1))) (nI 16))) (nI 256)) (cond (pm_cmp .le ((a ^^^ (Int32.ofInt (-1))) &&& (a - (nI 1))) (nI 65536)) ((a ^^^ (Int32.ofInt (-1))) &&& (a - (nI 1))) (ushr ((a ^^^ (Int32.ofInt (-1))) &&& (a - (nI 1))) (nI 16))) (ushr (cond (pm_cmp .le ((a ^^^ (Int32.ofInt (-1))) &&& (a - (nI 1))) (nI 65536)) ((a ^^^ (Int32.ofInt (-1))) &&& (a - (nI 1))) (ushr ((a ^^^ (Int32.ofInt (-1))) &&& (a - (nI 1))) (nI 16))) (nI 8))) (nI 16)) (cond (pm_cmp .le (cond (pm_cmp .le ((a ^^^ (Int32.ofInt (-1))) &&& (a - (nI 1))) (nI 65536)) ((a ^^^ (Int32.ofInt (-1))) &&& (a - (nI 1))) (ushr ((a ^^^ (Int32.ofInt (-1))) &&& (a - (nI 1))) (nI 16))) (nI 256)) (cond (pm_cmp .le ((a ^^^ (Int32.ofInt (-1))) &&& (a - (nI 1))) (nI 65536)) ((a ^^^ (Int32.ofInt (-1))) &&& (a - (nI 1))) (ushr ((a ^^^ (Int32.ofInt (-1))) &&& (a - (nI 1))) (nI 16))) (ushr (cond (pm_cmp .le ((a ^^^ (Int32.ofInt (-1))) &&& (a - (nI 1))) (nI 65536)) ((a ^^^ (Int32.ofInt (-1))) &&& (a - (nI 1))) (ushr ((a ^^^ (Int32.ofInt (-1))) &&& (a - (nI 1))) (nI 16))) (nI 8))) (ushr (cond (pm_cmp .le (cond (pm_cmp .le ((a ^^^ (Int32.ofInt (-1))) &&& (a - (nI 1))) (nI 65536)) ((a ^^^ (Int32.ofInt (-1))) &&& (a - (nI 1))) (ushr ((a ^^^ (Int32.ofInt (-1))) &&& (a - (nI 1))) (nI 16))) (nI 256)) (cond (pm_cmp .le ((a ^^^ (Int32.ofInt (-1))) &&& (a - (nI 1))) (nI 65536)) ((a ^^^ (Int32.ofInt (-1))) &&& (a - (nI 1))) (ushr ((a ^^^ (Int32.ofInt (-1))) &&& (a - (nI 1))) (nI 16))) (ushr (cond (pm_cmp .le ((a ^^^ (Int32.ofInt (-1))) &&& (a - (nI 1))) (nI 65536)) ((a ^^^ (Int32.ofInt (-1))) &&& (a - (nI 1))) (ushr ((a ^^^ (Int32.ofInt (-1))) &&& (a - (nI 1))) (nI 16))) (nI 8))) (nI 4))) (nI 4)) (cond (pm_cmp .le (cond (pm_cmp .le (cond (pm_cmp .le ((a ^^^ (Int32.ofInt (-1))) &&& (a - (nI 1))) (nI 65536)) ((a ^^^ (Int32.ofInt (-1))) &&& (a - (nI 1))) (ushr ((a ^^^ (Int32.ofInt (-1))) &&& (a - (nI 1))) (nI 16))) (nI 256)) (cond (pm_cmp .le ((a ^^^ (Int32.ofInt (-1))) &&& (a - (nI 1))) (nI 65536)) ((a ^^^ (Int32.ofInt (-1))) &&& (a - (nI 1))) (ushr ((a ^^^ (Int32.ofInt (-1))) &&& (a - (nI 1))) (nI 16))) (ushr (cond (pm_cmp .le ((a ^^^ (Int32.ofInt (-1))) &&& (a - (nI 1))) (nI 65536)) ((a ^^^ (Int32.ofInt (-1))) &&& (a - (nI 1))) (ushr ((a ^^^ (Int32.ofInt (-1))) &&& (a - (nI 1))) (nI 16))) (nI 8))) (nI 16)) (cond (pm_cmp .le (cond (pm_cmp .le ((a ^^^ (Int32.ofInt (-1))) &&& (a - (nI 1))) (nI 65536)) ((a ^^^ (Int32.ofInt (-1))) &&& (a - (nI 1))) (ushr ((a ^^^ (Int32.ofInt (-1))) &&& (a - (nI 1))) (nI 16))) (nI 256)) (cond (pm_cmp .le ((a ^^^ (Int32.ofInt (-1))) &&& (a - (nI 1))) (nI 65536)) ((a ^^^ (Int32.ofInt (-1))) &&& (a - (nI 1))) (ushr ((a ^^^ (Int32.ofInt (-1))) &&& (a - (nI 1))) (nI 16))) (ushr (cond (pm_cmp .le ((a ^^^ (Int32.ofInt (-1))) &&& (a - (nI 1))) (nI 65536)) ((a ^^^ (Int32.ofInt (-1))) &&& (a - (nI 1))) (ushr ((a ^^^ (Int32.ofInt (-1))) &&& (a - (nI 1))) (nI 16))) (nI 8))) (ushr (cond (pm_cmp .le (cond (pm_cmp .le ((a ^^^ (Int32.ofInt (-1))) &&& (a - (nI 1))) (nI 65536)) ((a ^^^ (Int32.ofInt (-1))) &&& (a - (nI 1))) (ushr ((a ^^^ (Int32.ofInt (-1))) &&& (a - (nI 1))) (nI 16))) (nI 256)) (cond (pm_cmp .le ((a ^^^ (Int32.ofInt (-1))) &&& (a - (nI 1))) (nI 65536)) ((a ^^^ (Int32.ofInt (-1))) &&& (a - (nI 1))) (ushr ((a ^^^ (Int32.ofInt (-1))) &&& (a - (nI 1))) (nI 16))) (ushr (cond (pm_cmp .le ((a ^^^ (Int32.ofInt (-1))) &&& (a - (nI 1))) (nI 65536)) ((a ^^^ (Int32.ofInt (-1))) &&& (a - (nI 1))) (ushr ((a ^^^ (Int32.ofInt (-1))) &&& (a - (nI 1))) (nI 16))) (nI 8))) (nI 4))) (ushr (cond (pm_cmp .le (cond (pm_cmp .le (cond (pm_cmp .le ((a ^^^ (Int32.ofInt (-1))) &&& (a - (nI 1))) (nI 65536)) ((a ^^^ (Int32.ofInt (-1))) &&& (a - (nI 1))) (ushr ((a ^^^ (Int32.ofInt (-1))) &&& (a - (nI 1))) (nI 16))) (nI 256)) (cond (pm_cmp .le ((a ^^^ (Int32.ofInt (-1))) &&& (a - (nI 1))) (nI 65536)) ((a ^^^ (Int32.ofInt (-1))) &&& (a - (nI 1))) (ushr ((a ^^^ (Int32.ofInt (-1))) &&& (a - (nI 1))) (nI 16))) (ushr (cond (pm_cmp .le ((a ^^^ (Int32.ofInt (-1))) &&& (a - (nI 1))) (nI 65536)) ((a ^^^ (Int32.ofInt (-1))) &&& (a - (nI 1))) (ushr ((a ^^^ (Int32.ofInt (-1))) &&& (a - (nI 1))) (nI 16))) (nI 8))) (nI 16)) (cond (pm_cmp .le (cond (pm_cmp .le ((a ^^^ (Int32.ofInt (-1))) &&& (a - (nI 1))) (nI 65536)) ((a ^^^ (Int32.ofInt (-1))) &&& (a - (nI 1))) (ushr ((a ^^^ (Int32.ofInt (-1))) &&& (a - (nI 1))) (nI 16))) (nI 256)) (cond (pm_cmp .le ((a ^^^ (Int32.ofInt (-1))) &&& (a - (nI 1))) (nI 65536)) ((a ^^^ (Int32.ofInt (-1))) &&& (a - (nI 1))) (ushr ((a ^^^ (Int32.ofInt (-1))) &&& (a - (nI 1))) (nI 16))) (ushr (cond (pm_cmp .le ((a ^^^ (Int32.ofInt (-1))) &&& (a - (nI 1))) (nI 65536)) ((a ^^^ (Int32.ofInt (-1))) &&& (a - (nI 1))) (ushr ((a ^^^ (Int32.ofInt (-1))) &&& (a - (nI 1))) (nI 16))) (nI 8))) (ushr (cond (pm_cmp .le (cond (pm_cmp .le ((a ^^^ (Int32.ofInt (-1))) &&& (a - (nI 1))) (nI 65536)) ((a ^^^ (Int32.ofInt (-1))) &&& (a - (nI 1))) (ushr ((a ^^^ (Int32.ofInt (-1))) &&& (a - (nI 1))) (nI 16))) (nI 256)) (cond (pm_cmp .le ((a ^^^ (Int32.ofInt (-1))) &&& (a - (nI 1))) (nI 65536)) ((a ^^^ (Int32.ofInt (-1))) &&& (a - (nI 1))) (ushr ((a ^^^ (Int32.ofInt (-1))) &&& (a - (nI 1))) (nI 16))) (ushr (cond (pm_cmp .le ((a ^^^ (Int32.ofInt (-1))) &&& (a - (nI 1))) (nI 65536)) ((a ^^^ (Int32.ofInt (-1))) &&& (a - (nI 1))) (ushr ((a ^^^ (Int32.ofInt (-1))) &&& (a - (nI 1))) (nI 16))) (nI 8))) (nI 4))) (nI 2))) (nI 1)))], h, 198, sl) = some R := hh
    have er10 : R = (some (.int ((cond (pm_cmp .le (cond (pm_cmp .le (cond (pm_cmp .le (cond (pm_cmp .le ((a ^^^ (Int32.ofInt (-1))) &&& (a - (nI 1))) (nI 65536)) ((a ^^^ (Int32.ofInt (-1))) &&& (a - (nI 1))) (ushr ((a ^^^ (Int32.ofInt (-1))) &&& (a - (nI 1))) (nI 16))) (nI 256)) (cond (pm_cmp .le ((a ^^^ (Int32.ofInt (-1))) &&& (a - (nI 1))) (nI 65536)) ((a ^^^ (Int32.ofInt (-1))) &&& (a - (nI 1))) (ushr ((a ^^^ (Int32.ofInt (-1))) &&& (a - (nI 1))) (nI 16))) (ushr (cond (pm_cmp .le ((a ^^^ (Int32.ofInt (-1))) &&& (a - (nI 1))) (nI 65536)) ((a ^^^ (Int32.ofInt (-1))) &&& (a - (nI 1))) (ushr ((a ^^^ (Int32.ofInt (-1))) &&& (a - (nI 1))) (nI 16))) (nI 8))) (nI 16)) (cond (pm_cmp .le (cond (pm_cmp .le ((a ^^^ (Int32.ofInt (-1))) &&& (a - (nI 1))) (nI 65536)) ((a ^^^ (Int32.ofInt (-1))) &&& (a - (nI 1))) (ushr ((a ^^^ (Int32.ofInt (-1))) &&& (a - (nI 1))) (nI 16))) (nI 256)) (cond (pm_cmp .le ((a ^^^ (Int32.ofInt (-1))) &&& (a - (nI 1))) (nI 65536)) ((a ^^^ (Int32.ofInt (-1))) &&& (a - (nI 1))) (ushr ((a ^^^ (Int32.ofInt (-1))) &&& (a - (nI 1))) (nI 16))) (ushr (cond (pm_cmp .le ((a ^^^ (Int32.ofInt (-1))) &&& (a - (nI 1))) (nI 65536)) ((a ^^^ (Int32.ofInt (-1))) &&& (a - (nI 1))) (ushr ((a ^^^ (Int32.ofInt (-1))) &&& (a - (nI 1))) (nI 16))) (nI 8))) (ushr (cond (pm_cmp .le (cond (pm_cmp .le ((a ^^^ (Int32.ofInt (-1))) &&& (a - (nI 1))) (nI 65536)) ((a ^^^ (Int32.ofInt (-1))) &&& (a - (nI 1))) (ushr ((a ^^^ (Int32.ofInt (-1))) &&& (a - (nI 1))) (nI 16))) (nI 256)) (cond (pm_cmp .le ((a ^^^ (Int32.ofInt (-1))) &&& (a - (nI 1))) (nI 65536)) ((a ^^^ (Int32.ofInt (-1))) &&& (a - (nI 1))) (ushr ((a ^^^ (Int32.ofInt (-1))) &&& (a - (nI 1))) (nI 16))) (ushr (cond (pm_cmp .le ((a ^^^ (Int32.ofInt (-1))) &&& (a - (nI 1))) (nI 65536)) ((a ^^^ (Int32.ofInt (-1))) &&& (a - (nI 1))) (ushr ((a ^^^ (Int32.ofInt (-1))) &&& (a - (nI 1))) (nI 16))) (nI 8))) (nI 4))) (nI 4)) (cond (pm_cmp .le (cond (pm_cmp .le (cond (pm_cmp .le ((a ^^^ (Int32.ofInt (-1))) &&& (a - (nI 1))) (nI 65536)) ((a ^^^ (Int32.ofInt (-1))) &&& (a - (nI 1))) (ushr ((a ^^^ (Int32.ofInt (-1))) &&& (a - (nI 1))) (nI 16))) (nI 256)) (cond (pm_cmp .le ((a ^^^ (Int32.ofInt (-1))) &&& (a - (nI 1))) (nI 65536)) ((a ^^^ (Int32.ofInt (-1))) &&& (a - (nI 1))) (ushr ((a ^^^ (Int32.ofInt (-1))) &&& (a - (nI 1))) (nI 16))) (ushr (cond (pm_cmp .le ((a ^^^ (Int32.ofInt (-1))) &&& (a - (nI 1))) (nI 65536)) ((a ^^^ (Int32.ofInt (-1))) &&& (a - (nI 1))) (ushr ((a ^^^ (Int32.ofInt (-1))) &&& (a - (nI 1))) (nI 16))) (nI 8))) (nI 16)) (cond (pm_cmp .le (cond (pm_cmp .le ((a ^^^ (Int32.ofInt (-1))) &&& (a - (nI 1))) (nI 65536)) ((a ^^^ (Int32.ofInt (-1))) &&& (a - (nI 1))) (ushr ((a ^^^ (Int32.ofInt (-1))) &&& (a - (nI 1))) (nI 16))) (nI 256)) (cond (pm_cmp .le ((a ^^^ (Int32.ofInt (-1))) &&& (a - (nI 1))) (nI 65536)) (nI 1) (nI 17)) ((cond (pm_cmp .le ((a ^^^ (Int32.ofInt (-1))) &&& (a - (nI 1))) (nI 65536)) (nI 1) (nI 17)) + Int32.ofInt 8)) ((cond (pm_cmp .le (cond (pm_cmp .le ((a ^^^ (Int32.ofInt (-1))) &&& (a - (nI 1))) (nI 65536)) ((a ^^^ (Int32.ofInt (-1))) &&& (a - (nI 1))) (ushr ((a ^^^ (Int32.ofInt (-1))) &&& (a - (nI 1))) (nI 16))) (nI 256)) (cond (pm_cmp .le ((a ^^^ (Int32.ofInt (-1))) &&& (a - (nI 1))) (nI 65536)) (nI 1) (nI 17)) ((cond (pm_cmp .le ((a ^^^ (Int32.ofInt (-1))) &&& (a - (nI 1))) (nI 65536)) (nI 1) (nI 17)) + Int32.ofInt 8)) + Int32.ofInt 4)) ((cond (pm_cmp .le (cond (pm_cmp .le (cond (pm_cmp .le ((a ^^^ (Int32.ofInt (-1))) &&& (a - (nI 1))) (nI 65536)) ((a ^^^ (Int32.ofInt (-1))) &&& (a - (nI 1))) (ushr ((a ^^^ (Int32.ofInt (-1))) &&& (a - (nI 1))) (nI 16))) (nI 256)) (cond (pm_cmp .le ((a ^^^ (Int32.ofInt (-1))) &&& (a - (nI 1))) (nI 65536)) ((a ^^^ (Int32.ofInt (-1))) &&& (a - (nI 1))) (ushr ((a ^^^ (Int32.ofInt (-1))) &&& (a - (nI 1))) (nI 16))) (ushr (cond (pm_cmp .le ((a ^^^ (Int32.ofInt (-1))) &&& (a - (nI 1))) (nI 65536)) ((a ^^^ (Int32.ofInt (-1))) &&& (a - (nI 1))) (ushr ((a ^^^ (Int32.ofInt (-1))) &&& (a - (nI 1))) (nI 16))) (nI 8))) (nI 16)) (cond (pm_cmp .le (cond (pm_cmp .le ((a ^^^ (Int32.ofInt (-1))) &&& (a - (nI 1))) (nI 65536)) ((a ^^^ (Int32.ofInt (-1))) &&& (a - (nI 1))) (ushr ((a ^^^ (Int32.ofInt (-1))) &&& (a - (nI 1))) (nI 16))) (nI 256)) (cond (pm_cmp .le ((a ^^^ (Int32.ofInt (-1))) &&& (a - (nI 1))) (nI 65536)) (nI 1) (nI 17)) ((cond (pm_cmp .le ((a ^^^ (Int32.ofInt (-1))) &&& (a - (nI 1))) (nI 65536)) (nI 1) (nI 17)) + Int32.ofInt 8)) ((cond (pm_cmp .le (cond (pm_cmp .le ((a ^^^ (Int32.ofInt (-1))) &&& (a - (nI 1))) (nI 65536)) ((a ^^^ (Int32.ofInt (-1))) &&& (a - (nI 1))) (ushr ((a ^^^ (Int32.ofInt (-1))) &&& (a - (nI 1))) (nI 16))) (nI 256)) (cond (pm_cmp .le ((a ^^^ (Int32.ofInt (-1))) &&& (a - (nI 1))) (nI 65536)) (nI 1) (nI 17)) ((cond (pm_cmp .le ((a ^^^ (Int32.ofInt (-1))) &&& (a - (nI 1))) (nI 65536)) (nI 1) (nI 17)) + Int32.ofInt 8)) + Int32.ofInt 4)) + Int32.ofInt 2)) + (ushr (cond (pm_cmp .le (cond (pm_cmp .le (cond (pm_cmp .le (cond (pm_cmp .le ((a ^^^ (Int32.ofInt (-1))) &&& (a - (nI 1))) (nI 65536)) ((a ^^^ (Int32.ofInt (-1))) &&& (a - (nI 1))) (ushr ((a ^^^ (Int32.ofInt (-1))) &&& (a - (nI 1))) (nI 16))) (nI 256)) (cond (pm_cmp .le ((a ^^^ (Int32.ofInt (-1))) &&& (a - (nI 1))) (nI 65536)) ((a ^^^ (Int32.ofInt (-1))) &&& (a - (nI 1))) (ushr ((a ^^^ (Int32.ofInt (-1))) &&& (a - (nI 1))) (nI 16))) (ushr (cond (pm_cmp .le ((a ^^^ (Int32.ofInt (-1))) &&& (a - (nI 1))) (nI 65536)) ((a ^^^ (Int32.ofInt (-1))) &&& (a - (nI 1))) (ushr ((a ^^^ (Int32.ofInt (-1))) &&& (a - (nI 1))) (nI 16))) (nI 8))) (nI 16)) (cond (pm_cmp .le (cond (pm_cmp .le ((a ^^^ (Int32.ofInt (-1))) &&& (a - (nI 1))) (nI 65536)) ((a ^^^ (Int32.ofInt (-1))) &&& (a - (nI 1))) (ushr ((a ^^^ (Int32.ofInt (-1))) &&& (a - (nI 1))) (nI 16))) (nI 256)) (cond (pm_cmp .le ((a ^^^ (Int32.ofInt (-1))) &&& (a - (nI 1))) (nI 65536)) ((a ^^^ (Int32.ofInt (-1))) &&& (a - (nI 1))) (ushr ((a ^^^ (Int32.ofInt (-1))) &&& (a - (nI 1))) (nI 16))) (ushr (cond (pm_cmp .le ((a ^^^ (Int32.ofInt (-1))) &&& (a - (nI 1))) (nI 65536)) ((a ^^^ (Int32.ofInt (-1))) &&& (a - (nI 1))) (ushr ((a ^^^ (Int32.ofInt (-1))) &&& (a - (nI 1))) (nI 16))) (nI 8))) (ushr (cond (pm_cmp .le (cond (pm_cmp .le ((a ^^^ (Int32.ofInt (-1))) &&& (a - (nI 1))) (nI 65536)) ((a ^^^ (Int32.ofInt (-1))) &&& (a - (nI 1))) (ushr ((a ^^^ (Int32.ofInt (-1))) &&& (a - (nI 1))) (nI 16))) (nI 256)) (cond (pm_cmp .le ((a ^^^ (Int32.ofInt (-1))) &&& (a - (nI 1))) (nI 65536)) ((a ^^^ (Int32.ofInt (-1))) &&& (a - (nI 1))) (ushr ((a ^^^ (Int32.ofInt (-1))) &&& (a - (nI 1))) (nI 16))) (ushr (cond (pm_cmp .le ((a ^^^ (Int32.ofInt (-1))) &&& (a - (nI 1))) (nI 65536)) ((a ^^^ (Int32.ofInt (-1))) &&& (a - (nI 1))) (ushr ((a ^^^ (Int32.ofInt (-1))) &&& (a - (nI 1))) (nI 16))) (nI 8))) (nI 4))) (nI 4)) (cond (pm_cmp .le (cond (pm_cmp .le (cond (pm_cmp .le ((a ^^^ (Int32.ofInt (-1))) &&& (a - (nI 1))) (nI 65536)) ((a ^^^ (Int32.ofInt (-1))) &&& (a - (nI 1))) (ushr ((a ^^^ (Int32.ofInt (-1))) &&& (a - (nI 1))) (nI 16))) (nI 256)) (cond (pm_cmp .le ((a ^^^ (Int32.ofInt (-1))) &&& (a - (nI 1))) (nI 65536)) ((a ^^^ (Int32.ofInt (-1))) &&& (a - (nI 1))) (ushr ((a ^^^ (Int32.ofInt (-1))) &&& (a - (nI 1))) (nI 16))) (ushr (cond (pm_cmp .le ((a ^^^ (Int32.ofInt (-1))) &&& (a - (nI 1))) (nI 65536)) ((a ^^^ (Int32.ofInt (-1))) &&& (a - (nI 1))) (ushr ((a ^^^ (Int32.ofInt (-1))) &&& (a - (nI 1))) (nI 16))) (nI 8))) (nI 16)) (cond (pm_cmp .le (cond (pm_cmp .le ((a ^^^ (Int32.ofInt (-1))) &&& (a - (nI 1))) (nI 65536)) ((a ^^^ (Int32.ofInt (-1))) &&& (a - (nI 1))) (ushr ((a ^^^ (Int32.ofInt (-1))) &&& (a - (nI 1))) (nI 16))) (nI 256)) (cond (pm_cmp .le ((a ^^^ (Int32.ofInt (-1))) &&& (a - (nI 1))) (nI 65536)) ((a ^^^ (Int32.ofInt (-1))) &&& (a - (nI 1))) (ushr ((a ^^^ (Int32.ofInt (-1))) &&& (a - (nI 1))) (nI 16))) (ushr (cond (pm_cmp .le ((a ^^^ (Int32.ofInt (-1))) &&& (a - (nI 1))) (nI 65536)) ((a ^^^ (Int32.ofInt (-1))) &&& (a - (nI 1))) (ushr ((a ^^^ (Int32.ofInt (-1))) &&& (a - (nI 1))) (nI 16))) (nI 8))) (ushr (cond (pm_cmp .le (cond (pm_cmp .le ((a ^^^ (Int32.ofInt (-1))) &&& (a - (nI 1))) (nI 65536)) ((a ^^^ (Int32.ofInt (-1))) &&& (a - (nI 1))) (ushr ((a ^^^ (Int32.ofInt (-1))) &&& (a - (nI 1))) (nI 16))) (nI 256)) (cond (pm_cmp .le ((a ^^^ (Int32.ofInt (-1))) &&& (a - (nI 1))) (nI 65536)) ((a ^^^ (Int32.ofInt (-1))) &&& (a - (nI 1))) (ushr ((a ^^^ (Int32.ofInt (-1))) &&& (a - (nI 1))) (nI 16))) (ushr (cond (pm_cmp .le ((a ^^^ (Int32.ofInt (-1))) &&& (a - (nI 1))) (nI 65536)) ((a ^^^ (Int32.ofInt (-1))) &&& (a - (nI 1))) (ushr ((a ^^^ (Int32.ofInt (-1))) &&& (a - (nI 1))) (nI 16))) (nI 8))) (nI 4))) (ushr (cond (pm_cmp .le (cond (pm_cmp .le (cond (pm_cmp .le ((a ^^^ (Int32.ofInt (-1))) &&& (a - (nI 1))) (nI 65536)) ((a ^^^ (Int32.ofInt (-1))) &&& (a - (nI 1))) (ushr ((a ^^^ (Int32.ofInt (-1))) &&& (a - (nI 1))) (nI 16))) (nI 256)) (cond (pm_cmp .le ((a ^^^ (Int32.ofInt (-1))) &&& (a - (nI 1))) (nI 65536)) ((a ^^^ (Int32.ofInt (-1))) &&& (a - (nI 1))) (ushr ((a ^^^ (Int32.ofInt (-1))) &&& (a - (nI 1))) (nI 16))) (ushr (cond (pm_cmp .le ((a ^^^ (Int32.ofInt (-1))) &&& (a - (nI 1))) (nI 65536)) ((a ^^^ (Int32.ofInt (-1))) &&& (a - (nI 1))) (ushr ((a ^^^ (Int32.ofInt (-1))) &&& (a - (nI 1))) (nI 16))) (nI 8))) (nI 16)) (cond (pm_cmp .le (cond (pm_cmp .le ((a ^^^ (Int32.ofInt (-1))) &&& (a - (nI 1))) (nI 65536)) ((a ^^^ (Int32.ofInt (-1))) &&& (a - (nI 1))) (ushr ((a ^^^ (Int32.ofInt (-1))) &&& (a - (nI 1))) (nI 16))) (nI 256)) (cond (pm_cmp .le ((a ^^^ (Int32.ofInt (-1))) &&& (a - (nI 1))) (nI 65536)) ((a ^^^ (Int32.ofInt (-1))) &&& (a - (nI 1))) (ushr ((a ^^^ (Int32.ofInt (-1))) &&& (a - (nI 1))) (nI 16))) (ushr (cond (pm_cmp .le ((a ^^^ (Int32.ofInt (-1))) &&& (a - (nI 1))) (nI 65536)) ((a ^^^ (Int32.ofInt (-1))) &&& (a - (nI 1))) (ushr ((a ^^^ (Int32.ofInt (-1))) &&& (a - (nI 1))) (nI 16))) (nI 8))) (ushr (cond (pm_cmp .le (cond (pm_cmp .le ((a ^^^ (Int32.ofInt (-1))) &&& (a - (nI 1))) (nI 65536)) ((a ^^^ (Int32.ofInt (-1))) &&& (a - (nI 1))) (ushr ((a ^^^ (Int32.ofInt (-1))) &&& (a - (nI 1))) (nI 16))) (nI 256)) (cond (pm_cmp .le ((a ^^^ (Int32.ofInt (-1))) &&& (a - (nI 1))) (nI 65536)) ((a ^^^ (Int32.ofInt (-1))) &&& (a - (nI 1))) (ushr ((a ^^^ (Int32.ofInt (-1))) &&& (a - (nI 1))) (nI 16))) (ushr (cond (pm_cmp .le ((a ^^^ (Int32.ofInt (-1))) &&& (a - (nI 1))) (nI 65536)) ((a ^^^ (Int32.ofInt (-1))) &&& (a - (nI 1))) (ushr ((a ^^^ (Int32.ofInt (-1))) &&& (a - (nI 1))) (nI 16))) (nI 8))) (nI 4))) (nI 2))) (nI 1)))), h, 198, sl) := (rn_ret rfl (Or.inl rfl) hh).2
    have ed : v269 q cc gc a = (cond (pm_cmp .le (cond (pm_cmp .le (cond (pm_cmp .le (cond (pm_cmp .le ((a ^^^ (Int32.ofInt (-1))) &&& (a - (nI 1))) (nI 65536)) ((a ^^^ (Int32.ofInt (-1))) &&& (a - (nI 1))) (ushr ((a ^^^ (Int32.ofInt (-1))) &&& (a - (nI 1))) (nI 16))) (nI 256)) (cond (pm_cmp .le ((a ^^^ (Int32.ofInt (-1))) &&& (a - (nI 1))) (nI 65536)) ((a ^^^ (Int32.ofInt (-1))) &&& (a - (nI 1))) (ushr ((a ^^^ (Int32.ofInt (-1))) &&& (a - (nI 1))) (nI 16))) (ushr (cond (pm_cmp .le ((a ^^^ (Int32.ofInt (-1))) &&& (a - (nI 1))) (nI 65536)) ((a ^^^ (Int32.ofInt (-1))) &&& (a - (nI 1))) (ushr ((a ^^^ (Int32.ofInt (-1))) &&& (a - (nI 1))) (nI 16))) (nI 8))) (nI 16)) (cond (pm_cmp .le (cond (pm_cmp .le ((a ^^^ (Int32.ofInt (-1))) &&& (a - (nI 1))) (nI 65536)) ((a ^^^ (Int32.ofInt (-1))) &&& (a - (nI 1))) (ushr ((a ^^^ (Int32.ofInt (-1))) &&& (a - (nI 1))) (nI 16))) (nI 256)) (cond (pm_cmp .le ((a ^^^ (Int32.ofInt (-1))) &&& (a - (nI 1))) (nI 65536)) ((a ^^^ (Int32.ofInt (-1))) &&& (a - (nI 1))) (ushr ((a ^^^ (Int32.ofInt (-1))) &&& (a - (nI 1))) (nI 16))) (ushr (cond (pm_cmp .le ((a ^^^ (Int32.ofInt (-1))) &&& (a - (nI 1))) (nI 65536)) ((a ^^^ (Int32.ofInt (-1))) &&& (a - (nI 1))) (ushr ((a ^^^ (Int32.ofInt (-1))) &&& (a - (nI 1))) (nI 16))) (nI 8))) (ushr (cond (pm_cmp .le (cond (pm_cmp .le ((a ^^^ (Int32.ofInt (-1))) &&& (a - (nI 1))) (nI 65536)) ((a ^^^ (Int32.ofInt (-1))) &&& (a - (nI 1))) (ushr ((a ^^^ (Int32.ofInt (-1))) &&& (a - (nI 1))) (nI 16))) (nI 256)) (cond (pm_cmp .le ((a ^^^ (Int32.ofInt (-1))) &&& (a - (nI 1))) (nI 65536)) ((a ^^^ (Int32.ofInt (-1))) &&& (a - (nI 1))) (ushr ((a ^^^ (Int32.ofInt (-1))) &&& (a - (nI 1))) (nI 16))) (ushr (cond (pm_cmp .le ((a ^^^ (Int32.ofInt (-1))) &&& (a - (nI 1))) (nI 65536)) ((a ^^^ (Int32.ofInt (-1))) &&& (a - (nI 1))) (ushr ((a ^^^ (Int32.ofInt (-1))) &&& (a - (nI 1))) (nI 16))) (nI 8))) (nI 4))) (nI 4)) (cond (pm_cmp .le (cond (pm_cmp .le (cond (pm_cmp .le ((a ^^^ (Int32.ofInt (-1))) &&& (a - (nI 1))) (nI 65536)) ((a ^^^ (Int32.ofInt (-1))) &&& (a - (nI 1))) (ushr ((a ^^^ (Int32.ofInt (-1))) &&& (a - (nI 1))) (nI 16))) (nI 256)) (cond (pm_cmp .le ((a ^^^ (Int32.ofInt (-1))) &&& (a - (nI 1))) (nI 65536)) ((a ^^^ (Int32.ofInt (-1))) &&& (a - (nI 1))) (ushr ((a ^^^ (Int32.ofInt (-1))) &&& (a - (nI 1))) (nI 16))) (ushr (cond (pm_cmp .le ((a ^^^ (Int32.ofInt (-1))) &&& (a - (nI 1))) (nI 65536)) ((a ^^^ (Int32.ofInt (-1))) &&& (a - (nI 1))) (ushr ((a ^^^ (Int32.ofInt (-1))) &&& (a - (nI 1))) (nI 16))) (nI 8))) (nI 16)) (cond (pm_cmp .le (cond (pm_cmp .le ((a ^^^ (Int32.ofInt (-1))) &&& (a - (nI 1))) (nI 65536)) ((a ^^^ (Int32.ofInt (-1))) &&& (a - (nI 1))) (ushr ((a ^^^ (Int32.ofInt (-1))) &&& (a - (nI 1))) (nI 16))) (nI 256)) (cond (pm_cmp .le ((a ^^^ (Int32.ofInt (-1))) &&& (a - (nI 1))) (nI 65536)) (nI 1) (nI 17)) ((cond (pm_cmp .le ((a ^^^ (Int32.ofInt (-1))) &&& (a - (nI 1))) (nI 65536)) (nI 1) (nI 17)) + Int32.ofInt 8)) ((cond (pm_cmp .le (cond (pm_cmp .le ((a ^^^ (Int32.ofInt (-1))) &&& (a - (nI 1))) (nI 65536)) ((a ^^^ (Int32.ofInt (-1))) &&& (a - (nI 1))) (ushr ((a ^^^ (Int32.ofInt (-1))) &&& (a - (nI 1))) (nI 16))) (nI 256)) (cond (pm_cmp .le ((a ^^^ (Int32.ofInt (-1))) &&& (a - (nI 1))) (nI 65536)) (nI 1) (nI 17)) ((cond (pm_cmp .le ((a ^^^ (Int32.ofInt (-1))) &&& (a - (nI 1))) (nI 65536)) (nI 1) (nI 17)) + Int32.ofInt 8)) + Int32.ofInt 4)) ((cond (pm_cmp .le (cond (pm_cmp .le (cond (pm_cmp .le ((a ^^^ (Int32.ofInt (-1))) &&& (a - (nI 1))) (nI 65536)) ((a ^^^ (Int32.ofInt (-1))) &&& (a - (nI 1))) (ushr ((a ^^^ (Int32.ofInt (-1))) &&& (a - (nI 1))) (nI 16))) (nI 256)) (cond (pm_cmp .le ((a ^^^ (Int32.ofInt (-1))) &&& (a - (nI 1))) (nI 65536)) ((a ^^^ (Int32.ofInt (-1))) &&& (a - (nI 1))) (ushr ((a ^^^ (Int32.ofInt (-1))) &&& (a - (nI 1))) (nI 16))) (ushr (cond (pm_cmp .le ((a ^^^ (Int32.ofInt (-1))) &&& (a - (nI 1))) (nI 65536)) ((a ^^^ (Int32.ofInt (-1))) &&& (a - (nI 1))) (ushr ((a ^^^ (Int32.ofInt (-1))) &&& (a - (nI 1))) (nI 16))) (nI 8))) (nI 16)) (cond (pm_cmp .le (cond (pm_cmp .le ((a ^^^ (Int32.ofInt (-1))) &&& (a - (nI 1))) (nI 65536)) ((a ^^^ (Int32.ofInt (-1))) &&& (a - (nI 1))) (ushr ((a ^^^ (Int32.ofInt (-1))) &&& (a - (nI 1))) (nI 16))) (nI 256)) (cond (pm_cmp .le ((a ^^^ (Int32.ofInt (-1))) &&& (a - (nI 1))) (nI 65536)) (nI 1) (nI 17)) ((cond (pm_cmp .le ((a ^^^ (Int32.ofInt (-1))) &&& (a - (nI 1))) (nI 65536)) (nI 1) (nI 17)) + Int32.ofInt 8)) ((cond (pm_cmp .le (cond (pm_cmp .le ((a ^^^ (Int32.ofInt (-1))) &&& (a - (nI 1))) (nI 65536)) ((a ^^^ (Int32.ofInt (-1))) &&& (a - (nI 1))) (ushr ((a ^^^ (Int32.ofInt (-1))) &&& (a - (nI 1))) (nI 16))) (nI 256)) (cond (pm_cmp .le ((a ^^^ (Int32.ofInt (-1))) &&& (a - (nI 1))) (nI 65536)) (nI 1) (nI 17)) ((cond (pm_cmp .le ((a ^^^ (Int32.ofInt (-1))) &&& (a - (nI 1))) (nI 65536)) (nI 1) (nI 17)) + Int32.ofInt 8)) + Int32.ofInt 4)) + Int32.ofInt 2)) + (ushr (cond (pm_cmp .le (cond (pm_cmp .le (cond (pm_cmp .le (cond (pm_cmp .le ((a ^^^ (Int32.ofInt (-1))) &&& (a - (nI 1))) (nI 65536)) ((a ^^^ (Int32.ofInt (-1))) &&& (a - (nI 1))) (ushr ((a ^^^ (Int32.ofInt (-1))) &&& (a - (nI 1))) (nI 16))) (nI 256)) (cond (pm_cmp .le ((a ^^^ (Int32.ofInt (-1))) &&& (a - (nI 1))) (nI 65536)) ((a ^^^ (Int32.ofInt (-1))) &&& (a - (nI 1))) (ushr ((a ^^^ (Int32.ofInt (-1))) &&& (a - (nI 1))) (nI 16))) (ushr (cond (pm_cmp .le ((a ^^^ (Int32.ofInt (-1))) &&& (a - (nI 1))) (nI 65536)) ((a ^^^ (Int32.ofInt (-1))) &&& (a - (nI 1))) (ushr ((a ^^^ (Int32.ofInt (-1))) &&& (a - (nI 1))) (nI 16))) (nI 8))) (nI 16)) (cond (pm_cmp .le (cond (pm_cmp .le ((a ^^^ (Int32.ofInt (-1))) &&& (a - (nI 1))) (nI 65536)) ((a ^^^ (Int32.ofInt (-1))) &&& (a - (nI 1))) (ushr ((a ^^^ (Int32.ofInt (-1))) &&& (a - (nI 1))) (nI 16))) (nI 256)) (cond (pm_cmp .le ((a ^^^ (Int32.ofInt (-1))) &&& (a - (nI 1))) (nI 65536)) ((a ^^^ (Int32.ofInt (-1))) &&& (a - (nI 1))) (ushr ((a ^^^ (Int32.ofInt (-1))) &&& (a - (nI 1))) (nI 16))) (ushr (cond (pm_cmp .le ((a ^^^ (Int32.ofInt (-1))) &&& (a - (nI 1))) (nI 65536)) ((a ^^^ (Int32.ofInt (-1))) &&& (a - (nI 1))) (ushr ((a ^^^ (Int32.ofInt (-1))) &&& (a - (nI 1))) (nI 16))) (nI 8))) (ushr (cond (pm_cmp .le (cond (pm_cmp .le ((a ^^^ (Int32.ofInt (-1))) &&& (a - (nI 1))) (nI 65536)) ((a ^^^ (Int32.ofInt (-1))) &&& (a - (nI 1))) (ushr ((a ^^^ (Int32.ofInt (-1))) &&& (a - (nI 1))) (nI 16))) (nI 256)) (cond (pm_cmp .le ((a ^^^ (Int32.ofInt (-1))) &&& (a - (nI 1))) (nI 65536)) ((a ^^^ (Int32.ofInt (-1))) &&& (a - (nI 1))) (ushr ((a ^^^ (Int32.ofInt (-1))) &&& (a - (nI 1))) (nI 16))) (ushr (cond (pm_cmp .le ((a ^^^ (Int32.ofInt (-1))) &&& (a - (nI 1))) (nI 65536)) ((a ^^^ (Int32.ofInt (-1))) &&& (a - (nI 1))) (ushr ((a ^^^ (Int32.ofInt (-1))) &&& (a - (nI 1))) (nI 16))) (nI 8))) (nI 4))) (nI 4)) (cond (pm_cmp .le (cond (pm_cmp .le (cond (pm_cmp .le ((a ^^^ (Int32.ofInt (-1))) &&& (a - (nI 1))) (nI 65536)) ((a ^^^ (Int32.ofInt (-1))) &&& (a - (nI 1))) (ushr ((a ^^^ (Int32.ofInt (-1))) &&& (a - (nI 1))) (nI 16))) (nI 256)) (cond (pm_cmp .le ((a ^^^ (Int32.ofInt (-1))) &&& (a - (nI 1))) (nI 65536)) ((a ^^^ (Int32.ofInt (-1))) &&& (a - (nI 1))) (ushr ((a ^^^ (Int32.ofInt (-1))) &&& (a - (nI 1))) (nI 16))) (ushr (cond (pm_cmp .le ((a ^^^ (Int32.ofInt (-1))) &&& (a - (nI 1))) (nI 65536)) ((a ^^^ (Int32.ofInt (-1))) &&& (a - (nI 1))) (ushr ((a ^^^ (Int32.ofInt (-1))) &&& (a - (nI 1))) (nI 16))) (nI 8))) (nI 16)) (cond (pm_cmp .le (cond (pm_cmp .le ((a ^^^ (Int32.ofInt (-1))) &&& (a - (nI 1))) (nI 65536)) ((a ^^^ (Int32.ofInt (-1))) &&& (a - (nI 1))) (ushr ((a ^^^ (Int32.ofInt (-1))) &&& (a - (nI 1))) (nI 16))) (nI 256)) (cond (pm_cmp .le ((a ^^^ (Int32.ofInt (-1))) &&& (a - (nI 1))) (nI 65536)) ((a ^^^ (Int32.ofInt (-1))) &&& (a - (nI 1))) (ushr ((a ^^^ (Int32.ofInt (-1))) &&& (a - (nI 1))) (nI 16))) (ushr (cond (pm_cmp .le ((a ^^^ (Int32.ofInt (-1))) &&& (a - (nI 1))) (nI 65536)) ((a ^^^ (Int32.ofInt (-1))) &&& (a - (nI 1))) (ushr ((a ^^^ (Int32.ofInt (-1))) &&& (a - (nI 1))) (nI 16))) (nI 8))) (ushr (cond (pm_cmp .le (cond (pm_cmp .le ((a ^^^ (Int32.ofInt (-1))) &&& (a - (nI 1))) (nI 65536)) ((a ^^^ (Int32.ofInt (-1))) &&& (a - (nI 1))) (ushr ((a ^^^ (Int32.ofInt (-1))) &&& (a - (nI 1))) (nI 16))) (nI 256)) (cond (pm_cmp .le ((a ^^^ (Int32.ofInt (-1))) &&& (a - (nI 1))) (nI 65536)) ((a ^^^ (Int32.ofInt (-1))) &&& (a - (nI 1))) (ushr ((a ^^^ (Int32.ofInt (-1))) &&& (a - (nI 1))) (nI 16))) (ushr (cond (pm_cmp .le ((a ^^^ (Int32.ofInt (-1))) &&& (a - (nI 1))) (nI 65536)) ((a ^^^ (Int32.ofInt (-1))) &&& (a - (nI 1))) (ushr ((a ^^^ (Int32.ofInt (-1))) &&& (a - (nI 1))) (nI 16))) (nI 8))) (nI 4))) (ushr (cond (pm_cmp .le (cond (pm_cmp .le (cond (pm_cmp .le ((a ^^^ (Int32.ofInt (-1))) &&& (a - (nI 1))) (nI 65536)) ((a ^^^ (Int32.ofInt (-1))) &&& (a - (nI 1))) (ushr ((a ^^^ (Int32.ofInt (-1))) &&& (a - (nI 1))) (nI 16))) (nI 256)) (cond (pm_cmp .le ((a ^^^ (Int32.ofInt (-1))) &&& (a - (nI 1))) (nI 65536)) ((a ^^^ (Int32.ofInt (-1))) &&& (a - (nI 1))) (ushr ((a ^^^ (Int32.ofInt (-1))) &&& (a - (nI 1))) (nI 16))) (ushr (cond (pm_cmp .le ((a ^^^ (Int32.ofInt (-1))) &&& (a - (nI 1))) (nI 65536)) ((a ^^^ (Int32.ofInt (-1))) &&& (a - (nI 1))) (ushr ((a ^^^ (Int32.ofInt (-1))) &&& (a - (nI 1))) (nI 16))) (nI 8))) (nI 16)) (cond (pm_cmp .le (cond (pm_cmp .le ((a ^^^ (Int32.ofInt (-1))) &&& (a - (nI 1))) (nI 65536)) ((a ^^^ (Int32.ofInt (-1))) &&& (a - (nI 1))) (ushr ((a ^^^ (Int32.ofInt (-1))) &&& (a - (nI 1))) (nI 16))) (nI 256)) (cond (pm_cmp .le ((a ^^^ (Int32.ofInt (-1))) &&& (a - (nI 1))) (nI 65536)) ((a ^^^ (Int32.ofInt (-1))) &&& (a - (nI 1))) (ushr ((a ^^^ (Int32.ofInt (-1))) &&& (a - (nI 1))) (nI 16))) (ushr (cond (pm_cmp .le ((a ^^^ (Int32.ofInt (-1))) &&& (a - (nI 1))) (nI 65536)) ((a ^^^ (Int32.ofInt (-1))) &&& (a - (nI 1))) (ushr ((a ^^^ (Int32.ofInt (-1))) &&& (a - (nI 1))) (nI 16))) (nI 8))) (ushr (cond (pm_cmp .le (cond (pm_cmp .le ((a ^^^ (Int32.ofInt (-1))) &&& (a - (nI 1))) (nI 65536)) ((a ^^^ (Int32.ofInt (-1))) &&& (a - (nI 1))) (ushr ((a ^^^ (Int32.ofInt (-1))) &&& (a - (nI 1))) (nI 16))) (nI 256)) (cond (pm_cmp .le ((a ^^^ (Int32.ofInt (-1))) &&& (a - (nI 1))) (nI 65536)) ((a ^^^ (Int32.ofInt (-1))) &&& (a - (nI 1))) (ushr ((a ^^^ (Int32.ofInt (-1))) &&& (a - (nI 1))) (nI 16))) (ushr (cond (pm_cmp .le ((a ^^^ (Int32.ofInt (-1))) &&& (a - (nI 1))) (nI 65536)) ((a ^^^ (Int32.ofInt (-1))) &&& (a - (nI 1))) (ushr ((a ^^^ (Int32.ofInt (-1))) &&& (a - (nI 1))) (nI 16))) (nI 8))) (nI 4))) (nI 2))) (nI 1)) := (ct z1).trans rfl
    rw [ed]
    exact er10
  | false =>
    have hh := en_f z1 hh
    have hh : pm_run PT n fr lo 269 (12, [some (.int ((a ^^^ (Int32.ofInt (-1))) &&& (a - (nI 1)))), none], [], h, 198, sl) = some R := hh
    obtain ⟨n, hh⟩ := rn_i rfl rfl rfl rfl hh
    obtain ⟨n, hh⟩ := rn_i rfl rfl rfl rfl hh
    obtain ⟨n, hh⟩ := rn_i rfl rfl rfl rfl hh
    have hh : pm_run PT n fr lo 269 (16, [some (.int ((a ^^^ (Int32.ofInt (-1))) &&& (a - (nI 1)))), none], [.int (((a ^^^ (Int32.ofInt (-1))) &&& (a - (nI 1))) &&& (nI 32))], h, 198, sl) = some R := hh
    have er11 : R = (some (.int (((a ^^^ (Int32.ofInt (-1))) &&& (a - (nI 1))) &&& (nI 32))), h, 198, sl) := (rn_ret rfl (Or.inl rfl) hh).2
    have ed : v269 q cc gc a = ((a ^^^ (Int32.ofInt (-1))) &&& (a - (nI 1))) &&& (nI 32) := (cf z1).trans rfl
    rw [ed]
    exact er11
def v220 (q : QT) (cc gc : Nat) (h : pm_H) (a : Nat) (b : Nat) (m : Int32) : Int32 × pm_H := cond (pP cc (nI a) (nI b)) (cond (in_b ((m).toInt64) (-9 : Int64) (9 : Int64)) (cond (pm_cmp .ne m 0) ((upd (Ar h 170) (6 + 6 * a + b) (imax (nI 0) (imin (nI 20) (((Ar h 170) (6 + 6 * a + b)) + m)))) (6 + 6 * a + b), aset h 170 96 (upd (Ar h 170) (6 + 6 * a + b) (imax (nI 0) (imin (nI 20) (((Ar h 170) (6 + 6 * a + b)) + m))))) ((Int32.ofInt (-1)), h)) ((Int32.ofInt (-1)), h)) ((Int32.ofInt (-1)), h)
theorem v220_ok {n fr lo sl cc gc : Nat} {q : QT} {h : pm_H} {R : pm_Rs} {a : Nat} {b : Nat} {m : Int32} (hw : HC q cc gc h) (h_a : a < 10000) (h_b : b < 10000) (hh : pm_run PT n fr lo 220 (0, pm_l0 [.ref 162, .int (nI a), .int (nI b), .int m] 4, [], h, 198, sl) = some R) : R = (some (.int ((v220 q cc gc h a b m).1)), (v220 q cc gc h a b m).2, 198, sl) ∧ HC q cc gc ((v220 q cc gc h a b m).2) ∧ frm [170] [] h ((v220 q cc gc h a b m).2) := by
  have hcc := hw.cb
  have hgc := hw.gb
  have hzr := hw.zr
  obtain ⟨n, hh⟩ := rn_i rfl rfl rfl rfl hh
  obtain ⟨n, hh⟩ := rn_i rfl rfl rfl rfl hh
  obtain ⟨n, hh⟩ := rn_i rfl rfl rfl rfl hh
  have hh : pm_run PT n fr lo 220 (3, [some (.ref 162), some (.int (nI a)), some (.int (nI b)), some (.int m)], [.int (nI b), .int (nI a), .ref 162], h, 198, sl) = some R := hh
  obtain ⟨n, fr1, lo1, r1, hh1, hh⟩ := rn_call (w := 0) (t := 170) rfl rfl hh
  have er1 := ma_run hcc (hc_m3 hw) hh1
  subst er1
  have hh : pm_run PT n fr lo 220 (6, [some (.ref 162), some (.int (nI a)), some (.int (nI b)), some (.int m)], [.int (cond (pP cc (nI a) (nI b)) 1 0)], h, 198, sl) = some R := hh
  obtain ⟨n, hh⟩ := en_zn (cc := .eq) (off := 21) (t := 27) (b := !(pP cc (nI a) (nI b))) eb_eq rfl rfl hh
  cases z2 : pP cc (nI a) (nI b) with
  | true =>
    have hh := en_nt z2 hh
    have hh : pm_run PT n fr lo 220 (9, [some (.ref 162), some (.int (nI a)), some (.int (nI b)), some (.int m)], [], h, 198, sl) = some R := hh
    obtain ⟨n, hh⟩ := rn_i rfl rfl rfl rfl hh
    obtain ⟨n, hh⟩ := rn_i rfl rfl rfl rfl hh
    obtain ⟨n, hh⟩ := rn_i rfl rfl rfl rfl hh
    obtain ⟨n, hh⟩ := rn_i rfl rfl rfl rfl hh
    have hh : pm_run PT n fr lo 220 (17, [some (.ref 162), some (.int (nI a)), some (.int (nI b)), some (.int m)], [.long (9 : Int64), .long (-9 : Int64), .long ((m).toInt64)], h, 198, sl) = some R := hh
    obtain ⟨n, fr1, lo1, r1, hh1, hh⟩ := rn_call (w := 2) (t := 163) rfl rfl hh
    have er3 := rn_dt (F := 10) (Lo := 1000) (hd_in (fr := 10) (lo := 1000) (h := h) (sl := sl) ((m).toInt64) (-9 : Int64) (9 : Int64)) hh1
    subst er3
    have hh : pm_run PT n fr lo 220 (20, [some (.ref 162), some (.int (nI a)), some (.int (nI b)), some (.int m)], [.int (cond (in_b ((m).toInt64) (-9 : Int64) (9 : Int64)) 1 0)], h, 198, sl) = some R := hh
    obtain ⟨n, hh⟩ := en_zn (cc := .eq) (off := 7) (t := 27) (b := !(in_b ((m).toInt64) (-9 : Int64) (9 : Int64))) eb_eq rfl rfl hh
    cases z4 : in_b ((m).toInt64) (-9 : Int64) (9 : Int64) with
    | true =>
      have hh := en_nt z4 hh
      have hh : pm_run PT n fr lo 220 (23, [some (.ref 162), some (.int (nI a)), some (.int (nI b)), some (.int m)], [], h, 198, sl) = some R := hh
      obtain ⟨n, hh⟩ := rn_i rfl rfl rfl rfl hh
      have hh : pm_run PT n fr lo 220 (24, [some (.ref 162), some (.int (nI a)), some (.int (nI b)), some (.int m)], [.int m], h, 198, sl) = some R := hh
      obtain ⟨n, hh⟩ := en_zn (cc := .ne) (off := 5) (t := 29) (b := pm_cmp .ne m 0) rfl rfl rfl hh
      cases z5 : pm_cmp .ne m 0 with
      | true =>
        have hh := en_t z5 hh
        have hh : pm_run PT n fr lo 220 (29, [some (.ref 162), some (.int (nI a)), some (.int (nI b)), some (.int m)], [], h, 198, sl) = some R := hh
        obtain ⟨n, hh⟩ := rn_i rfl rfl rfl rfl hh
        have hh : pm_run PT n fr lo 220 (30, [some (.ref 162), some (.int (nI a)), some (.int (nI b)), some (.int m)], [.ref 162], h, 198, sl) = some R := hh
        obtain ⟨n, hh⟩ := rn_gr hw.wt rfl rfl (by decide) rfl (by decide) (show _ = some (2, ((170 : Nat) : Int), 1) from rfl) rfl hh
        obtain ⟨n, hh⟩ := rn_i rfl rfl rfl rfl hh
        obtain ⟨n, hh⟩ := rn_i rfl rfl rfl rfl hh
        obtain ⟨n, hh⟩ := rn_i rfl rfl rfl rfl hh
        have hh : pm_run PT n fr lo 220 (36, [some (.ref 162), some (.int (nI a)), some (.int (nI b)), some (.int m)], [.int m, .int (nI b), .int (nI a), .ref 170], h, 198, sl) = some R := hh
        obtain ⟨n, fr1, lo1, r1, hh1, hh⟩ := rn_call (w := 2) (t := 215) rfl rfl hh
        have hh1 : pm_run PT n fr1 lo1 215 (0, [some (.ref 170), some (.int (nI a)), some (.int (nI b)), some (.int m), none], [], h, 198, sl) = some r1 := hh1
        obtain ⟨n1, hh1⟩ := rn_i rfl rfl rfl rfl hh1
        obtain ⟨n1, hh1⟩ := rn_i rfl rfl rfl rfl hh1
        obtain ⟨n1, hh1⟩ := rn_i rfl rfl rfl rfl hh1
        have hh1 : pm_run PT n1 fr1 lo1 215 (5, [some (.ref 170), some (.int (nI a)), some (.int (nI b)), some (.int m), none], [.int (nI a), .int (nI 6), .int (nI 6)], h, 198, sl) = some r1 := hh1
        obtain ⟨n1, hh1⟩ := en_mul rfl hh1
        have hh1 : pm_run PT n1 fr1 lo1 215 (6, [some (.ref 170), some (.int (nI a)), some (.int (nI b)), some (.int m), none], [.int (nI (6 * a)), .int (nI 6)], h, 198, sl) = some r1 := hh1
        have hh1 : pm_run PT n1 fr1 lo1 215 (6, [some (.ref 170), some (.int (nI a)), some (.int (nI b)), some (.int m), none], [.int (nI (6 * a)), .int (nI 6)], h, 198, sl) = some r1 := hh1
        obtain ⟨n1, hh1⟩ := en_add rfl hh1
        have hh1 : pm_run PT n1 fr1 lo1 215 (7, [some (.ref 170), some (.int (nI a)), some (.int (nI b)), some (.int m), none], [.int (nI (6 + 6 * a))], h, 198, sl) = some r1 := hh1
        obtain ⟨n1, hh1⟩ := rn_i rfl rfl rfl rfl hh1
        have hh1 : pm_run PT n1 fr1 lo1 215 (8, [some (.ref 170), some (.int (nI a)), some (.int (nI b)), some (.int m), none], [.int (nI b), .int (nI (6 + 6 * a))], h, 198, sl) = some r1 := hh1
        obtain ⟨n1, hh1⟩ := en_add rfl hh1
        have hh1 : pm_run PT n1 fr1 lo1 215 (9, [some (.ref 170), some (.int (nI a)), some (.int (nI b)), some (.int m), none], [.int (nI (6 + 6 * a + b))], h, 198, sl) = some r1 := hh1
        obtain ⟨n1, hh1⟩ := rn_i rfl rfl rfl rfl hh1
        obtain ⟨n1, hh1⟩ := rn_i rfl rfl rfl rfl hh1
        obtain ⟨n1, hh1⟩ := rn_i rfl rfl rfl rfl hh1
        obtain ⟨n1, hh1⟩ := rn_i rfl rfl rfl rfl hh1
        obtain ⟨n1, hh1⟩ := rn_i rfl rfl rfl rfl hh1
        obtain ⟨n1, hh1⟩ := rn_i rfl rfl rfl rfl hh1
        obtain ⟨n1, hh1⟩ := rn_i rfl rfl rfl rfl hh1
        have hh1 : pm_run PT n1 fr1 lo1 215 (20, [some (.ref 170), some (.int (nI a)), some (.int (nI b)), some (.int m), some (.int (nI (6 + 6 * a + b)))], [.int (nI (6 + 6 * a + b)), .ref 170, .int (nI 20), .int (nI 0), .int (nI (6 + 6 * a + b)), .ref 170], h, 198, sl) = some r1 := hh1
        obtain ⟨n1, hx6, hh1⟩ := en_lu (t := 6 + 6 * a + b) (f := Ar h 170) (w := (Ar h 170) (6 + 6 * a + b)) (nI_clamp (by omega)) hw.wt rfl (by decide) rfl (by decide) rfl (fun _ => rfl) hh1
        obtain ⟨n1, hh1⟩ := rn_i rfl rfl rfl rfl hh1
        obtain ⟨n1, hh1⟩ := rn_i rfl rfl rfl rfl hh1
        have hh1 : pm_run PT n1 fr1 lo1 215 (23, [some (.ref 170), some (.int (nI a)), some (.int (nI b)), some (.int m), some (.int (nI (6 + 6 * a + b)))], [.int (((Ar h 170) (6 + 6 * a + b)) + m), .int (nI 20), .int (nI 0), .int (nI (6 + 6 * a + b)), .ref 170], h, 198, sl) = some r1 := hh1
        obtain ⟨n1, hh1⟩ := en_min rfl rfl rfl hh1
        have hh1 : pm_run PT n1 fr1 lo1 215 (26, [some (.ref 170), some (.int (nI a)), some (.int (nI b)), some (.int m), some (.int (nI (6 + 6 * a + b)))], [.int (imin (nI 20) (((Ar h 170) (6 + 6 * a + b)) + m)), .int (nI 0), .int (nI (6 + 6 * a + b)), .ref 170], h, 198, sl) = some r1 := hh1
        obtain ⟨n1, hh1⟩ := en_max rfl rfl rfl hh1
        have hh1 : pm_run PT n1 fr1 lo1 215 (29, [some (.ref 170), some (.int (nI a)), some (.int (nI b)), some (.int m), some (.int (nI (6 + 6 * a + b)))], [.int (imax (nI 0) (imin (nI 20) (((Ar h 170) (6 + 6 * a + b)) + m))), .int (nI (6 + 6 * a + b)), .ref 170], h, 198, sl) = some r1 := hh1
        obtain ⟨n1, hx7, hh1⟩ := en_st (t := 6 + 6 * a + b) (f := Ar h 170) (nI_clamp (by omega)) hw.wt rfl (by decide) rfl (by decide) rfl hh1
        obtain ⟨n1, hh1⟩ := rn_i rfl rfl rfl rfl hh1
        obtain ⟨n1, hh1⟩ := rn_i rfl rfl rfl rfl hh1
        have hh1 : pm_run PT n1 fr1 lo1 215 (33, [some (.ref 170), some (.int (nI a)), some (.int (nI b)), some (.int m), some (.int (nI (6 + 6 * a + b)))], [.int (nI (6 + 6 * a + b)), .ref 170], aset h 170 96 (upd (Ar h 170) (6 + 6 * a + b) (imax (nI 0) (imin (nI 20) (((Ar h 170) (6 + 6 * a + b)) + m)))), 198, sl) = some r1 := hh1
        obtain ⟨n1, hx8, hh1⟩ := en_lu (t := 6 + 6 * a + b) (f := upd (Ar h 170) (6 + 6 * a + b) (imax (nI 0) (imin (nI 20) (((Ar h 170) (6 + 6 * a + b)) + m)))) (w := (upd (Ar h 170) (6 + 6 * a + b) (imax (nI 0) (imin (nI 20) (((Ar h 170) (6 + 6 * a + b)) + m)))) (6 + 6 * a + b)) (nI_clamp (by omega)) (hc_a rfl rfl hw).wt rfl (by decide) rfl (by decide) Ar_s (fun _ => rfl) hh1
        have hh1 : pm_run PT n1 fr1 lo1 215 (34, [some (.ref 170), some (.int (nI a)), some (.int (nI b)), some (.int m), some (.int (nI (6 + 6 * a + b)))], [.int ((upd (Ar h 170) (6 + 6 * a + b) (imax (nI 0) (imin (nI 20) (((Ar h 170) (6 + 6 * a + b)) + m)))) (6 + 6 * a + b))], aset h 170 96 (upd (Ar h 170) (6 + 6 * a + b) (imax (nI 0) (imin (nI 20) (((Ar h 170) (6 + 6 * a + b)) + m)))), 198, sl) = some r1 := hh1
        have er9 : r1 = (some (.int ((upd (Ar h 170) (6 + 6 * a + b) (imax (nI 0) (imin (nI 20) (((Ar h 170) (6 + 6 * a + b)) + m)))) (6 + 6 * a + b))), aset h 170 96 (upd (Ar h 170) (6 + 6 * a + b) (imax (nI 0) (imin (nI 20) (((Ar h 170) (6 + 6 * a + b)) + m)))), 198, sl) := (rn_ret rfl (Or.inl rfl) hh1).2
        subst er9
        have hh : pm_run PT n fr lo 220 (39, [some (.ref 162), some (.int (nI a)), some (.int (nI b)), some (.int m)], [.int ((upd (Ar h 170) (6 + 6 * a + b) (imax (nI 0) (imin (nI 20) (((Ar h 170) (6 + 6 * a + b)) + m)))) (6 + 6 * a + b))], aset h 170 96 (upd (Ar h 170) (6 + 6 * a + b) (imax (nI 0) (imin (nI 20) (((Ar h 170) (6 + 6 * a + b)) + m)))), 198, sl) = some R := hh
        have er10 : R = (some (.int ((upd (Ar h 170) (6 + 6 * a + b) (imax (nI 0) (imin (nI 20) (((Ar h 170) (6 + 6 * a + b)) + m)))) (6 + 6 * a + b))), aset h 170 96 (upd (Ar h 170) (6 + 6 * a + b) (imax (nI 0) (imin (nI 20) (((Ar h 170) (6 + 6 * a + b)) + m)))), 198, sl) := (rn_ret rfl (Or.inl rfl) hh).2
        have ed : v220 q cc gc h a b m = ((upd (Ar h 170) (6 + 6 * a + b) (imax (nI 0) (imin (nI 20) (((Ar h 170) (6 + 6 * a + b)) + m)))) (6 + 6 * a + b), aset h 170 96 (upd (Ar h 170) (6 + 6 * a + b) (imax (nI 0) (imin (nI 20) (((Ar h 170) (6 + 6 * a + b)) + m))))) := (ct z2).trans ((ct z4).trans ((ct z5).trans rfl))
        refine ⟨?_, ?_, ?_⟩ <;> rw [ed]
        · exact er10
        · exact (hc_a rfl rfl hw)
        · exact (fr_a rfl rfl fr_0)
      | false =>
        have hh := en_f z5 hh
        have hh : pm_run PT n fr lo 220 (27, [some (.ref 162), some (.int (nI a)), some (.int (nI b)), some (.int m)], [], h, 198, sl) = some R := hh
        obtain ⟨n, hh⟩ := rn_i rfl rfl rfl rfl hh
        have hh : pm_run PT n fr lo 220 (28, [some (.ref 162), some (.int (nI a)), some (.int (nI b)), some (.int m)], [.int (Int32.ofInt (-1))], h, 198, sl) = some R := hh
        have er11 : R = (some (.int (Int32.ofInt (-1))), h, 198, sl) := (rn_ret rfl (Or.inl rfl) hh).2
        have ed : v220 q cc gc h a b m = ((Int32.ofInt (-1)), h) := (ct z2).trans ((ct z4).trans ((cf z5).trans rfl))
        refine ⟨?_, ?_, ?_⟩ <;> rw [ed]
        · exact er11
        · exact hw
        · exact fr_0
    | false =>
      have hh := en_nf z4 hh
      have hh : pm_run PT n fr lo 220 (27, [some (.ref 162), some (.int (nI a)), some (.int (nI b)), some (.int m)], [], h, 198, sl) = some R := hh
      obtain ⟨n, hh⟩ := rn_i rfl rfl rfl rfl hh
      have hh : pm_run PT n fr lo 220 (28, [some (.ref 162), some (.int (nI a)), some (.int (nI b)), some (.int m)], [.int (Int32.ofInt (-1))], h, 198, sl) = some R := hh
      have er12 : R = (some (.int (Int32.ofInt (-1))), h, 198, sl) := (rn_ret rfl (Or.inl rfl) hh).2
      have ed : v220 q cc gc h a b m = ((Int32.ofInt (-1)), h) := (ct z2).trans ((cf z4).trans rfl)
      refine ⟨?_, ?_, ?_⟩ <;> rw [ed]
      · exact er12
      · exact hw
      · exact fr_0
  | false =>
    have hh := en_nf z2 hh
    have hh : pm_run PT n fr lo 220 (27, [some (.ref 162), some (.int (nI a)), some (.int (nI b)), some (.int m)], [], h, 198, sl) = some R := hh
    obtain ⟨n, hh⟩ := rn_i rfl rfl rfl rfl hh
    have hh : pm_run PT n fr lo 220 (28, [some (.ref 162), some (.int (nI a)), some (.int (nI b)), some (.int m)], [.int (Int32.ofInt (-1))], h, 198, sl) = some R := hh
    have er13 : R = (some (.int (Int32.ofInt (-1))), h, 198, sl) := (rn_ret rfl (Or.inl rfl) hh).2
    have ed : v220 q cc gc h a b m = ((Int32.ofInt (-1)), h) := (cf z2).trans rfl
    refine ⟨?_, ?_, ?_⟩ <;> rw [ed]
    · exact er13
    · exact hw
    · exact fr_0
theorem v220_fr {cc gc : Nat} {q : QT} {h : pm_H} {a : Nat} {b : Nat} {m : Int32} (hw : HC q cc gc h) : HC q cc gc ((v220 q cc gc h a b m).2) ∧ frm [170] [] h ((v220 q cc gc h a b m).2) := by
  unfold v220
  refine cd_s (P := fun (p : Int32 × pm_H) => HC q cc gc ((p).2) ∧ frm [170] [] h ((p).2)) (b := pP cc (nI a) (nI b)) (fun _ => ?_) (fun _ => ?_)
  · refine cd_s (P := fun (p : Int32 × pm_H) => HC q cc gc ((p).2) ∧ frm [170] [] h ((p).2)) (b := in_b ((m).toInt64) (-9 : Int64) (9 : Int64)) (fun _ => ?_) (fun _ => ?_)
    · refine cd_s (P := fun (p : Int32 × pm_H) => HC q cc gc ((p).2) ∧ frm [170] [] h ((p).2)) (b := pm_cmp .ne m 0) (fun _ => ?_) (fun _ => ?_)
      · show HC q cc gc (aset h 170 96 (upd (Ar h 170) (6 + 6 * a + b) (imax (nI 0) (imin (nI 20) (((Ar h 170) (6 + 6 * a + b)) + m))))) ∧ frm [170] [] h (aset h 170 96 (upd (Ar h 170) (6 + 6 * a + b) (imax (nI 0) (imin (nI 20) (((Ar h 170) (6 + 6 * a + b)) + m)))))
        exact ⟨(hc_a rfl rfl hw), (fr_a rfl rfl fr_0)⟩
      · show HC q cc gc (h) ∧ frm [170] [] h (h)
        exact ⟨hw, fr_0⟩
    · show HC q cc gc (h) ∧ frm [170] [] h (h)
      exact ⟨hw, fr_0⟩
  · show HC q cc gc (h) ∧ frm [170] [] h (h)
    exact ⟨hw, fr_0⟩
def v221 (q : QT) (cc gc : Nat) (h : pm_H) (a : Nat) (b : Nat) : Int32 × pm_H := cond (pP cc (nI a) (nI b)) (cond (pm_cmp .ne ((Ar h 170) (42 + 6 * a + b)) 0) ((Ar h 170) (42 + 6 * a + b)) (Int32.ofInt (-2)), aset h 170 96 (upd (Ar h 170) (42 + 6 * a + b) (nI 0))) ((Int32.ofInt (-1)), h)
theorem v221_ok {n fr lo sl cc gc : Nat} {q : QT} {h : pm_H} {R : pm_Rs} {a : Nat} {b : Nat} (hw : HC q cc gc h) (h_a : a < 10000) (h_b : b < 10000) (hh : pm_run PT n fr lo 221 (0, pm_l0 [.ref 162, .int (nI a), .int (nI b)] 5, [], h, 198, sl) = some R) : R = (some (.int ((v221 q cc gc h a b).1)), (v221 q cc gc h a b).2, 198, sl) ∧ HC q cc gc ((v221 q cc gc h a b).2) ∧ frm [170] [] h ((v221 q cc gc h a b).2) := by
  have hcc := hw.cb
  have hgc := hw.gb
  have hzr := hw.zr
  obtain ⟨n, hh⟩ := rn_i rfl rfl rfl rfl hh
  obtain ⟨n, hh⟩ := rn_i rfl rfl rfl rfl hh
  obtain ⟨n, hh⟩ := rn_i rfl rfl rfl rfl hh
  have hh : pm_run PT n fr lo 221 (3, [some (.ref 162), some (.int (nI a)), some (.int (nI b)), none, none], [.int (nI b), .int (nI a), .ref 162], h, 198, sl) = some R := hh
  obtain ⟨n, fr1, lo1, r1, hh1, hh⟩ := rn_call (w := 0) (t := 170) rfl rfl hh
  have er1 := ma_run hcc (hc_m3 hw) hh1
  subst er1
  have hh : pm_run PT n fr lo 221 (6, [some (.ref 162), some (.int (nI a)), some (.int (nI b)), none, none], [.int (cond (pP cc (nI a) (nI b)) 1 0)], h, 198, sl) = some R := hh
  obtain ⟨n, hh⟩ := en_zn (cc := .ne) (off := 5) (t := 11) (b := pP cc (nI a) (nI b)) eb_ne rfl rfl hh
  cases z2 : pP cc (nI a) (nI b) with
  | true =>
    have hh := en_t z2 hh
    have hh : pm_run PT n fr lo 221 (11, [some (.ref 162), some (.int (nI a)), some (.int (nI b)), none, none], [], h, 198, sl) = some R := hh
    obtain ⟨n, hh⟩ := rn_i rfl rfl rfl rfl hh
    obtain ⟨n, hh⟩ := rn_i rfl rfl rfl rfl hh
    obtain ⟨n, hh⟩ := rn_i rfl rfl rfl rfl hh
    have hh : pm_run PT n fr lo 221 (16, [some (.ref 162), some (.int (nI a)), some (.int (nI b)), none, none], [.int (nI a), .int (nI 6), .int (nI 42)], h, 198, sl) = some R := hh
    obtain ⟨n, hh⟩ := en_mul rfl hh
    have hh : pm_run PT n fr lo 221 (17, [some (.ref 162), some (.int (nI a)), some (.int (nI b)), none, none], [.int (nI (6 * a)), .int (nI 42)], h, 198, sl) = some R := hh
    have hh : pm_run PT n fr lo 221 (17, [some (.ref 162), some (.int (nI a)), some (.int (nI b)), none, none], [.int (nI (6 * a)), .int (nI 42)], h, 198, sl) = some R := hh
    obtain ⟨n, hh⟩ := en_add rfl hh
    have hh : pm_run PT n fr lo 221 (18, [some (.ref 162), some (.int (nI a)), some (.int (nI b)), none, none], [.int (nI (42 + 6 * a))], h, 198, sl) = some R := hh
    obtain ⟨n, hh⟩ := rn_i rfl rfl rfl rfl hh
    have hh : pm_run PT n fr lo 221 (19, [some (.ref 162), some (.int (nI a)), some (.int (nI b)), none, none], [.int (nI b), .int (nI (42 + 6 * a))], h, 198, sl) = some R := hh
    obtain ⟨n, hh⟩ := en_add rfl hh
    have hh : pm_run PT n fr lo 221 (20, [some (.ref 162), some (.int (nI a)), some (.int (nI b)), none, none], [.int (nI (42 + 6 * a + b))], h, 198, sl) = some R := hh
    obtain ⟨n, hh⟩ := rn_i rfl rfl rfl rfl hh
    obtain ⟨n, hh⟩ := rn_i rfl rfl rfl rfl hh
    have hh : pm_run PT n fr lo 221 (22, [some (.ref 162), some (.int (nI a)), some (.int (nI b)), some (.int (nI (42 + 6 * a + b))), none], [.ref 162], h, 198, sl) = some R := hh
    obtain ⟨n, hh⟩ := rn_gr hw.wt rfl rfl (by decide) rfl (by decide) (show _ = some (2, ((170 : Nat) : Int), 1) from rfl) rfl hh
    obtain ⟨n, hh⟩ := rn_i rfl rfl rfl rfl hh
    have hh : pm_run PT n fr lo 221 (26, [some (.ref 162), some (.int (nI a)), some (.int (nI b)), some (.int (nI (42 + 6 * a + b))), none], [.int (nI (42 + 6 * a + b)), .ref 170], h, 198, sl) = some R := hh
    obtain ⟨n, hx3, hh⟩ := en_lu (t := 42 + 6 * a + b) (f := Ar h 170) (w := (Ar h 170) (42 + 6 * a + b)) (nI_clamp (by omega)) hw.wt rfl (by decide) rfl (by decide) rfl (fun _ => rfl) hh
    obtain ⟨n, hh⟩ := rn_i rfl rfl rfl rfl hh
    obtain ⟨n, hh⟩ := rn_i rfl rfl rfl rfl hh
    have hh : pm_run PT n fr lo 221 (30, [some (.ref 162), some (.int (nI a)), some (.int (nI b)), some (.int (nI (42 + 6 * a + b))), some (.int ((Ar h 170) (42 + 6 * a + b)))], [.ref 162], h, 198, sl) = some R := hh
    obtain ⟨n, hh⟩ := rn_gr hw.wt rfl rfl (by decide) rfl (by decide) (show _ = some (2, ((170 : Nat) : Int), 1) from rfl) rfl hh
    obtain ⟨n, hh⟩ := rn_i rfl rfl rfl rfl hh
    obtain ⟨n, hh⟩ := rn_i rfl rfl rfl rfl hh
    have hh : pm_run PT n fr lo 221 (35, [some (.ref 162), some (.int (nI a)), some (.int (nI b)), some (.int (nI (42 + 6 * a + b))), some (.int ((Ar h 170) (42 + 6 * a + b)))], [.int (nI 0), .int (nI (42 + 6 * a + b)), .ref 170], h, 198, sl) = some R := hh
    obtain ⟨n, hx4, hh⟩ := en_st (t := 42 + 6 * a + b) (f := Ar h 170) (nI_clamp (by omega)) hw.wt rfl (by decide) rfl (by decide) rfl hh
    obtain ⟨n, hh⟩ := rn_i rfl rfl rfl rfl hh
    have hh : pm_run PT n fr lo 221 (38, [some (.ref 162), some (.int (nI a)), some (.int (nI b)), some (.int (nI (42 + 6 * a + b))), some (.int ((Ar h 170) (42 + 6 * a + b)))], [.int ((Ar h 170) (42 + 6 * a + b))], aset h 170 96 (upd (Ar h 170) (42 + 6 * a + b) (nI 0)), 198, sl) = some R := hh
    obtain ⟨n, hh⟩ := en_zn (cc := .ne) (off := 8) (t := 46) (b := pm_cmp .ne ((Ar h 170) (42 + 6 * a + b)) 0) rfl rfl rfl hh
    have hj6 : ∃ mJ, pm_run PT mJ fr lo 221 (cond (pm_cmp .ne ((Ar h 170) (42 + 6 * a + b)) 0) (48, [some (.ref 162), some (.int (nI a)), some (.int (nI b)), some (.int (nI (42 + 6 * a + b))), some (.int ((Ar h 170) (42 + 6 * a + b)))], [.int ((Ar h 170) (42 + 6 * a + b))], aset h 170 96 (upd (Ar h 170) (42 + 6 * a + b) (nI 0)), 198, sl) (48, [some (.ref 162), some (.int (nI a)), some (.int (nI b)), some (.int (nI (42 + 6 * a + b))), some (.int ((Ar h 170) (42 + 6 * a + b)))], [.int (Int32.ofInt (-2))], aset h 170 96 (upd (Ar h 170) (42 + 6 * a + b) (nI 0)), 198, sl)) = some R := en_J (fun z5 => by
        have hh := en_t z5 hh
        have hh : pm_run PT n fr lo 221 (46, [some (.ref 162), some (.int (nI a)), some (.int (nI b)), some (.int (nI (42 + 6 * a + b))), some (.int ((Ar h 170) (42 + 6 * a + b)))], [], aset h 170 96 (upd (Ar h 170) (42 + 6 * a + b) (nI 0)), 198, sl) = some R := hh
        obtain ⟨n, hh⟩ := rn_i rfl rfl rfl rfl hh
        exact ⟨n, hh⟩) (fun z5 => by
        have hh := en_f z5 hh
        have hh : pm_run PT n fr lo 221 (41, [some (.ref 162), some (.int (nI a)), some (.int (nI b)), some (.int (nI (42 + 6 * a + b))), some (.int ((Ar h 170) (42 + 6 * a + b)))], [], aset h 170 96 (upd (Ar h 170) (42 + 6 * a + b) (nI 0)), 198, sl) = some R := hh
        obtain ⟨n, hh⟩ := rn_i rfl rfl rfl rfl hh
        obtain ⟨n, hh⟩ := rn_i rfl rfl rfl rfl hh
        exact ⟨n, hh⟩)
    obtain ⟨n, hh⟩ := hj6
    rw [show (cond (pm_cmp .ne ((Ar h 170) (42 + 6 * a + b)) 0) (48, [some (.ref 162), some (.int (nI a)), some (.int (nI b)), some (.int (nI (42 + 6 * a + b))), some (.int ((Ar h 170) (42 + 6 * a + b)))], [.int ((Ar h 170) (42 + 6 * a + b))], aset h 170 96 (upd (Ar h 170) (42 + 6 * a + b) (nI 0)), 198, sl) (48, [some (.ref 162), some (.int (nI a)), some (.int (nI b)), some (.int (nI (42 + 6 * a + b))), some (.int ((Ar h 170) (42 + 6 * a + b)))], [.int (Int32.ofInt (-2))], aset h 170 96 (upd (Ar h 170) (42 + 6 * a + b) (nI 0)), 198, sl) : pm_St) = (48, [some (.ref 162), some (.int (nI a)), some (.int (nI b)), some (.int (nI (42 + 6 * a + b))), some (.int ((Ar h 170) (42 + 6 * a + b)))], [.int (cond (pm_cmp .ne ((Ar h 170) (42 + 6 * a + b)) 0) ((Ar h 170) (42 + 6 * a + b)) (Int32.ofInt (-2)))], aset h 170 96 (upd (Ar h 170) (42 + 6 * a + b) (nI 0)), 198, sl) from by cases (pm_cmp .ne ((Ar h 170) (42 + 6 * a + b)) 0) <;> rfl] at hh
    have hh : pm_run PT n fr lo 221 (48, [some (.ref 162), some (.int (nI a)), some (.int (nI b)), some (.int (nI (42 + 6 * a + b))), some (.int ((Ar h 170) (42 + 6 * a + b)))], [.int (cond (pm_cmp .ne ((Ar h 170) (42 + 6 * a + b)) 0) ((Ar h 170) (42 + 6 * a + b)) (Int32.ofInt (-2)))], aset h 170 96 (upd (Ar h 170) (42 + 6 * a + b) (nI 0)), 198, sl) = some R := hh
    have er7 : R = (some (.int (cond (pm_cmp .ne ((Ar h 170) (42 + 6 * a + b)) 0) ((Ar h 170) (42 + 6 * a + b)) (Int32.ofInt (-2)))), aset h 170 96 (upd (Ar h 170) (42 + 6 * a + b) (nI 0)), 198, sl) := (rn_ret rfl (Or.inl rfl) hh).2
    have ed : v221 q cc gc h a b = (cond (pm_cmp .ne ((Ar h 170) (42 + 6 * a + b)) 0) ((Ar h 170) (42 + 6 * a + b)) (Int32.ofInt (-2)), aset h 170 96 (upd (Ar h 170) (42 + 6 * a + b) (nI 0))) := (ct z2).trans rfl
    refine ⟨?_, ?_, ?_⟩ <;> rw [ed]
    · exact er7
    · exact (hc_a rfl rfl hw)
    · exact (fr_a rfl rfl fr_0)
  | false =>
    have hh := en_f z2 hh
    have hh : pm_run PT n fr lo 221 (9, [some (.ref 162), some (.int (nI a)), some (.int (nI b)), none, none], [], h, 198, sl) = some R := hh
    obtain ⟨n, hh⟩ := rn_i rfl rfl rfl rfl hh
    have hh : pm_run PT n fr lo 221 (10, [some (.ref 162), some (.int (nI a)), some (.int (nI b)), none, none], [.int (Int32.ofInt (-1))], h, 198, sl) = some R := hh
    have er8 : R = (some (.int (Int32.ofInt (-1))), h, 198, sl) := (rn_ret rfl (Or.inl rfl) hh).2
    have ed : v221 q cc gc h a b = ((Int32.ofInt (-1)), h) := (cf z2).trans rfl
    refine ⟨?_, ?_, ?_⟩ <;> rw [ed]
    · exact er8
    · exact hw
    · exact fr_0
theorem v221_fr {cc gc : Nat} {q : QT} {h : pm_H} {a : Nat} {b : Nat} (hw : HC q cc gc h) : HC q cc gc ((v221 q cc gc h a b).2) ∧ frm [170] [] h ((v221 q cc gc h a b).2) := by
  unfold v221
  refine cd_s (P := fun (p : Int32 × pm_H) => HC q cc gc ((p).2) ∧ frm [170] [] h ((p).2)) (b := pP cc (nI a) (nI b)) (fun _ => ?_) (fun _ => ?_)
  · show HC q cc gc (aset h 170 96 (upd (Ar h 170) (42 + 6 * a + b) (nI 0))) ∧ frm [170] [] h (aset h 170 96 (upd (Ar h 170) (42 + 6 * a + b) (nI 0)))
    exact ⟨(hc_a rfl rfl hw), (fr_a rfl rfl fr_0)⟩
  · show HC q cc gc (h) ∧ frm [170] [] h (h)
    exact ⟨hw, fr_0⟩
def v213 (q : QT) (cc gc : Nat) (h : pm_H) (u : Nat) (v : Int32) : Int32 × pm_H := cond (pm_cmp .ge v 0) ((v212 q cc gc h u v).1, (v212 q cc gc h u v).2) (v, h)
theorem v213_ok {n fr lo sl cc gc : Nat} {q : QT} {h : pm_H} {R : pm_Rs} {u : Nat} {v : Int32} (hw : HC q cc gc h) (hu : u ≤ 15) (e1 : Fi h 162 27 = nI u) (hh : pm_run PT n fr lo 213 (0, pm_l0 [.ref 162, .int v] 2, [], h, 198, sl) = some R) : R = (some (.int ((v213 q cc gc h u v).1)), (v213 q cc gc h u v).2, 198, sl) ∧ HC q cc gc ((v213 q cc gc h u v).2) ∧ frm [162, 178] [(162, 27)] h ((v213 q cc gc h u v).2) := by
  have hcc := hw.cb
  have hgc := hw.gb
  have hzr := hw.zr
  obtain ⟨n, hh⟩ := rn_i rfl rfl rfl rfl hh
  have hh : pm_run PT n fr lo 213 (1, [some (.ref 162), some (.int v)], [.int v], h, 198, sl) = some R := hh
  obtain ⟨n, hh⟩ := en_zn (cc := .ge) (off := 7) (t := 8) (b := pm_cmp .ge v 0) rfl rfl rfl hh
  cases z1 : pm_cmp .ge v 0 with
  | true =>
    have hh := en_t z1 hh
    have hh : pm_run PT n fr lo 213 (8, [some (.ref 162), some (.int v)], [], h, 198, sl) = some R := hh
    obtain ⟨n, hh⟩ := rn_i rfl rfl rfl rfl hh
    obtain ⟨n, hh⟩ := rn_i rfl rfl rfl rfl hh
    have hh : pm_run PT n fr lo 213 (10, [some (.ref 162), some (.int v)], [.int v, .ref 162], h, 198, sl) = some R := hh
    obtain ⟨n, fr1, lo1, r1, hh1, hh⟩ := rn_call (w := 0) (t := 212) rfl rfl hh
    obtain ⟨er2, hc3, hf4⟩ := v212_ok (u := u) (v := v) hw hu e1 hh1
    subst er2
    have hh : pm_run PT n fr lo 213 (13, [some (.ref 162), some (.int v)], [.int ((v212 q cc gc h u v).1)], (v212 q cc gc h u v).2, 198, sl) = some R := hh
    have er5 : R = (some (.int ((v212 q cc gc h u v).1)), (v212 q cc gc h u v).2, 198, sl) := (rn_ret rfl (Or.inl rfl) hh).2
    have ed : v213 q cc gc h u v = ((v212 q cc gc h u v).1, (v212 q cc gc h u v).2) := (ct z1).trans rfl
    refine ⟨?_, ?_, ?_⟩ <;> rw [ed]
    · exact er5
    · exact hc3
    · exact (fr_g rfl rfl hf4 fr_0)
  | false =>
    have hh := en_f z1 hh
    have hh : pm_run PT n fr lo 213 (4, [some (.ref 162), some (.int v)], [], h, 198, sl) = some R := hh
    obtain ⟨n, hh⟩ := rn_i rfl rfl rfl rfl hh
    obtain ⟨n, hh⟩ := rn_i rfl rfl rfl rfl hh
    have hh : pm_run PT n fr lo 213 (13, [some (.ref 162), some (.int v)], [.int v], h, 198, sl) = some R := hh
    have er6 : R = (some (.int v), h, 198, sl) := (rn_ret rfl (Or.inl rfl) hh).2
    have ed : v213 q cc gc h u v = (v, h) := (cf z1).trans rfl
    refine ⟨?_, ?_, ?_⟩ <;> rw [ed]
    · exact er6
    · exact hw
    · exact fr_0
def v222 (q : QT) (cc gc : Nat) (h : pm_H) (u : Nat) (g : Nat) (c : Nat) : Int32 × pm_H := cond (pm_cmp .lt ((v213 q cc gc ((v217 q cc gc (v211 q cc gc (fset h 162 0 (.int (nI 0))) u) g c).2) u ((v217 q cc gc (v211 q cc gc (fset h 162 0 (.int (nI 0))) u) g c).1)).1) 0) ((v213 q cc gc ((v217 q cc gc (v211 q cc gc (fset h 162 0 (.int (nI 0))) u) g c).2) u ((v217 q cc gc (v211 q cc gc (fset h 162 0 (.int (nI 0))) u) g c).1)).1, (v213 q cc gc ((v217 q cc gc (v211 q cc gc (fset h 162 0 (.int (nI 0))) u) g c).2) u ((v217 q cc gc (v211 q cc gc (fset h 162 0 (.int (nI 0))) u) g c).1)).2) ((v213 q cc gc ((v217 q cc gc (v211 q cc gc (fset h 162 0 (.int (nI 0))) u) g c).2) u ((v217 q cc gc (v211 q cc gc (fset h 162 0 (.int (nI 0))) u) g c).1)).1, v167 q cc gc (v167 q cc gc (fset ((v213 q cc gc ((v217 q cc gc (v211 q cc gc (fset h 162 0 (.int (nI 0))) u) g c).2) u ((v217 q cc gc (v211 q cc gc (fset h 162 0 (.int (nI 0))) u) g c).1)).2) 162 1 (.int (nI 0))) ((Fi ((v217 q cc gc (v211 q cc gc (fset h 162 0 (.int (nI 0))) u) g c).2) 162 29).toInt64)) ((Fi ((v217 q cc gc (v211 q cc gc (fset h 162 0 (.int (nI 0))) u) g c).2) 162 30).toInt64))
theorem v222_ok {n fr lo sl cc gc : Nat} {q : QT} {h : pm_H} {R : pm_Rs} {u : Nat} {g : Nat} {c : Nat} (hw : HC q cc gc h) (h_g : g < 10000) (h_c : c < 10000) (hu : u ≤ 15) (e1 : Fi h 162 27 = nI u) (hol : NA h 170 78 86 6) (hh : pm_run PT n fr lo 222 (0, pm_l0 [.ref 162, .int (nI g), .int (nI c)] 4, [], h, 198, sl) = some R) : R = (some (.int ((v222 q cc gc h u g c).1)), (v222 q cc gc h u g c).2, 198, sl) ∧ HC q cc gc ((v222 q cc gc h u g c).2) ∧ frm [162, 163, 170, 176, 177, 178] [(162, 0), (162, 1), (162, 27), (162, 29), (162, 30)] h ((v222 q cc gc h u g c).2) := by
  have hcc := hw.cb
  have hgc := hw.gb
  have hzr := hw.zr
  obtain ⟨n, hh⟩ := rn_i rfl rfl rfl rfl hh
  obtain ⟨n, hh⟩ := rn_i rfl rfl rfl rfl hh
  have hh : pm_run PT n fr lo 222 (2, [some (.ref 162), some (.int (nI g)), some (.int (nI c)), none], [.int (nI 0), .ref 162], h, 198, sl) = some R := hh
  obtain ⟨n, hh⟩ := rn_pi hw.wt rfl rfl (by decide) rfl (by decide) rfl hh
  obtain ⟨n, hh⟩ := rn_i rfl rfl rfl rfl hh
  have hh : pm_run PT n fr lo 222 (6, [some (.ref 162), some (.int (nI g)), some (.int (nI c)), none], [.ref 162], fset h 162 0 (.int (nI 0)), 198, sl) = some R := hh
  obtain ⟨n, fr1, lo1, r1, hh1, hh⟩ := rn_call (w := 0) (t := 211) rfl rfl hh
  obtain ⟨er1, hc2, hf3⟩ := v211_ok (u := u) (hc_f rfl rfl (by decide) rfl hw) hu ((Fi_n (Or.inr (by decide))).trans e1) hh1
  subst er1
  obtain ⟨n, hh⟩ := rn_i rfl rfl rfl rfl hh
  obtain ⟨n, hh⟩ := rn_i rfl rfl rfl rfl hh
  obtain ⟨n, hh⟩ := rn_i rfl rfl rfl rfl hh
  have hh : pm_run PT n fr lo 222 (12, [some (.ref 162), some (.int (nI g)), some (.int (nI c)), none], [.ref 162, .ref 162, .ref 162], v211 q cc gc (fset h 162 0 (.int (nI 0))) u, 198, sl) = some R := hh
  obtain ⟨n, hh⟩ := rn_gr hc2.wt rfl rfl (by decide) rfl (by decide) (show _ = some (2, ((170 : Nat) : Int), 1) from rfl) rfl hh
  obtain ⟨n, hh⟩ := rn_i rfl rfl rfl rfl hh
  obtain ⟨n, hh⟩ := rn_i rfl rfl rfl rfl hh
  have hh : pm_run PT n fr lo 222 (17, [some (.ref 162), some (.int (nI g)), some (.int (nI c)), none], [.int (nI c), .int (nI g), .ref 170, .ref 162, .ref 162], v211 q cc gc (fset h 162 0 (.int (nI 0))) u, 198, sl) = some R := hh
  obtain ⟨n, fr1, lo1, r1, hh1, hh⟩ := rn_call (w := 0) (t := 217) rfl rfl hh
  obtain ⟨er4, hc5, hf6⟩ := v217_ok (g := g) (c := c) hc2 (by omega) (by omega) (NA_e ((Ar_e (hf3.1 170 rfl)).trans (Ar_f.trans rfl)) hol) hh1
  subst er4
  have hh : pm_run PT n fr lo 222 (20, [some (.ref 162), some (.int (nI g)), some (.int (nI c)), none], [.int ((v217 q cc gc (v211 q cc gc (fset h 162 0 (.int (nI 0))) u) g c).1), .ref 162], (v217 q cc gc (v211 q cc gc (fset h 162 0 (.int (nI 0))) u) g c).2, 198, sl) = some R := hh
  obtain ⟨n, fr1, lo1, r1, hh1, hh⟩ := rn_call (w := 0) (t := 213) rfl rfl hh
  obtain ⟨er7, hc8, hf9⟩ := v213_ok (u := u) (v := ((v217 q cc gc (v211 q cc gc (fset h 162 0 (.int (nI 0))) u) g c).1)) hc5 hu ((hf6.2 162 27 (by decide +kernel) rfl).trans ((hf3.2 162 27 (by decide +kernel) rfl).trans ((Fi_n (Or.inr (by decide))).trans e1))) hh1
  subst er7
  obtain ⟨n, hh⟩ := rn_i rfl rfl rfl rfl hh
  obtain ⟨n, hh⟩ := rn_i rfl rfl rfl rfl hh
  have hh : pm_run PT n fr lo 222 (25, [some (.ref 162), some (.int (nI g)), some (.int (nI c)), some (.int ((v213 q cc gc ((v217 q cc gc (v211 q cc gc (fset h 162 0 (.int (nI 0))) u) g c).2) u ((v217 q cc gc (v211 q cc gc (fset h 162 0 (.int (nI 0))) u) g c).1)).1))], [.int ((v213 q cc gc ((v217 q cc gc (v211 q cc gc (fset h 162 0 (.int (nI 0))) u) g c).2) u ((v217 q cc gc (v211 q cc gc (fset h 162 0 (.int (nI 0))) u) g c).1)).1)], (v213 q cc gc ((v217 q cc gc (v211 q cc gc (fset h 162 0 (.int (nI 0))) u) g c).2) u ((v217 q cc gc (v211 q cc gc (fset h 162 0 (.int (nI 0))) u) g c).1)).2, 198, sl) = some R := hh
  obtain ⟨n, hh⟩ := en_zn (cc := .lt) (off := 26) (t := 51) (b := pm_cmp .lt ((v213 q cc gc ((v217 q cc gc (v211 q cc gc (fset h 162 0 (.int (nI 0))) u) g c).2) u ((v217 q cc gc (v211 q cc gc (fset h 162 0 (.int (nI 0))) u) g c).1)).1) 0) rfl rfl rfl hh
  cases z10 : pm_cmp .lt ((v213 q cc gc ((v217 q cc gc (v211 q cc gc (fset h 162 0 (.int (nI 0))) u) g c).2) u ((v217 q cc gc (v211 q cc gc (fset h 162 0 (.int (nI 0))) u) g c).1)).1) 0 with
  | true =>
    have hh := en_t z10 hh
    have hh : pm_run PT n fr lo 222 (51, [some (.ref 162), some (.int (nI g)), some (.int (nI c)), some (.int ((v213 q cc gc ((v217 q cc gc (v211 q cc gc (fset h 162 0 (.int (nI 0))) u) g c).2) u ((v217 q cc gc (v211 q cc gc (fset h 162 0 (.int (nI 0))) u) g c).1)).1))], [], (v213 q cc gc ((v217 q cc gc (v211 q cc gc (fset h 162 0 (.int (nI 0))) u) g c).2) u ((v217 q cc gc (v211 q cc gc (fset h 162 0 (.int (nI 0))) u) g c).1)).2, 198, sl) = some R := hh
    obtain ⟨n, hh⟩ := rn_i rfl rfl rfl rfl hh
    have hh : pm_run PT n fr lo 222 (52, [some (.ref 162), some (.int (nI g)), some (.int (nI c)), some (.int ((v213 q cc gc ((v217 q cc gc (v211 q cc gc (fset h 162 0 (.int (nI 0))) u) g c).2) u ((v217 q cc gc (v211 q cc gc (fset h 162 0 (.int (nI 0))) u) g c).1)).1))], [.int ((v213 q cc gc ((v217 q cc gc (v211 q cc gc (fset h 162 0 (.int (nI 0))) u) g c).2) u ((v217 q cc gc (v211 q cc gc (fset h 162 0 (.int (nI 0))) u) g c).1)).1)], (v213 q cc gc ((v217 q cc gc (v211 q cc gc (fset h 162 0 (.int (nI 0))) u) g c).2) u ((v217 q cc gc (v211 q cc gc (fset h 162 0 (.int (nI 0))) u) g c).1)).2, 198, sl) = some R := hh
    have er11 : R = (some (.int ((v213 q cc gc ((v217 q cc gc (v211 q cc gc (fset h 162 0 (.int (nI 0))) u) g c).2) u ((v217 q cc gc (v211 q cc gc (fset h 162 0 (.int (nI 0))) u) g c).1)).1)), (v213 q cc gc ((v217 q cc gc (v211 q cc gc (fset h 162 0 (.int (nI 0))) u) g c).2) u ((v217 q cc gc (v211 q cc gc (fset h 162 0 (.int (nI 0))) u) g c).1)).2, 198, sl) := (rn_ret rfl (Or.inl rfl) hh).2
    have ed : v222 q cc gc h u g c = ((v213 q cc gc ((v217 q cc gc (v211 q cc gc (fset h 162 0 (.int (nI 0))) u) g c).2) u ((v217 q cc gc (v211 q cc gc (fset h 162 0 (.int (nI 0))) u) g c).1)).1, (v213 q cc gc ((v217 q cc gc (v211 q cc gc (fset h 162 0 (.int (nI 0))) u) g c).2) u ((v217 q cc gc (v211 q cc gc (fset h 162 0 (.int (nI 0))) u) g c).1)).2) := (ct z10).trans rfl
    refine ⟨?_, ?_, ?_⟩ <;> rw [ed]
    · exact er11
    · exact hc8
    · exact (fr_g rfl rfl hf9 (fr_g rfl rfl hf6 (fr_g rfl rfl hf3 (fr_f rfl rfl fr_0))))
  | false =>
    have hh := en_f z10 hh
    have hh : pm_run PT n fr lo 222 (28, [some (.ref 162), some (.int (nI g)), some (.int (nI c)), some (.int ((v213 q cc gc ((v217 q cc gc (v211 q cc gc (fset h 162 0 (.int (nI 0))) u) g c).2) u ((v217 q cc gc (v211 q cc gc (fset h 162 0 (.int (nI 0))) u) g c).1)).1))], [], (v213 q cc gc ((v217 q cc gc (v211 q cc gc (fset h 162 0 (.int (nI 0))) u) g c).2) u ((v217 q cc gc (v211 q cc gc (fset h 162 0 (.int (nI 0))) u) g c).1)).2, 198, sl) = some R := hh
    obtain ⟨n, hh⟩ := rn_i rfl rfl rfl rfl hh
    obtain ⟨n, hh⟩ := rn_i rfl rfl rfl rfl hh
    have hh : pm_run PT n fr lo 222 (30, [some (.ref 162), some (.int (nI g)), some (.int (nI c)), some (.int ((v213 q cc gc ((v217 q cc gc (v211 q cc gc (fset h 162 0 (.int (nI 0))) u) g c).2) u ((v217 q cc gc (v211 q cc gc (fset h 162 0 (.int (nI 0))) u) g c).1)).1))], [.int (nI 0), .ref 162], (v213 q cc gc ((v217 q cc gc (v211 q cc gc (fset h 162 0 (.int (nI 0))) u) g c).2) u ((v217 q cc gc (v211 q cc gc (fset h 162 0 (.int (nI 0))) u) g c).1)).2, 198, sl) = some R := hh
    obtain ⟨n, hh⟩ := rn_pi hc8.wt rfl rfl (by decide) rfl (by decide) rfl hh
    obtain ⟨n, hh⟩ := rn_i rfl rfl rfl rfl hh
    obtain ⟨n, hh⟩ := rn_i rfl rfl rfl rfl hh
    have hh : pm_run PT n fr lo 222 (35, [some (.ref 162), some (.int (nI g)), some (.int (nI c)), some (.int ((v213 q cc gc ((v217 q cc gc (v211 q cc gc (fset h 162 0 (.int (nI 0))) u) g c).2) u ((v217 q cc gc (v211 q cc gc (fset h 162 0 (.int (nI 0))) u) g c).1)).1))], [.ref 162, .ref 162], fset ((v213 q cc gc ((v217 q cc gc (v211 q cc gc (fset h 162 0 (.int (nI 0))) u) g c).2) u ((v217 q cc gc (v211 q cc gc (fset h 162 0 (.int (nI 0))) u) g c).1)).2) 162 1 (.int (nI 0)), 198, sl) = some R := hh
    obtain ⟨n, hh⟩ := rn_gi (x := Fi ((v217 q cc gc (v211 q cc gc (fset h 162 0 (.int (nI 0))) u) g c).2) 162 29) (hc_f rfl rfl (by decide) rfl hc8).wt rfl rfl (by decide) rfl (by decide) rfl ((Fi_n (Or.inr (by decide))).trans ((hf9.2 162 29 (by decide +kernel) rfl).trans rfl)) hh
    obtain ⟨n, hh⟩ := rn_i rfl rfl rfl rfl hh
    have hh : pm_run PT n fr lo 222 (39, [some (.ref 162), some (.int (nI g)), some (.int (nI c)), some (.int ((v213 q cc gc ((v217 q cc gc (v211 q cc gc (fset h 162 0 (.int (nI 0))) u) g c).2) u ((v217 q cc gc (v211 q cc gc (fset h 162 0 (.int (nI 0))) u) g c).1)).1))], [.long ((Fi ((v217 q cc gc (v211 q cc gc (fset h 162 0 (.int (nI 0))) u) g c).2) 162 29).toInt64), .ref 162], fset ((v213 q cc gc ((v217 q cc gc (v211 q cc gc (fset h 162 0 (.int (nI 0))) u) g c).2) u ((v217 q cc gc (v211 q cc gc (fset h 162 0 (.int (nI 0))) u) g c).1)).2) 162 1 (.int (nI 0)), 198, sl) = some R := hh
    obtain ⟨n, fr1, lo1, r1, hh1, hh⟩ := rn_call (w := 0) (t := 167) rfl rfl hh
    obtain ⟨er12, hc13, hf14⟩ := v167_ok (v := ((Fi ((v217 q cc gc (v211 q cc gc (fset h 162 0 (.int (nI 0))) u) g c).2) 162 29).toInt64)) (hc_f rfl rfl (by decide) rfl hc8) hh1
    subst er12
    obtain ⟨n, hh⟩ := rn_i rfl rfl rfl rfl hh
    obtain ⟨n, hh⟩ := rn_i rfl rfl rfl rfl hh
    have hh : pm_run PT n fr lo 222 (44, [some (.ref 162), some (.int (nI g)), some (.int (nI c)), some (.int ((v213 q cc gc ((v217 q cc gc (v211 q cc gc (fset h 162 0 (.int (nI 0))) u) g c).2) u ((v217 q cc gc (v211 q cc gc (fset h 162 0 (.int (nI 0))) u) g c).1)).1))], [.ref 162, .ref 162], v167 q cc gc (fset ((v213 q cc gc ((v217 q cc gc (v211 q cc gc (fset h 162 0 (.int (nI 0))) u) g c).2) u ((v217 q cc gc (v211 q cc gc (fset h 162 0 (.int (nI 0))) u) g c).1)).2) 162 1 (.int (nI 0))) ((Fi ((v217 q cc gc (v211 q cc gc (fset h 162 0 (.int (nI 0))) u) g c).2) 162 29).toInt64), 198, sl) = some R := hh
    obtain ⟨n, hh⟩ := rn_gi (x := Fi ((v217 q cc gc (v211 q cc gc (fset h 162 0 (.int (nI 0))) u) g c).2) 162 30) hc13.wt rfl rfl (by decide) rfl (by decide) rfl ((hf14.2 162 30 (by decide +kernel) rfl).trans ((Fi_n (Or.inr (by decide))).trans ((hf9.2 162 30 (by decide +kernel) rfl).trans rfl))) hh
    obtain ⟨n, hh⟩ := rn_i rfl rfl rfl rfl hh
    have hh : pm_run PT n fr lo 222 (48, [some (.ref 162), some (.int (nI g)), some (.int (nI c)), some (.int ((v213 q cc gc ((v217 q cc gc (v211 q cc gc (fset h 162 0 (.int (nI 0))) u) g c).2) u ((v217 q cc gc (v211 q cc gc (fset h 162 0 (.int (nI 0))) u) g c).1)).1))], [.long ((Fi ((v217 q cc gc (v211 q cc gc (fset h 162 0 (.int (nI 0))) u) g c).2) 162 30).toInt64), .ref 162], v167 q cc gc (fset ((v213 q cc gc ((v217 q cc gc (v211 q cc gc (fset h 162 0 (.int (nI 0))) u) g c).2) u ((v217 q cc gc (v211 q cc gc (fset h 162 0 (.int (nI 0))) u) g c).1)).2) 162 1 (.int (nI 0))) ((Fi ((v217 q cc gc (v211 q cc gc (fset h 162 0 (.int (nI 0))) u) g c).2) 162 29).toInt64), 198, sl) = some R := hh
    obtain ⟨n, fr1, lo1, r1, hh1, hh⟩ := rn_call (w := 0) (t := 167) rfl rfl hh
    obtain ⟨er15, hc16, hf17⟩ := v167_ok (v := ((Fi ((v217 q cc gc (v211 q cc gc (fset h 162 0 (.int (nI 0))) u) g c).2) 162 30).toInt64)) hc13 hh1
    subst er15
    obtain ⟨n, hh⟩ := rn_i rfl rfl rfl rfl hh
    have hh : pm_run PT n fr lo 222 (52, [some (.ref 162), some (.int (nI g)), some (.int (nI c)), some (.int ((v213 q cc gc ((v217 q cc gc (v211 q cc gc (fset h 162 0 (.int (nI 0))) u) g c).2) u ((v217 q cc gc (v211 q cc gc (fset h 162 0 (.int (nI 0))) u) g c).1)).1))], [.int ((v213 q cc gc ((v217 q cc gc (v211 q cc gc (fset h 162 0 (.int (nI 0))) u) g c).2) u ((v217 q cc gc (v211 q cc gc (fset h 162 0 (.int (nI 0))) u) g c).1)).1)], v167 q cc gc (v167 q cc gc (fset ((v213 q cc gc ((v217 q cc gc (v211 q cc gc (fset h 162 0 (.int (nI 0))) u) g c).2) u ((v217 q cc gc (v211 q cc gc (fset h 162 0 (.int (nI 0))) u) g c).1)).2) 162 1 (.int (nI 0))) ((Fi ((v217 q cc gc (v211 q cc gc (fset h 162 0 (.int (nI 0))) u) g c).2) 162 29).toInt64)) ((Fi ((v217 q cc gc (v211 q cc gc (fset h 162 0 (.int (nI 0))) u) g c).2) 162 30).toInt64), 198, sl) = some R := hh
    have er18 : R = (some (.int ((v213 q cc gc ((v217 q cc gc (v211 q cc gc (fset h 162 0 (.int (nI 0))) u) g c).2) u ((v217 q cc gc (v211 q cc gc (fset h 162 0 (.int (nI 0))) u) g c).1)).1)), v167 q cc gc (v167 q cc gc (fset ((v213 q cc gc ((v217 q cc gc (v211 q cc gc (fset h 162 0 (.int (nI 0))) u) g c).2) u ((v217 q cc gc (v211 q cc gc (fset h 162 0 (.int (nI 0))) u) g c).1)).2) 162 1 (.int (nI 0))) ((Fi ((v217 q cc gc (v211 q cc gc (fset h 162 0 (.int (nI 0))) u) g c).2) 162 29).toInt64)) ((Fi ((v217 q cc gc (v211 q cc gc (fset h 162 0 (.int (nI 0))) u) g c).2) 162 30).toInt64), 198, sl) := (rn_ret rfl (Or.inl rfl) hh).2
    have ed : v222 q cc gc h u g c = ((v213 q cc gc ((v217 q cc gc (v211 q cc gc (fset h 162 0 (.int (nI 0))) u) g c).2) u ((v217 q cc gc (v211 q cc gc (fset h 162 0 (.int (nI 0))) u) g c).1)).1, v167 q cc gc (v167 q cc gc (fset ((v213 q cc gc ((v217 q cc gc (v211 q cc gc (fset h 162 0 (.int (nI 0))) u) g c).2) u ((v217 q cc gc (v211 q cc gc (fset h 162 0 (.int (nI 0))) u) g c).1)).2) 162 1 (.int (nI 0))) ((Fi ((v217 q cc gc (v211 q cc gc (fset h 162 0 (.int (nI 0))) u) g c).2) 162 29).toInt64)) ((Fi ((v217 q cc gc (v211 q cc gc (fset h 162 0 (.int (nI 0))) u) g c).2) 162 30).toInt64)) := (cf z10).trans rfl
    refine ⟨?_, ?_, ?_⟩ <;> rw [ed]
    · exact er18
    · exact hc16
    · exact (fr_g rfl rfl hf17 (fr_g rfl rfl hf14 (fr_f rfl rfl (fr_g rfl rfl hf9 (fr_g rfl rfl hf6 (fr_g rfl rfl hf3 (fr_f rfl rfl fr_0)))))))
def v223_33b (q : QT) (cc gc : Nat) (h : pm_H) (u : Nat) (m1 : Nat) (t2 : Int32) (i : Nat) : pm_H := v219 q cc gc h
def v223_33 (q : QT) (cc gc : Nat) (u : Nat) (m1 : Nat) (t2 : Int32) (j i : Nat) (a : pm_H) : pm_H := lp (fun i a => v223_33b q cc gc a u m1 t2 i) j i a
theorem v223_33_e {n fr lo sl cc gc : Nat} {q : QT} {h : pm_H} {R : pm_Rs} {u : Nat} {m1 : Nat} {t2 : Int32} {i : Nat} (hw : HC q cc gc h) (h_m1 : m1 < 10000) (hu : u ≤ 15) (e1 : Fi h 162 27 = nI u) (hi : m1 ≤ i) (hI : i < 1000000) (hh : pm_run PT n fr lo 223 (33, [some (.ref 162), some (.int (nI m1)), some (.int t2), some (.int (nI i))], [], h, 198, sl) = some R) : ∃ m, pm_run PT m fr lo 223 (52, [some (.ref 162), some (.int (nI m1)), some (.int t2), some (.int (nI i))], [], h, 198, sl) = some R := by
  have hcc := hw.cb
  have hgc := hw.gb
  have hzr := hw.zr
  obtain ⟨n, hh⟩ := rn_i rfl rfl rfl rfl hh
  obtain ⟨n, hh⟩ := rn_i rfl rfl rfl rfl hh
  have hh : pm_run PT n fr lo 223 (35, [some (.ref 162), some (.int (nI m1)), some (.int t2), some (.int (nI i))], [.int (nI m1), .int (nI i)], h, 198, sl) = some R := hh
  obtain ⟨n, hh⟩ := en_cn (cc := .ge) (off := 17) (t := 52) (b := decide (m1 ≤ i)) (hI_ge (by omega) (by omega)) rfl rfl hh
  have hh := en_t (show decide (m1 ≤ i) = true from decide_eq_true (by omega)) hh
  have hh : pm_run PT n fr lo 223 (52, [some (.ref 162), some (.int (nI m1)), some (.int t2), some (.int (nI i))], [], h, 198, sl) = some R := hh
  exact ⟨n, hh⟩
theorem v223_33_s {n fr lo sl cc gc : Nat} {q : QT} {h : pm_H} {R : pm_Rs} {u : Nat} {m1 : Nat} {t2 : Int32} {i : Nat} (hw : HC q cc gc h) (h_m1 : m1 < 10000) (hu : u ≤ 15) (e1 : Fi h 162 27 = nI u) (hi : i < m1) (hI : i < 1000000) (hh : pm_run PT n fr lo 223 (33, [some (.ref 162), some (.int (nI m1)), some (.int t2), some (.int (nI i))], [], h, 198, sl) = some R) : ∃ m, HC q cc gc ((v223_33b q cc gc h u m1 t2 i)) ∧ frm [170] [] h ((v223_33b q cc gc h u m1 t2 i)) ∧ Fi ((v223_33b q cc gc h u m1 t2 i)) 162 27 = nI u ∧ pm_run PT m fr lo 223 (33, [some (.ref 162), some (.int (nI m1)), some (.int t2), some (.int (nI (i + 1)))], [], (v223_33b q cc gc h u m1 t2 i), 198, sl) = some R := by
  have hcc := hw.cb
  have hgc := hw.gb
  have hzr := hw.zr
  obtain ⟨n, hh⟩ := rn_i rfl rfl rfl rfl hh
  obtain ⟨n, hh⟩ := rn_i rfl rfl rfl rfl hh
  have hh : pm_run PT n fr lo 223 (35, [some (.ref 162), some (.int (nI m1)), some (.int t2), some (.int (nI i))], [.int (nI m1), .int (nI i)], h, 198, sl) = some R := hh
  obtain ⟨n, hh⟩ := en_cn (cc := .ge) (off := 17) (t := 52) (b := decide (m1 ≤ i)) (hI_ge (by omega) (by omega)) rfl rfl hh
  have hh := en_f (show decide (m1 ≤ i) = false from decide_eq_false (by omega)) hh
  have hh : pm_run PT n fr lo 223 (38, [some (.ref 162), some (.int (nI m1)), some (.int t2), some (.int (nI i))], [], h, 198, sl) = some R := hh
  obtain ⟨n, hh⟩ := rn_i rfl rfl rfl rfl hh
  obtain ⟨n, hh⟩ := rn_i rfl rfl rfl rfl hh
  have hh : pm_run PT n fr lo 223 (40, [some (.ref 162), some (.int (nI m1)), some (.int t2), some (.int (nI i))], [.ref 162, .ref 162], h, 198, sl) = some R := hh
  obtain ⟨n, hh⟩ := rn_gr hw.wt rfl rfl (by decide) rfl (by decide) (show _ = some (2, ((170 : Nat) : Int), 1) from rfl) rfl hh
  have hh : pm_run PT n fr lo 223 (43, [some (.ref 162), some (.int (nI m1)), some (.int t2), some (.int (nI i))], [.ref 170, .ref 162], h, 198, sl) = some R := hh
  obtain ⟨n, fr1, lo1, r1, hh1, hh⟩ := rn_call (w := 0) (t := 219) rfl rfl hh
  obtain ⟨er7, hc8, hf9⟩ := v219_ok hw hh1
  subst er7
  have hh : pm_run PT n fr lo 223 (46, [some (.ref 162), some (.int (nI m1)), some (.int t2), some (.int (nI i))], [], v219 q cc gc h, 198, sl) = some R := hh
  obtain ⟨n, hh⟩ := en_inc (x := i) (c := 1) (j := 3) rfl rfl (by decide) hh
  have hh : pm_run PT n fr lo 223 (49, [some (.ref 162), some (.int (nI m1)), some (.int t2), some (.int (nI (i + 1)))], [], v219 q cc gc h, 198, sl) = some R := hh
  obtain ⟨n, hh⟩ := rn_i rfl rfl rfl rfl hh
  have ed : v223_33b q cc gc h u m1 t2 i = v219 q cc gc h := rfl
  rw [ed]
  exact ⟨n, hc8, (fr_g rfl rfl hf9 fr_0), ((hf9.2 162 27 (by decide +kernel) rfl).trans e1), hh⟩
theorem v223_33_ok {fr lo sl cc gc : Nat} {q : QT} {R : pm_Rs} {u : Nat} {m1 : Nat} {t2 : Int32} : ∀ {j i : Nat} {h : pm_H} {n : Nat}, m1 - i = j → i + j < 1000000 → HC q cc gc h → m1 < 10000 → u ≤ 15 → Fi h 162 27 = nI u → pm_run PT n fr lo 223 (33, [some (.ref 162), some (.int (nI m1)), some (.int t2), some (.int (nI i))], [], h, 198, sl) = some R → ∃ m wc, HC q cc gc ((v223_33 q cc gc u m1 t2 j i h)) ∧ frm [170] [] h ((v223_33 q cc gc u m1 t2 j i h)) ∧ Fi ((v223_33 q cc gc u m1 t2 j i h)) 162 27 = nI u ∧ pm_run PT m fr lo 223 (52, [some (.ref 162), some (.int (nI m1)), some (.int t2), wc], [], (v223_33 q cc gc u m1 t2 j i h), 198, sl) = some R := by
  intro j
  induction j with
  | zero =>
    intro i h n e eI hw h_m1 hu e1 hh
    obtain ⟨n, hh⟩ := v223_33_e hw h_m1 hu e1 (by omega) (by omega) hh
    exact ⟨n, _, hw, fr_0, e1, hh⟩
  | succ j ih =>
    intro i h n e eI hw h_m1 hu e1 hh
    obtain ⟨n, hc, hf, e1', hh⟩ := v223_33_s hw h_m1 hu e1 (by omega) (by omega) hh
    obtain ⟨n, wc, hc2, hf2, e1'', hh⟩ := ih (by omega) (by omega) hc h_m1 hu e1' hh
    exact ⟨n, wc, hc2, fr_t hf2 hf, e1'', hh⟩
def v223 (q : QT) (cc gc : Nat) (h : pm_H) (u : Nat) (m : Nat) : Int32 × pm_H := cond (in_b ((nI m).toInt64) (Int64.ofNat 0) (60 : Int64)) ((v212 q cc gc (v167 q cc gc (v167 q cc gc (fset (v223_33 q cc gc u m ((Ar h 170) 94) m 0 (v211 q cc gc (fset h 162 0 (.int (nI 0))) u)) 162 1 (.int (nI 0))) ((((Ar (v223_33 q cc gc u m ((Ar h 170) 94) m 0 (v211 q cc gc (fset h 162 0 (.int (nI 0))) u)) 170) 94) &&& (((Ar h 170) 94) ^^^ (Int32.ofInt (-1)))).toInt64)) ((v177 q cc gc (Ar (v223_33 q cc gc u m ((Ar h 170) 94) m 0 (v211 q cc gc (fset h 162 0 (.int (nI 0))) u)) 170)).toInt64)) u (v270 q cc gc (((Ar (v223_33 q cc gc u m ((Ar h 170) 94) m 0 (v211 q cc gc (fset h 162 0 (.int (nI 0))) u)) 170) 94) &&& (((Ar h 170) 94) ^^^ (Int32.ofInt (-1)))))).1, (v212 q cc gc (v167 q cc gc (v167 q cc gc (fset (v223_33 q cc gc u m ((Ar h 170) 94) m 0 (v211 q cc gc (fset h 162 0 (.int (nI 0))) u)) 162 1 (.int (nI 0))) ((((Ar (v223_33 q cc gc u m ((Ar h 170) 94) m 0 (v211 q cc gc (fset h 162 0 (.int (nI 0))) u)) 170) 94) &&& (((Ar h 170) 94) ^^^ (Int32.ofInt (-1)))).toInt64)) ((v177 q cc gc (Ar (v223_33 q cc gc u m ((Ar h 170) 94) m 0 (v211 q cc gc (fset h 162 0 (.int (nI 0))) u)) 170)).toInt64)) u (v270 q cc gc (((Ar (v223_33 q cc gc u m ((Ar h 170) 94) m 0 (v211 q cc gc (fset h 162 0 (.int (nI 0))) u)) 170) 94) &&& (((Ar h 170) 94) ^^^ (Int32.ofInt (-1)))))).2) ((Int32.ofInt (-1)), fset h 162 0 (.int (nI 0)))
theorem v223_ok {n fr lo sl cc gc : Nat} {q : QT} {h : pm_H} {R : pm_Rs} {u : Nat} {m : Nat} (hw : HC q cc gc h) (h_m : m < 10000) (hu : u ≤ 15) (e1 : Fi h 162 27 = nI u) (hh : pm_run PT n fr lo 223 (0, pm_l0 [.ref 162, .int (nI m)] 4, [], h, 198, sl) = some R) : R = (some (.int ((v223 q cc gc h u m).1)), (v223 q cc gc h u m).2, 198, sl) ∧ HC q cc gc ((v223 q cc gc h u m).2) ∧ frm [162, 163, 170, 178] [(162, 0), (162, 1), (162, 27)] h ((v223 q cc gc h u m).2) := by
  have hcc := hw.cb
  have hgc := hw.gb
  have hzr := hw.zr
  obtain ⟨n, hh⟩ := rn_i rfl rfl rfl rfl hh
  obtain ⟨n, hh⟩ := rn_i rfl rfl rfl rfl hh
  have hh : pm_run PT n fr lo 223 (2, [some (.ref 162), some (.int (nI m)), none, none], [.int (nI 0), .ref 162], h, 198, sl) = some R := hh
  obtain ⟨n, hh⟩ := rn_pi hw.wt rfl rfl (by decide) rfl (by decide) rfl hh
  obtain ⟨n, hh⟩ := rn_i rfl rfl rfl rfl hh
  obtain ⟨n, hh⟩ := rn_i rfl rfl rfl rfl hh
  obtain ⟨n, hh⟩ := rn_i rfl rfl rfl rfl hh
  obtain ⟨n, hh⟩ := rn_i rfl rfl rfl rfl hh
  have hh : pm_run PT n fr lo 223 (11, [some (.ref 162), some (.int (nI m)), none, none], [.long (60 : Int64), .long (Int64.ofNat 0), .long ((nI m).toInt64)], fset h 162 0 (.int (nI 0)), 198, sl) = some R := hh
  obtain ⟨n, fr1, lo1, r1, hh1, hh⟩ := rn_call (w := 2) (t := 163) rfl rfl hh
  have er1 := rn_dt (F := 10) (Lo := 1000) (hd_in (fr := 10) (lo := 1000) (h := fset h 162 0 (.int (nI 0))) (sl := sl) ((nI m).toInt64) (Int64.ofNat 0) (60 : Int64)) hh1
  subst er1
  have hh : pm_run PT n fr lo 223 (14, [some (.ref 162), some (.int (nI m)), none, none], [.int (cond (in_b ((nI m).toInt64) (Int64.ofNat 0) (60 : Int64)) 1 0)], fset h 162 0 (.int (nI 0)), 198, sl) = some R := hh
  obtain ⟨n, hh⟩ := en_zn (cc := .ne) (off := 5) (t := 19) (b := in_b ((nI m).toInt64) (Int64.ofNat 0) (60 : Int64)) eb_ne rfl rfl hh
  cases z2 : in_b ((nI m).toInt64) (Int64.ofNat 0) (60 : Int64) with
  | true =>
    have hh := en_t z2 hh
    have hh : pm_run PT n fr lo 223 (19, [some (.ref 162), some (.int (nI m)), none, none], [], fset h 162 0 (.int (nI 0)), 198, sl) = some R := hh
    obtain ⟨n, hh⟩ := rn_i rfl rfl rfl rfl hh
    have hh : pm_run PT n fr lo 223 (20, [some (.ref 162), some (.int (nI m)), none, none], [.ref 162], fset h 162 0 (.int (nI 0)), 198, sl) = some R := hh
    obtain ⟨n, fr1, lo1, r1, hh1, hh⟩ := rn_call (w := 0) (t := 211) rfl rfl hh
    obtain ⟨er3, hc4, hf5⟩ := v211_ok (u := u) (hc_f rfl rfl (by decide) rfl hw) hu ((Fi_n (Or.inr (by decide))).trans e1) hh1
    subst er3
    obtain ⟨n, hh⟩ := rn_i rfl rfl rfl rfl hh
    have hh : pm_run PT n fr lo 223 (24, [some (.ref 162), some (.int (nI m)), none, none], [.ref 162], v211 q cc gc (fset h 162 0 (.int (nI 0))) u, 198, sl) = some R := hh
    obtain ⟨n, hh⟩ := rn_gr hc4.wt rfl rfl (by decide) rfl (by decide) (show _ = some (2, ((170 : Nat) : Int), 1) from rfl) rfl hh
    obtain ⟨n, hh⟩ := rn_i rfl rfl rfl rfl hh
    have hh : pm_run PT n fr lo 223 (29, [some (.ref 162), some (.int (nI m)), none, none], [.int (nI 94), .ref 170], v211 q cc gc (fset h 162 0 (.int (nI 0))) u, 198, sl) = some R := hh
    obtain ⟨n, hx6, hh⟩ := en_lu (t := 94) (f := Ar h 170) (w := (Ar h 170) 94) (nI_clamp (by omega)) hc4.wt rfl (by decide) rfl (by decide) ((Ar_e (hf5.1 170 rfl)).trans (Ar_f.trans rfl)) (fun _ => rfl) hh
    obtain ⟨n, hh⟩ := rn_i rfl rfl rfl rfl hh
    obtain ⟨n, hh⟩ := rn_i rfl rfl rfl rfl hh
    obtain ⟨n, hh⟩ := rn_i rfl rfl rfl rfl hh
    have hh : pm_run PT n fr lo 223 (33, [some (.ref 162), some (.int (nI m)), some (.int ((Ar h 170) 94)), some (.int (nI 0))], [], v211 q cc gc (fset h 162 0 (.int (nI 0))) u, 198, sl) = some R := hh
    obtain ⟨n, u7, hc8, hf9, _, hh⟩ := v223_33_ok (m1 := m) (t2 := ((Ar h 170) 94))  (i := 0) (j := m) (by omega) (by omega) hc4 (by omega) hu ((hf5.2 162 27 (by decide +kernel) rfl).trans ((Fi_n (Or.inr (by decide))).trans e1)) hh
    have hh : pm_run PT n fr lo 223 (52, [some (.ref 162), some (.int (nI m)), some (.int ((Ar h 170) 94)), u7], [], (v223_33 q cc gc u m ((Ar h 170) 94) m 0 (v211 q cc gc (fset h 162 0 (.int (nI 0))) u)), 198, sl) = some R := hh
    obtain ⟨n, hh⟩ := rn_i rfl rfl rfl rfl hh
    obtain ⟨n, hh⟩ := rn_i rfl rfl rfl rfl hh
    have hh : pm_run PT n fr lo 223 (54, [some (.ref 162), some (.int (nI m)), some (.int ((Ar h 170) 94)), u7], [.int (nI 0), .ref 162], (v223_33 q cc gc u m ((Ar h 170) 94) m 0 (v211 q cc gc (fset h 162 0 (.int (nI 0))) u)), 198, sl) = some R := hh
    obtain ⟨n, hh⟩ := rn_pi hc8.wt rfl rfl (by decide) rfl (by decide) rfl hh
    obtain ⟨n, hh⟩ := rn_i rfl rfl rfl rfl hh
    obtain ⟨n, hh⟩ := rn_i rfl rfl rfl rfl hh
    have hh : pm_run PT n fr lo 223 (59, [some (.ref 162), some (.int (nI m)), some (.int ((Ar h 170) 94)), u7], [.ref 162, .ref 162], fset (v223_33 q cc gc u m ((Ar h 170) 94) m 0 (v211 q cc gc (fset h 162 0 (.int (nI 0))) u)) 162 1 (.int (nI 0)), 198, sl) = some R := hh
    obtain ⟨n, hh⟩ := rn_gr (hc_f rfl rfl (by decide) rfl hc8).wt rfl rfl (by decide) rfl (by decide) (show _ = some (2, ((170 : Nat) : Int), 1) from rfl) rfl hh
    obtain ⟨n, hh⟩ := rn_i rfl rfl rfl rfl hh
    have hh : pm_run PT n fr lo 223 (64, [some (.ref 162), some (.int (nI m)), some (.int ((Ar h 170) 94)), u7], [.int (nI 94), .ref 170, .ref 162], fset (v223_33 q cc gc u m ((Ar h 170) 94) m 0 (v211 q cc gc (fset h 162 0 (.int (nI 0))) u)) 162 1 (.int (nI 0)), 198, sl) = some R := hh
    obtain ⟨n, hx10, hh⟩ := en_lu (t := 94) (f := Ar (v223_33 q cc gc u m ((Ar h 170) 94) m 0 (v211 q cc gc (fset h 162 0 (.int (nI 0))) u)) 170) (w := (Ar (v223_33 q cc gc u m ((Ar h 170) 94) m 0 (v211 q cc gc (fset h 162 0 (.int (nI 0))) u)) 170) 94) (nI_clamp (by omega)) (hc_f rfl rfl (by decide) rfl hc8).wt rfl (by decide) rfl (by decide) (Ar_f.trans rfl) (fun _ => rfl) hh
    obtain ⟨n, hh⟩ := rn_i rfl rfl rfl rfl hh
    obtain ⟨n, hh⟩ := rn_i rfl rfl rfl rfl hh
    obtain ⟨n, hh⟩ := rn_i rfl rfl rfl rfl hh
    obtain ⟨n, hh⟩ := rn_i rfl rfl rfl rfl hh
    obtain ⟨n, hh⟩ := rn_i rfl rfl rfl rfl hh
    have hh : pm_run PT n fr lo 223 (70, [some (.ref 162), some (.int (nI m)), some (.int ((Ar h 170) 94)), u7], [.long ((((Ar (v223_33 q cc gc u m ((Ar h 170) 94) m 0 (v211 q cc gc (fset h 162 0 (.int (nI 0))) u)) 170) 94) &&& (((Ar h 170) 94) ^^^ (Int32.ofInt (-1)))).toInt64), .ref 162], fset (v223_33 q cc gc u m ((Ar h 170) 94) m 0 (v211 q cc gc (fset h 162 0 (.int (nI 0))) u)) 162 1 (.int (nI 0)), 198, sl) = some R := hh
    obtain ⟨n, fr1, lo1, r1, hh1, hh⟩ := rn_call (w := 0) (t := 167) rfl rfl hh
    obtain ⟨er11, hc12, hf13⟩ := v167_ok (v := ((((Ar (v223_33 q cc gc u m ((Ar h 170) 94) m 0 (v211 q cc gc (fset h 162 0 (.int (nI 0))) u)) 170) 94) &&& (((Ar h 170) 94) ^^^ (Int32.ofInt (-1)))).toInt64)) (hc_f rfl rfl (by decide) rfl hc8) hh1
    subst er11
    obtain ⟨n, hh⟩ := rn_i rfl rfl rfl rfl hh
    obtain ⟨n, hh⟩ := rn_i rfl rfl rfl rfl hh
    obtain ⟨n, hh⟩ := rn_i rfl rfl rfl rfl hh
    have hh : pm_run PT n fr lo 223 (76, [some (.ref 162), some (.int (nI m)), some (.int ((Ar h 170) 94)), u7], [.ref 162, .ref 162, .ref 162], v167 q cc gc (fset (v223_33 q cc gc u m ((Ar h 170) 94) m 0 (v211 q cc gc (fset h 162 0 (.int (nI 0))) u)) 162 1 (.int (nI 0))) ((((Ar (v223_33 q cc gc u m ((Ar h 170) 94) m 0 (v211 q cc gc (fset h 162 0 (.int (nI 0))) u)) 170) 94) &&& (((Ar h 170) 94) ^^^ (Int32.ofInt (-1)))).toInt64), 198, sl) = some R := hh
    obtain ⟨n, hh⟩ := rn_gr hc12.wt rfl rfl (by decide) rfl (by decide) (show _ = some (2, ((170 : Nat) : Int), 1) from rfl) rfl hh
    have hh : pm_run PT n fr lo 223 (79, [some (.ref 162), some (.int (nI m)), some (.int ((Ar h 170) 94)), u7], [.ref 170, .ref 162, .ref 162], v167 q cc gc (fset (v223_33 q cc gc u m ((Ar h 170) 94) m 0 (v211 q cc gc (fset h 162 0 (.int (nI 0))) u)) 162 1 (.int (nI 0))) ((((Ar (v223_33 q cc gc u m ((Ar h 170) 94) m 0 (v211 q cc gc (fset h 162 0 (.int (nI 0))) u)) 170) 94) &&& (((Ar h 170) 94) ^^^ (Int32.ofInt (-1)))).toInt64), 198, sl) = some R := hh
    obtain ⟨n, fr1, lo1, r1, hh1, hh⟩ := rn_call (w := 0) (t := 177) rfl rfl hh
    have er14 := v177_ok hc12 hh1
    rw [show Ar (v167 q cc gc (fset (v223_33 q cc gc u m ((Ar h 170) 94) m 0 (v211 q cc gc (fset h 162 0 (.int (nI 0))) u)) 162 1 (.int (nI 0))) ((((Ar (v223_33 q cc gc u m ((Ar h 170) 94) m 0 (v211 q cc gc (fset h 162 0 (.int (nI 0))) u)) 170) 94) &&& (((Ar h 170) 94) ^^^ (Int32.ofInt (-1)))).toInt64)) 170 = Ar (v223_33 q cc gc u m ((Ar h 170) 94) m 0 (v211 q cc gc (fset h 162 0 (.int (nI 0))) u)) 170 from ((Ar_e (hf13.1 170 rfl)).trans (Ar_f.trans rfl))] at er14
    subst er14
    obtain ⟨n, hh⟩ := rn_i rfl rfl rfl rfl hh
    have hh : pm_run PT n fr lo 223 (83, [some (.ref 162), some (.int (nI m)), some (.int ((Ar h 170) 94)), u7], [.long ((v177 q cc gc (Ar (v223_33 q cc gc u m ((Ar h 170) 94) m 0 (v211 q cc gc (fset h 162 0 (.int (nI 0))) u)) 170)).toInt64), .ref 162], v167 q cc gc (fset (v223_33 q cc gc u m ((Ar h 170) 94) m 0 (v211 q cc gc (fset h 162 0 (.int (nI 0))) u)) 162 1 (.int (nI 0))) ((((Ar (v223_33 q cc gc u m ((Ar h 170) 94) m 0 (v211 q cc gc (fset h 162 0 (.int (nI 0))) u)) 170) 94) &&& (((Ar h 170) 94) ^^^ (Int32.ofInt (-1)))).toInt64), 198, sl) = some R := hh
    obtain ⟨n, fr1, lo1, r1, hh1, hh⟩ := rn_call (w := 0) (t := 167) rfl rfl hh
    obtain ⟨er15, hc16, hf17⟩ := v167_ok (v := ((v177 q cc gc (Ar (v223_33 q cc gc u m ((Ar h 170) 94) m 0 (v211 q cc gc (fset h 162 0 (.int (nI 0))) u)) 170)).toInt64)) hc12 hh1
    subst er15
    obtain ⟨n, hh⟩ := rn_i rfl rfl rfl rfl hh
    obtain ⟨n, hh⟩ := rn_i rfl rfl rfl rfl hh
    have hh : pm_run PT n fr lo 223 (88, [some (.ref 162), some (.int (nI m)), some (.int ((Ar h 170) 94)), u7], [.ref 162, .ref 162], v167 q cc gc (v167 q cc gc (fset (v223_33 q cc gc u m ((Ar h 170) 94) m 0 (v211 q cc gc (fset h 162 0 (.int (nI 0))) u)) 162 1 (.int (nI 0))) ((((Ar (v223_33 q cc gc u m ((Ar h 170) 94) m 0 (v211 q cc gc (fset h 162 0 (.int (nI 0))) u)) 170) 94) &&& (((Ar h 170) 94) ^^^ (Int32.ofInt (-1)))).toInt64)) ((v177 q cc gc (Ar (v223_33 q cc gc u m ((Ar h 170) 94) m 0 (v211 q cc gc (fset h 162 0 (.int (nI 0))) u)) 170)).toInt64), 198, sl) = some R := hh
    obtain ⟨n, hh⟩ := rn_gr hc16.wt rfl rfl (by decide) rfl (by decide) (show _ = some (2, ((170 : Nat) : Int), 1) from rfl) rfl hh
    obtain ⟨n, hh⟩ := rn_i rfl rfl rfl rfl hh
    have hh : pm_run PT n fr lo 223 (93, [some (.ref 162), some (.int (nI m)), some (.int ((Ar h 170) 94)), u7], [.int (nI 94), .ref 170, .ref 162], v167 q cc gc (v167 q cc gc (fset (v223_33 q cc gc u m ((Ar h 170) 94) m 0 (v211 q cc gc (fset h 162 0 (.int (nI 0))) u)) 162 1 (.int (nI 0))) ((((Ar (v223_33 q cc gc u m ((Ar h 170) 94) m 0 (v211 q cc gc (fset h 162 0 (.int (nI 0))) u)) 170) 94) &&& (((Ar h 170) 94) ^^^ (Int32.ofInt (-1)))).toInt64)) ((v177 q cc gc (Ar (v223_33 q cc gc u m ((Ar h 170) 94) m 0 (v211 q cc gc (fset h 162 0 (.int (nI 0))) u)) 170)).toInt64), 198, sl) = some R := hh
    obtain ⟨n, hx18, hh⟩ := en_lu (t := 94) (f := Ar (v223_33 q cc gc u m ((Ar h 170) 94) m 0 (v211 q cc gc (fset h 162 0 (.int (nI 0))) u)) 170) (w := (Ar (v223_33 q cc gc u m ((Ar h 170) 94) m 0 (v211 q cc gc (fset h 162 0 (.int (nI 0))) u)) 170) 94) (nI_clamp (by omega)) hc16.wt rfl (by decide) rfl (by decide) ((Ar_e (hf17.1 170 rfl)).trans ((Ar_e (hf13.1 170 rfl)).trans (Ar_f.trans rfl))) (fun _ => rfl) hh
    obtain ⟨n, hh⟩ := rn_i rfl rfl rfl rfl hh
    obtain ⟨n, hh⟩ := rn_i rfl rfl rfl rfl hh
    obtain ⟨n, hh⟩ := rn_i rfl rfl rfl rfl hh
    obtain ⟨n, hh⟩ := rn_i rfl rfl rfl rfl hh
    have hh : pm_run PT n fr lo 223 (98, [some (.ref 162), some (.int (nI m)), some (.int ((Ar h 170) 94)), u7], [.int (((Ar (v223_33 q cc gc u m ((Ar h 170) 94) m 0 (v211 q cc gc (fset h 162 0 (.int (nI 0))) u)) 170) 94) &&& (((Ar h 170) 94) ^^^ (Int32.ofInt (-1)))), .ref 162], v167 q cc gc (v167 q cc gc (fset (v223_33 q cc gc u m ((Ar h 170) 94) m 0 (v211 q cc gc (fset h 162 0 (.int (nI 0))) u)) 162 1 (.int (nI 0))) ((((Ar (v223_33 q cc gc u m ((Ar h 170) 94) m 0 (v211 q cc gc (fset h 162 0 (.int (nI 0))) u)) 170) 94) &&& (((Ar h 170) 94) ^^^ (Int32.ofInt (-1)))).toInt64)) ((v177 q cc gc (Ar (v223_33 q cc gc u m ((Ar h 170) 94) m 0 (v211 q cc gc (fset h 162 0 (.int (nI 0))) u)) 170)).toInt64), 198, sl) = some R := hh
    obtain ⟨n, fr1, lo1, r1, hh1, hh⟩ := rn_call (w := 2) (t := 270) rfl rfl hh
    have er19 := v270_ok (a := (((Ar (v223_33 q cc gc u m ((Ar h 170) 94) m 0 (v211 q cc gc (fset h 162 0 (.int (nI 0))) u)) 170) 94) &&& (((Ar h 170) 94) ^^^ (Int32.ofInt (-1))))) hc16 hh1
    subst er19
    have hh : pm_run PT n fr lo 223 (101, [some (.ref 162), some (.int (nI m)), some (.int ((Ar h 170) 94)), u7], [.int (v270 q cc gc (((Ar (v223_33 q cc gc u m ((Ar h 170) 94) m 0 (v211 q cc gc (fset h 162 0 (.int (nI 0))) u)) 170) 94) &&& (((Ar h 170) 94) ^^^ (Int32.ofInt (-1))))), .ref 162], v167 q cc gc (v167 q cc gc (fset (v223_33 q cc gc u m ((Ar h 170) 94) m 0 (v211 q cc gc (fset h 162 0 (.int (nI 0))) u)) 162 1 (.int (nI 0))) ((((Ar (v223_33 q cc gc u m ((Ar h 170) 94) m 0 (v211 q cc gc (fset h 162 0 (.int (nI 0))) u)) 170) 94) &&& (((Ar h 170) 94) ^^^ (Int32.ofInt (-1)))).toInt64)) ((v177 q cc gc (Ar (v223_33 q cc gc u m ((Ar h 170) 94) m 0 (v211 q cc gc (fset h 162 0 (.int (nI 0))) u)) 170)).toInt64), 198, sl) = some R := hh
    obtain ⟨n, fr1, lo1, r1, hh1, hh⟩ := rn_call (w := 0) (t := 212) rfl rfl hh
    obtain ⟨er20, hc21, hf22⟩ := v212_ok (u := u) (v := (v270 q cc gc (((Ar (v223_33 q cc gc u m ((Ar h 170) 94) m 0 (v211 q cc gc (fset h 162 0 (.int (nI 0))) u)) 170) 94) &&& (((Ar h 170) 94) ^^^ (Int32.ofInt (-1)))))) hc16 hu ((hf17.2 162 27 (by decide +kernel) rfl).trans ((hf13.2 162 27 (by decide +kernel) rfl).trans ((Fi_n (Or.inr (by decide))).trans ((hf9.2 162 27 (by decide +kernel) rfl).trans ((hf5.2 162 27 (by decide +kernel) rfl).trans ((Fi_n (Or.inr (by decide))).trans e1)))))) hh1
    subst er20
    have hh : pm_run PT n fr lo 223 (104, [some (.ref 162), some (.int (nI m)), some (.int ((Ar h 170) 94)), u7], [.int ((v212 q cc gc (v167 q cc gc (v167 q cc gc (fset (v223_33 q cc gc u m ((Ar h 170) 94) m 0 (v211 q cc gc (fset h 162 0 (.int (nI 0))) u)) 162 1 (.int (nI 0))) ((((Ar (v223_33 q cc gc u m ((Ar h 170) 94) m 0 (v211 q cc gc (fset h 162 0 (.int (nI 0))) u)) 170) 94) &&& (((Ar h 170) 94) ^^^ (Int32.ofInt (-1)))).toInt64)) ((v177 q cc gc (Ar (v223_33 q cc gc u m ((Ar h 170) 94) m 0 (v211 q cc gc (fset h 162 0 (.int (nI 0))) u)) 170)).toInt64)) u (v270 q cc gc (((Ar (v223_33 q cc gc u m ((Ar h 170) 94) m 0 (v211 q cc gc (fset h 162 0 (.int (nI 0))) u)) 170) 94) &&& (((Ar h 170) 94) ^^^ (Int32.ofInt (-1)))))).1)], (v212 q cc gc (v167 q cc gc (v167 q cc gc (fset (v223_33 q cc gc u m ((Ar h 170) 94) m 0 (v211 q cc gc (fset h 162 0 (.int (nI 0))) u)) 162 1 (.int (nI 0))) ((((Ar (v223_33 q cc gc u m ((Ar h 170) 94) m 0 (v211 q cc gc (fset h 162 0 (.int (nI 0))) u)) 170) 94) &&& (((Ar h 170) 94) ^^^ (Int32.ofInt (-1)))).toInt64)) ((v177 q cc gc (Ar (v223_33 q cc gc u m ((Ar h 170) 94) m 0 (v211 q cc gc (fset h 162 0 (.int (nI 0))) u)) 170)).toInt64)) u (v270 q cc gc (((Ar (v223_33 q cc gc u m ((Ar h 170) 94) m 0 (v211 q cc gc (fset h 162 0 (.int (nI 0))) u)) 170) 94) &&& (((Ar h 170) 94) ^^^ (Int32.ofInt (-1)))))).2, 198, sl) = some R := hh
    have er23 : R = (some (.int ((v212 q cc gc (v167 q cc gc (v167 q cc gc (fset (v223_33 q cc gc u m ((Ar h 170) 94) m 0 (v211 q cc gc (fset h 162 0 (.int (nI 0))) u)) 162 1 (.int (nI 0))) ((((Ar (v223_33 q cc gc u m ((Ar h 170) 94) m 0 (v211 q cc gc (fset h 162 0 (.int (nI 0))) u)) 170) 94) &&& (((Ar h 170) 94) ^^^ (Int32.ofInt (-1)))).toInt64)) ((v177 q cc gc (Ar (v223_33 q cc gc u m ((Ar h 170) 94) m 0 (v211 q cc gc (fset h 162 0 (.int (nI 0))) u)) 170)).toInt64)) u (v270 q cc gc (((Ar (v223_33 q cc gc u m ((Ar h 170) 94) m 0 (v211 q cc gc (fset h 162 0 (.int (nI 0))) u)) 170) 94) &&& (((Ar h 170) 94) ^^^ (Int32.ofInt (-1)))))).1)), (v212 q cc gc (v167 q cc gc (v167 q cc gc (fset (v223_33 q cc gc u m ((Ar h 170) 94) m 0 (v211 q cc gc (fset h 162 0 (.int (nI 0))) u)) 162 1 (.int (nI 0))) ((((Ar (v223_33 q cc gc u m ((Ar h 170) 94) m 0 (v211 q cc gc (fset h 162 0 (.int (nI 0))) u)) 170) 94) &&& (((Ar h 170) 94) ^^^ (Int32.ofInt (-1)))).toInt64)) ((v177 q cc gc (Ar (v223_33 q cc gc u m ((Ar h 170) 94) m 0 (v211 q cc gc (fset h 162 0 (.int (nI 0))) u)) 170)).toInt64)) u (v270 q cc gc (((Ar (v223_33 q cc gc u m ((Ar h 170) 94) m 0 (v211 q cc gc (fset h 162 0 (.int (nI 0))) u)) 170) 94) &&& (((Ar h 170) 94) ^^^ (Int32.ofInt (-1)))))).2, 198, sl) := (rn_ret rfl (Or.inl rfl) hh).2
    have ed : v223 q cc gc h u m = ((v212 q cc gc (v167 q cc gc (v167 q cc gc (fset (v223_33 q cc gc u m ((Ar h 170) 94) m 0 (v211 q cc gc (fset h 162 0 (.int (nI 0))) u)) 162 1 (.int (nI 0))) ((((Ar (v223_33 q cc gc u m ((Ar h 170) 94) m 0 (v211 q cc gc (fset h 162 0 (.int (nI 0))) u)) 170) 94) &&& (((Ar h 170) 94) ^^^ (Int32.ofInt (-1)))).toInt64)) ((v177 q cc gc (Ar (v223_33 q cc gc u m ((Ar h 170) 94) m 0 (v211 q cc gc (fset h 162 0 (.int (nI 0))) u)) 170)).toInt64)) u (v270 q cc gc (((Ar (v223_33 q cc gc u m ((Ar h 170) 94) m 0 (v211 q cc gc (fset h 162 0 (.int (nI 0))) u)) 170) 94) &&& (((Ar h 170) 94) ^^^ (Int32.ofInt (-1)))))).1, (v212 q cc gc (v167 q cc gc (v167 q cc gc (fset (v223_33 q cc gc u m ((Ar h 170) 94) m 0 (v211 q cc gc (fset h 162 0 (.int (nI 0))) u)) 162 1 (.int (nI 0))) ((((Ar (v223_33 q cc gc u m ((Ar h 170) 94) m 0 (v211 q cc gc (fset h 162 0 (.int (nI 0))) u)) 170) 94) &&& (((Ar h 170) 94) ^^^ (Int32.ofInt (-1)))).toInt64)) ((v177 q cc gc (Ar (v223_33 q cc gc u m ((Ar h 170) 94) m 0 (v211 q cc gc (fset h 162 0 (.int (nI 0))) u)) 170)).toInt64)) u (v270 q cc gc (((Ar (v223_33 q cc gc u m ((Ar h 170) 94) m 0 (v211 q cc gc (fset h 162 0 (.int (nI 0))) u)) 170) 94) &&& (((Ar h 170) 94) ^^^ (Int32.ofInt (-1)))))).2) := (ct z2).trans rfl
    refine ⟨?_, ?_, ?_⟩ <;> rw [ed]
    · exact er23
    · exact hc21
    · exact (fr_g rfl rfl hf22 (fr_g rfl rfl hf17 (fr_g rfl rfl hf13 (fr_f rfl rfl (fr_g rfl rfl hf9 (fr_g rfl rfl hf5 (fr_f rfl rfl fr_0)))))))
  | false =>
    have hh := en_f z2 hh
    have hh : pm_run PT n fr lo 223 (17, [some (.ref 162), some (.int (nI m)), none, none], [], fset h 162 0 (.int (nI 0)), 198, sl) = some R := hh
    obtain ⟨n, hh⟩ := rn_i rfl rfl rfl rfl hh
    have hh : pm_run PT n fr lo 223 (18, [some (.ref 162), some (.int (nI m)), none, none], [.int (Int32.ofInt (-1))], fset h 162 0 (.int (nI 0)), 198, sl) = some R := hh
    have er24 : R = (some (.int (Int32.ofInt (-1))), fset h 162 0 (.int (nI 0)), 198, sl) := (rn_ret rfl (Or.inl rfl) hh).2
    have ed : v223 q cc gc h u m = ((Int32.ofInt (-1)), fset h 162 0 (.int (nI 0))) := (cf z2).trans rfl
    refine ⟨?_, ?_, ?_⟩ <;> rw [ed]
    · exact er24
    · exact (hc_f rfl rfl (by decide) rfl hw)
    · exact (fr_f rfl rfl fr_0)
def v224 (q : QT) (cc gc : Nat) (h : pm_H) (u : Nat) (a : Nat) (b : Nat) (m : Int32) : Int32 × pm_H := ((v213 q cc gc ((v220 q cc gc (v211 q cc gc (fset h 162 0 (.int (nI 0))) u) a b m).2) u ((v220 q cc gc (v211 q cc gc (fset h 162 0 (.int (nI 0))) u) a b m).1)).1, (v213 q cc gc ((v220 q cc gc (v211 q cc gc (fset h 162 0 (.int (nI 0))) u) a b m).2) u ((v220 q cc gc (v211 q cc gc (fset h 162 0 (.int (nI 0))) u) a b m).1)).2)
theorem v224_ok {n fr lo sl cc gc : Nat} {q : QT} {h : pm_H} {R : pm_Rs} {u : Nat} {a : Nat} {b : Nat} {m : Int32} (hw : HC q cc gc h) (h_a : a < 10000) (h_b : b < 10000) (hu : u ≤ 15) (e1 : Fi h 162 27 = nI u) (hh : pm_run PT n fr lo 224 (0, pm_l0 [.ref 162, .int (nI a), .int (nI b), .int m] 4, [], h, 198, sl) = some R) : R = (some (.int ((v224 q cc gc h u a b m).1)), (v224 q cc gc h u a b m).2, 198, sl) ∧ HC q cc gc ((v224 q cc gc h u a b m).2) ∧ frm [162, 170, 178] [(162, 0), (162, 27)] h ((v224 q cc gc h u a b m).2) := by
  have hcc := hw.cb
  have hgc := hw.gb
  have hzr := hw.zr
  obtain ⟨n, hh⟩ := rn_i rfl rfl rfl rfl hh
  obtain ⟨n, hh⟩ := rn_i rfl rfl rfl rfl hh
  have hh : pm_run PT n fr lo 224 (2, [some (.ref 162), some (.int (nI a)), some (.int (nI b)), some (.int m)], [.int (nI 0), .ref 162], h, 198, sl) = some R := hh
  obtain ⟨n, hh⟩ := rn_pi hw.wt rfl rfl (by decide) rfl (by decide) rfl hh
  obtain ⟨n, hh⟩ := rn_i rfl rfl rfl rfl hh
  have hh : pm_run PT n fr lo 224 (6, [some (.ref 162), some (.int (nI a)), some (.int (nI b)), some (.int m)], [.ref 162], fset h 162 0 (.int (nI 0)), 198, sl) = some R := hh
  obtain ⟨n, fr1, lo1, r1, hh1, hh⟩ := rn_call (w := 0) (t := 211) rfl rfl hh
  obtain ⟨er1, hc2, hf3⟩ := v211_ok (u := u) (hc_f rfl rfl (by decide) rfl hw) hu ((Fi_n (Or.inr (by decide))).trans e1) hh1
  subst er1
  obtain ⟨n, hh⟩ := rn_i rfl rfl rfl rfl hh
  obtain ⟨n, hh⟩ := rn_i rfl rfl rfl rfl hh
  obtain ⟨n, hh⟩ := rn_i rfl rfl rfl rfl hh
  obtain ⟨n, hh⟩ := rn_i rfl rfl rfl rfl hh
  obtain ⟨n, hh⟩ := rn_i rfl rfl rfl rfl hh
  have hh : pm_run PT n fr lo 224 (14, [some (.ref 162), some (.int (nI a)), some (.int (nI b)), some (.int m)], [.int m, .int (nI b), .int (nI a), .ref 162, .ref 162], v211 q cc gc (fset h 162 0 (.int (nI 0))) u, 198, sl) = some R := hh
  obtain ⟨n, fr1, lo1, r1, hh1, hh⟩ := rn_call (w := 0) (t := 220) rfl rfl hh
  obtain ⟨er4, hc5, hf6⟩ := v220_ok (a := a) (b := b) (m := m) hc2 (by omega) (by omega) hh1
  subst er4
  have hh : pm_run PT n fr lo 224 (17, [some (.ref 162), some (.int (nI a)), some (.int (nI b)), some (.int m)], [.int ((v220 q cc gc (v211 q cc gc (fset h 162 0 (.int (nI 0))) u) a b m).1), .ref 162], (v220 q cc gc (v211 q cc gc (fset h 162 0 (.int (nI 0))) u) a b m).2, 198, sl) = some R := hh
  obtain ⟨n, fr1, lo1, r1, hh1, hh⟩ := rn_call (w := 0) (t := 213) rfl rfl hh
  obtain ⟨er7, hc8, hf9⟩ := v213_ok (u := u) (v := ((v220 q cc gc (v211 q cc gc (fset h 162 0 (.int (nI 0))) u) a b m).1)) hc5 hu ((hf6.2 162 27 (by decide +kernel) rfl).trans ((hf3.2 162 27 (by decide +kernel) rfl).trans ((Fi_n (Or.inr (by decide))).trans e1))) hh1
  subst er7
  have hh : pm_run PT n fr lo 224 (20, [some (.ref 162), some (.int (nI a)), some (.int (nI b)), some (.int m)], [.int ((v213 q cc gc ((v220 q cc gc (v211 q cc gc (fset h 162 0 (.int (nI 0))) u) a b m).2) u ((v220 q cc gc (v211 q cc gc (fset h 162 0 (.int (nI 0))) u) a b m).1)).1)], (v213 q cc gc ((v220 q cc gc (v211 q cc gc (fset h 162 0 (.int (nI 0))) u) a b m).2) u ((v220 q cc gc (v211 q cc gc (fset h 162 0 (.int (nI 0))) u) a b m).1)).2, 198, sl) = some R := hh
  have er10 : R = (some (.int ((v213 q cc gc ((v220 q cc gc (v211 q cc gc (fset h 162 0 (.int (nI 0))) u) a b m).2) u ((v220 q cc gc (v211 q cc gc (fset h 162 0 (.int (nI 0))) u) a b m).1)).1)), (v213 q cc gc ((v220 q cc gc (v211 q cc gc (fset h 162 0 (.int (nI 0))) u) a b m).2) u ((v220 q cc gc (v211 q cc gc (fset h 162 0 (.int (nI 0))) u) a b m).1)).2, 198, sl) := (rn_ret rfl (Or.inl rfl) hh).2
  have ed : v224 q cc gc h u a b m = ((v213 q cc gc ((v220 q cc gc (v211 q cc gc (fset h 162 0 (.int (nI 0))) u) a b m).2) u ((v220 q cc gc (v211 q cc gc (fset h 162 0 (.int (nI 0))) u) a b m).1)).1, (v213 q cc gc ((v220 q cc gc (v211 q cc gc (fset h 162 0 (.int (nI 0))) u) a b m).2) u ((v220 q cc gc (v211 q cc gc (fset h 162 0 (.int (nI 0))) u) a b m).1)).2) := rfl
  refine ⟨?_, ?_, ?_⟩ <;> rw [ed]
  · exact er10
  · exact hc8
  · exact (fr_g rfl rfl hf9 (fr_g rfl rfl hf6 (fr_g rfl rfl hf3 (fr_f rfl rfl fr_0))))
def v225 (q : QT) (cc gc : Nat) (h : pm_H) (u : Nat) (a : Nat) (b : Nat) : Int32 × pm_H := ((v213 q cc gc ((v221 q cc gc (v211 q cc gc (fset h 162 0 (.int (nI 0))) u) a b).2) u ((v221 q cc gc (v211 q cc gc (fset h 162 0 (.int (nI 0))) u) a b).1)).1, (v213 q cc gc ((v221 q cc gc (v211 q cc gc (fset h 162 0 (.int (nI 0))) u) a b).2) u ((v221 q cc gc (v211 q cc gc (fset h 162 0 (.int (nI 0))) u) a b).1)).2)
theorem v225_ok {n fr lo sl cc gc : Nat} {q : QT} {h : pm_H} {R : pm_Rs} {u : Nat} {a : Nat} {b : Nat} (hw : HC q cc gc h) (h_a : a < 10000) (h_b : b < 10000) (hu : u ≤ 15) (e1 : Fi h 162 27 = nI u) (hh : pm_run PT n fr lo 225 (0, pm_l0 [.ref 162, .int (nI a), .int (nI b)] 3, [], h, 198, sl) = some R) : R = (some (.int ((v225 q cc gc h u a b).1)), (v225 q cc gc h u a b).2, 198, sl) ∧ HC q cc gc ((v225 q cc gc h u a b).2) ∧ frm [162, 170, 178] [(162, 0), (162, 27)] h ((v225 q cc gc h u a b).2) := by
  have hcc := hw.cb
  have hgc := hw.gb
  have hzr := hw.zr
  obtain ⟨n, hh⟩ := rn_i rfl rfl rfl rfl hh
  obtain ⟨n, hh⟩ := rn_i rfl rfl rfl rfl hh
  have hh : pm_run PT n fr lo 225 (2, [some (.ref 162), some (.int (nI a)), some (.int (nI b))], [.int (nI 0), .ref 162], h, 198, sl) = some R := hh
  obtain ⟨n, hh⟩ := rn_pi hw.wt rfl rfl (by decide) rfl (by decide) rfl hh
  obtain ⟨n, hh⟩ := rn_i rfl rfl rfl rfl hh
  have hh : pm_run PT n fr lo 225 (6, [some (.ref 162), some (.int (nI a)), some (.int (nI b))], [.ref 162], fset h 162 0 (.int (nI 0)), 198, sl) = some R := hh
  obtain ⟨n, fr1, lo1, r1, hh1, hh⟩ := rn_call (w := 0) (t := 211) rfl rfl hh
  obtain ⟨er1, hc2, hf3⟩ := v211_ok (u := u) (hc_f rfl rfl (by decide) rfl hw) hu ((Fi_n (Or.inr (by decide))).trans e1) hh1
  subst er1
  obtain ⟨n, hh⟩ := rn_i rfl rfl rfl rfl hh
  obtain ⟨n, hh⟩ := rn_i rfl rfl rfl rfl hh
  obtain ⟨n, hh⟩ := rn_i rfl rfl rfl rfl hh
  obtain ⟨n, hh⟩ := rn_i rfl rfl rfl rfl hh
  have hh : pm_run PT n fr lo 225 (13, [some (.ref 162), some (.int (nI a)), some (.int (nI b))], [.int (nI b), .int (nI a), .ref 162, .ref 162], v211 q cc gc (fset h 162 0 (.int (nI 0))) u, 198, sl) = some R := hh
  obtain ⟨n, fr1, lo1, r1, hh1, hh⟩ := rn_call (w := 0) (t := 221) rfl rfl hh
  obtain ⟨er4, hc5, hf6⟩ := v221_ok (a := a) (b := b) hc2 (by omega) (by omega) hh1
  subst er4
  have hh : pm_run PT n fr lo 225 (16, [some (.ref 162), some (.int (nI a)), some (.int (nI b))], [.int ((v221 q cc gc (v211 q cc gc (fset h 162 0 (.int (nI 0))) u) a b).1), .ref 162], (v221 q cc gc (v211 q cc gc (fset h 162 0 (.int (nI 0))) u) a b).2, 198, sl) = some R := hh
  obtain ⟨n, fr1, lo1, r1, hh1, hh⟩ := rn_call (w := 0) (t := 213) rfl rfl hh
  obtain ⟨er7, hc8, hf9⟩ := v213_ok (u := u) (v := ((v221 q cc gc (v211 q cc gc (fset h 162 0 (.int (nI 0))) u) a b).1)) hc5 hu ((hf6.2 162 27 (by decide +kernel) rfl).trans ((hf3.2 162 27 (by decide +kernel) rfl).trans ((Fi_n (Or.inr (by decide))).trans e1))) hh1
  subst er7
  have hh : pm_run PT n fr lo 225 (19, [some (.ref 162), some (.int (nI a)), some (.int (nI b))], [.int ((v213 q cc gc ((v221 q cc gc (v211 q cc gc (fset h 162 0 (.int (nI 0))) u) a b).2) u ((v221 q cc gc (v211 q cc gc (fset h 162 0 (.int (nI 0))) u) a b).1)).1)], (v213 q cc gc ((v221 q cc gc (v211 q cc gc (fset h 162 0 (.int (nI 0))) u) a b).2) u ((v221 q cc gc (v211 q cc gc (fset h 162 0 (.int (nI 0))) u) a b).1)).2, 198, sl) = some R := hh
  have er10 : R = (some (.int ((v213 q cc gc ((v221 q cc gc (v211 q cc gc (fset h 162 0 (.int (nI 0))) u) a b).2) u ((v221 q cc gc (v211 q cc gc (fset h 162 0 (.int (nI 0))) u) a b).1)).1)), (v213 q cc gc ((v221 q cc gc (v211 q cc gc (fset h 162 0 (.int (nI 0))) u) a b).2) u ((v221 q cc gc (v211 q cc gc (fset h 162 0 (.int (nI 0))) u) a b).1)).2, 198, sl) := (rn_ret rfl (Or.inl rfl) hh).2
  have ed : v225 q cc gc h u a b = ((v213 q cc gc ((v221 q cc gc (v211 q cc gc (fset h 162 0 (.int (nI 0))) u) a b).2) u ((v221 q cc gc (v211 q cc gc (fset h 162 0 (.int (nI 0))) u) a b).1)).1, (v213 q cc gc ((v221 q cc gc (v211 q cc gc (fset h 162 0 (.int (nI 0))) u) a b).2) u ((v221 q cc gc (v211 q cc gc (fset h 162 0 (.int (nI 0))) u) a b).1)).2) := rfl
  refine ⟨?_, ?_, ?_⟩ <;> rw [ed]
  · exact er10
  · exact hc8
  · exact (fr_g rfl rfl hf9 (fr_g rfl rfl hf6 (fr_g rfl rfl hf3 (fr_f rfl rfl fr_0))))
def v214_26b (q : QT) (cc gc : Nat) (h : pm_H) (z162_27 : Nat) (i : Nat) : pm_H := aset h 170 96 (upd (Ar h 170) i ((Ar h 178) (96 * z162_27 + i)))
def v214_26 (q : QT) (cc gc : Nat) (z162_27 : Nat) (j i : Nat) (a : pm_H) : pm_H := lp (fun i a => v214_26b q cc gc a z162_27 i) j i a
theorem v214_26_e {n fr lo sl cc gc : Nat} {q : QT} {h : pm_H} {R : pm_Rs} {z162_27 : Nat} {i : Nat} (hw : HC q cc gc h) (hz : z162_27 ≤ 15) (e1 : Fi h 162 27 = nI z162_27) (hi : 96 ≤ i) (hI : i < 1000000) (hh : pm_run PT n fr lo 214 (26, [some (.ref 162), some (.int (nI i))], [], h, 198, sl) = some R) : ∃ m, pm_run PT m fr lo 214 (58, [some (.ref 162), some (.int (nI i))], [], h, 198, sl) = some R := by
  have hcc := hw.cb
  have hgc := hw.gb
  have hzr := hw.zr
  obtain ⟨n, hh⟩ := rn_i rfl rfl rfl rfl hh
  obtain ⟨n, hh⟩ := rn_i rfl rfl rfl rfl hh
  have hh : pm_run PT n fr lo 214 (29, [some (.ref 162), some (.int (nI i))], [.int (nI 96), .int (nI i)], h, 198, sl) = some R := hh
  obtain ⟨n, hh⟩ := en_cn (cc := .ge) (off := 29) (t := 58) (b := decide (96 ≤ i)) (hI_ge (by omega) (by omega)) rfl rfl hh
  have hh := en_t (show decide (96 ≤ i) = true from decide_eq_true (by omega)) hh
  have hh : pm_run PT n fr lo 214 (58, [some (.ref 162), some (.int (nI i))], [], h, 198, sl) = some R := hh
  exact ⟨n, hh⟩
theorem v214_26_s {n fr lo sl cc gc : Nat} {q : QT} {h : pm_H} {R : pm_Rs} {z162_27 : Nat} {i : Nat} (hw : HC q cc gc h) (hz : z162_27 ≤ 15) (e1 : Fi h 162 27 = nI z162_27) (hi : i < 96) (hI : i < 1000000) (hh : pm_run PT n fr lo 214 (26, [some (.ref 162), some (.int (nI i))], [], h, 198, sl) = some R) : ∃ m, HC q cc gc ((v214_26b q cc gc h z162_27 i)) ∧ frm [170] [] h ((v214_26b q cc gc h z162_27 i)) ∧ Fi ((v214_26b q cc gc h z162_27 i)) 162 27 = nI z162_27 ∧ pm_run PT m fr lo 214 (26, [some (.ref 162), some (.int (nI (i + 1)))], [], (v214_26b q cc gc h z162_27 i), 198, sl) = some R := by
  have hcc := hw.cb
  have hgc := hw.gb
  have hzr := hw.zr
  obtain ⟨n, hh⟩ := rn_i rfl rfl rfl rfl hh
  obtain ⟨n, hh⟩ := rn_i rfl rfl rfl rfl hh
  have hh : pm_run PT n fr lo 214 (29, [some (.ref 162), some (.int (nI i))], [.int (nI 96), .int (nI i)], h, 198, sl) = some R := hh
  obtain ⟨n, hh⟩ := en_cn (cc := .ge) (off := 29) (t := 58) (b := decide (96 ≤ i)) (hI_ge (by omega) (by omega)) rfl rfl hh
  have hh := en_f (show decide (96 ≤ i) = false from decide_eq_false (by omega)) hh
  have hh : pm_run PT n fr lo 214 (32, [some (.ref 162), some (.int (nI i))], [], h, 198, sl) = some R := hh
  obtain ⟨n, hh⟩ := rn_i rfl rfl rfl rfl hh
  have hh : pm_run PT n fr lo 214 (33, [some (.ref 162), some (.int (nI i))], [.ref 162], h, 198, sl) = some R := hh
  obtain ⟨n, hh⟩ := rn_gr hw.wt rfl rfl (by decide) rfl (by decide) (show _ = some (2, ((170 : Nat) : Int), 1) from rfl) rfl hh
  obtain ⟨n, hh⟩ := rn_i rfl rfl rfl rfl hh
  obtain ⟨n, hh⟩ := rn_i rfl rfl rfl rfl hh
  have hh : pm_run PT n fr lo 214 (38, [some (.ref 162), some (.int (nI i))], [.ref 162, .int (nI i), .ref 170], h, 198, sl) = some R := hh
  obtain ⟨n, hh⟩ := rn_gr hw.wt rfl rfl (by decide) rfl (by decide) (show _ = some (2, ((178 : Nat) : Int), 1) from rfl) rfl hh
  obtain ⟨n, hh⟩ := rn_i rfl rfl rfl rfl hh
  obtain ⟨n, hh⟩ := rn_i rfl rfl rfl rfl hh
  have hh : pm_run PT n fr lo 214 (44, [some (.ref 162), some (.int (nI i))], [.ref 162, .int (nI 96), .ref 178, .int (nI i), .ref 170], h, 198, sl) = some R := hh
  obtain ⟨n, hh⟩ := rn_gi (x := nI z162_27) hw.wt rfl rfl (by decide) rfl (by decide) rfl e1 hh
  have hh : pm_run PT n fr lo 214 (47, [some (.ref 162), some (.int (nI i))], [.int (nI z162_27), .int (nI 96), .ref 178, .int (nI i), .ref 170], h, 198, sl) = some R := hh
  obtain ⟨n, hh⟩ := en_mul rfl hh
  have hh : pm_run PT n fr lo 214 (48, [some (.ref 162), some (.int (nI i))], [.int (nI (96 * z162_27)), .ref 178, .int (nI i), .ref 170], h, 198, sl) = some R := hh
  obtain ⟨n, hh⟩ := rn_i rfl rfl rfl rfl hh
  have hh : pm_run PT n fr lo 214 (49, [some (.ref 162), some (.int (nI i))], [.int (nI i), .int (nI (96 * z162_27)), .ref 178, .int (nI i), .ref 170], h, 198, sl) = some R := hh
  obtain ⟨n, hh⟩ := en_add rfl hh
  have hh : pm_run PT n fr lo 214 (50, [some (.ref 162), some (.int (nI i))], [.int (nI (96 * z162_27 + i)), .ref 178, .int (nI i), .ref 170], h, 198, sl) = some R := hh
  have hh : pm_run PT n fr lo 214 (50, [some (.ref 162), some (.int (nI i))], [.int (nI (96 * z162_27 + i)), .ref 178, .int (nI i), .ref 170], h, 198, sl) = some R := hh
  obtain ⟨n, hx3, hh⟩ := en_lu (t := 96 * z162_27 + i) (f := Ar h 178) (w := (Ar h 178) (96 * z162_27 + i)) (nI_clamp (by omega)) hw.wt rfl (by decide) rfl (by decide) rfl (fun _ => rfl) hh
  have hh : pm_run PT n fr lo 214 (51, [some (.ref 162), some (.int (nI i))], [.int ((Ar h 178) (96 * z162_27 + i)), .int (nI i), .ref 170], h, 198, sl) = some R := hh
  obtain ⟨n, hx4, hh⟩ := en_st (t := i) (f := Ar h 170) (nI_clamp (by omega)) hw.wt rfl (by decide) rfl (by decide) rfl hh
  have hh : pm_run PT n fr lo 214 (52, [some (.ref 162), some (.int (nI i))], [], aset h 170 96 (upd (Ar h 170) i ((Ar h 178) (96 * z162_27 + i))), 198, sl) = some R := hh
  obtain ⟨n, hh⟩ := en_inc (x := i) (c := 1) (j := 1) rfl rfl (by decide) hh
  have hh : pm_run PT n fr lo 214 (55, [some (.ref 162), some (.int (nI (i + 1)))], [], aset h 170 96 (upd (Ar h 170) i ((Ar h 178) (96 * z162_27 + i))), 198, sl) = some R := hh
  obtain ⟨n, hh⟩ := rn_i rfl rfl rfl rfl hh
  have ed : v214_26b q cc gc h z162_27 i = aset h 170 96 (upd (Ar h 170) i ((Ar h 178) (96 * z162_27 + i))) := rfl
  rw [ed]
  exact ⟨n, (hc_a rfl rfl hw), (fr_a rfl rfl fr_0), ((Fi_a (by decide)).trans e1), hh⟩
theorem v214_26_ok {fr lo sl cc gc : Nat} {q : QT} {R : pm_Rs} {z162_27 : Nat} : ∀ {j i : Nat} {h : pm_H} {n : Nat}, 96 - i = j → i + j < 1000000 → HC q cc gc h → z162_27 ≤ 15 → Fi h 162 27 = nI z162_27 → pm_run PT n fr lo 214 (26, [some (.ref 162), some (.int (nI i))], [], h, 198, sl) = some R → ∃ m wc, HC q cc gc ((v214_26 q cc gc z162_27 j i h)) ∧ frm [170] [] h ((v214_26 q cc gc z162_27 j i h)) ∧ Fi ((v214_26 q cc gc z162_27 j i h)) 162 27 = nI z162_27 ∧ pm_run PT m fr lo 214 (58, [some (.ref 162), wc], [], (v214_26 q cc gc z162_27 j i h), 198, sl) = some R := by
  intro j
  induction j with
  | zero =>
    intro i h n e eI hw hz e1 hh
    obtain ⟨n, hh⟩ := v214_26_e hw hz e1 (by omega) (by omega) hh
    exact ⟨n, _, hw, fr_0, e1, hh⟩
  | succ j ih =>
    intro i h n e eI hw hz e1 hh
    obtain ⟨n, hc, hf, e1', hh⟩ := v214_26_s hw hz e1 (by omega) (by omega) hh
    obtain ⟨n, wc, hc2, hf2, e1'', hh⟩ := ih (by omega) (by omega) hc hz e1' hh
    exact ⟨n, wc, hc2, fr_t hf2 hf, e1'', hh⟩
theorem v214_26_fb {cc gc : Nat} {q : QT} {h : pm_H} {z162_27 : Nat} {i : Nat} (hw : HC q cc gc h) (hz : z162_27 ≤ 15) : HC q cc gc ((v214_26b q cc gc h z162_27 i)) ∧ frm [170] [] h ((v214_26b q cc gc h z162_27 i)) := by
  unfold v214_26b
  show HC q cc gc (aset h 170 96 (upd (Ar h 170) i ((Ar h 178) (96 * z162_27 + i)))) ∧ frm [170] [] h (aset h 170 96 (upd (Ar h 170) i ((Ar h 178) (96 * z162_27 + i))))
  exact ⟨(hc_a rfl rfl hw), (fr_a rfl rfl fr_0)⟩
theorem v214_26_fr {cc gc : Nat} {q : QT} {z162_27 : Nat} (hz : z162_27 ≤ 15) : ∀ {j i : Nat} {h : pm_H}, HC q cc gc h → HC q cc gc ((v214_26 q cc gc z162_27 j i h)) ∧ frm [170] [] h ((v214_26 q cc gc z162_27 j i h)) := by
  intro j
  induction j with
  | zero =>
    intro i h hw
    exact ⟨hw, fr_0⟩
  | succ j ih =>
    intro i h hw
    obtain ⟨a1, a2⟩ := v214_26_fb (i := i) (z162_27 := z162_27) hw hz
    obtain ⟨b1, b2⟩ := ih (i := i + 1) a1
    exact ⟨b1, fr_t b2 a2⟩
def v214 (q : QT) (cc gc : Nat) (h : pm_H) (u : Nat) : Int32 × pm_H := cond (decide (¬ u = 0)) (nI (u - 1), (v214_26 q cc gc (u - 1) 96 0 (fset (fset h 162 0 (.int (nI 0))) 162 27 (.int (nI (u - 1)))))) ((Int32.ofInt (-1)), fset h 162 0 (.int (nI 0)))
theorem v214_ok {n fr lo sl cc gc : Nat} {q : QT} {h : pm_H} {R : pm_Rs} {u : Nat} (hw : HC q cc gc h) (hu : u ≤ 15) (e1 : Fi h 162 27 = nI u) (hh : pm_run PT n fr lo 214 (0, pm_l0 [.ref 162] 2, [], h, 198, sl) = some R) : R = (some (.int ((v214 q cc gc h u).1)), (v214 q cc gc h u).2, 198, sl) ∧ HC q cc gc ((v214 q cc gc h u).2) ∧ frm [162, 170] [(162, 0), (162, 27)] h ((v214 q cc gc h u).2) := by
  have hcc := hw.cb
  have hgc := hw.gb
  have hzr := hw.zr
  obtain ⟨n, hh⟩ := rn_i rfl rfl rfl rfl hh
  obtain ⟨n, hh⟩ := rn_i rfl rfl rfl rfl hh
  have hh : pm_run PT n fr lo 214 (2, [some (.ref 162), none], [.int (nI 0), .ref 162], h, 198, sl) = some R := hh
  obtain ⟨n, hh⟩ := rn_pi hw.wt rfl rfl (by decide) rfl (by decide) rfl hh
  obtain ⟨n, hh⟩ := rn_i rfl rfl rfl rfl hh
  have hh : pm_run PT n fr lo 214 (6, [some (.ref 162), none], [.ref 162], fset h 162 0 (.int (nI 0)), 198, sl) = some R := hh
  obtain ⟨n, hh⟩ := rn_gi (x := nI u) (hc_f rfl rfl (by decide) rfl hw).wt rfl rfl (by decide) rfl (by decide) rfl ((Fi_n (Or.inr (by decide))).trans e1) hh
  have hh : pm_run PT n fr lo 214 (9, [some (.ref 162), none], [.int (nI u)], fset h 162 0 (.int (nI 0)), 198, sl) = some R := hh
  obtain ⟨n, hh⟩ := en_zn (cc := .ne) (off := 5) (t := 14) (b := decide (¬ u = 0)) (hI_ne (b := 0) (by omega) (by omega)) rfl rfl hh
  cases z1 : decide (¬ u = 0) with
  | true =>
    have hh := en_t z1 hh
    have hh : pm_run PT n fr lo 214 (14, [some (.ref 162), none], [], fset h 162 0 (.int (nI 0)), 198, sl) = some R := hh
    have y2 := of_decide_eq_true z1
    obtain ⟨n, hh⟩ := rn_i rfl rfl rfl rfl hh
    obtain ⟨n, hh⟩ := rn_i rfl rfl rfl rfl hh
    have hh : pm_run PT n fr lo 214 (16, [some (.ref 162), none], [.ref 162, .ref 162], fset h 162 0 (.int (nI 0)), 198, sl) = some R := hh
    obtain ⟨n, hh⟩ := rn_gi (x := nI u) (hc_f rfl rfl (by decide) rfl hw).wt rfl rfl (by decide) rfl (by decide) rfl ((Fi_n (Or.inr (by decide))).trans e1) hh
    obtain ⟨n, hh⟩ := rn_i rfl rfl rfl rfl hh
    have hh : pm_run PT n fr lo 214 (20, [some (.ref 162), none], [.int (nI 1), .int (nI u), .ref 162], fset h 162 0 (.int (nI 0)), 198, sl) = some R := hh
    obtain ⟨n, hh⟩ := en_sub (x := u) (y := 1) (by omega) rfl hh
    have hh : pm_run PT n fr lo 214 (21, [some (.ref 162), none], [.int (nI (u - 1)), .ref 162], fset h 162 0 (.int (nI 0)), 198, sl) = some R := hh
    have hh : pm_run PT n fr lo 214 (21, [some (.ref 162), none], [.int (nI (u - 1)), .ref 162], fset h 162 0 (.int (nI 0)), 198, sl) = some R := hh
    obtain ⟨n, hh⟩ := rn_pi (hc_f rfl rfl (by decide) rfl hw).wt rfl rfl (by decide) rfl (by decide) rfl hh
    obtain ⟨n, hh⟩ := rn_i rfl rfl rfl rfl hh
    obtain ⟨n, hh⟩ := rn_i rfl rfl rfl rfl hh
    have hh : pm_run PT n fr lo 214 (26, [some (.ref 162), some (.int (nI 0))], [], fset (fset h 162 0 (.int (nI 0))) 162 27 (.int (nI (u - 1))), 198, sl) = some R := hh
    obtain ⟨n, u3, hc5, hf6, hn4, hh⟩ := v214_26_ok  (z162_27 := u - 1) (i := 0) (j := 96) (by omega) (by omega) (hc_f rfl rfl (by decide) rfl (hc_f rfl rfl (by decide) rfl hw)) (by omega) (show Fi (fset (fset h 162 0 (.int (nI 0))) 162 27 (.int (nI (u - 1)))) 162 27 = nI (u - 1) from (Fi_s (hc_f rfl rfl (by decide) rfl hw).wt (by decide) rfl (by decide) rfl)) hh
    have hh : pm_run PT n fr lo 214 (58, [some (.ref 162), u3], [], (v214_26 q cc gc (u - 1) 96 0 (fset (fset h 162 0 (.int (nI 0))) 162 27 (.int (nI (u - 1))))), 198, sl) = some R := hh
    obtain ⟨n, hh⟩ := rn_i rfl rfl rfl rfl hh
    have hh : pm_run PT n fr lo 214 (59, [some (.ref 162), u3], [.ref 162], (v214_26 q cc gc (u - 1) 96 0 (fset (fset h 162 0 (.int (nI 0))) 162 27 (.int (nI (u - 1))))), 198, sl) = some R := hh
    obtain ⟨n, hh⟩ := rn_gi (x := nI (u - 1)) hc5.wt rfl rfl (by decide) rfl (by decide) rfl hn4 hh
    have hh : pm_run PT n fr lo 214 (62, [some (.ref 162), u3], [.int (nI (u - 1))], (v214_26 q cc gc (u - 1) 96 0 (fset (fset h 162 0 (.int (nI 0))) 162 27 (.int (nI (u - 1))))), 198, sl) = some R := hh
    have er7 : R = (some (.int (nI (u - 1))), (v214_26 q cc gc (u - 1) 96 0 (fset (fset h 162 0 (.int (nI 0))) 162 27 (.int (nI (u - 1))))), 198, sl) := (rn_ret rfl (Or.inl rfl) hh).2
    have ed : v214 q cc gc h u = (nI (u - 1), (v214_26 q cc gc (u - 1) 96 0 (fset (fset h 162 0 (.int (nI 0))) 162 27 (.int (nI (u - 1)))))) := (ct z1).trans rfl
    refine ⟨?_, ?_, ?_⟩ <;> rw [ed]
    · exact er7
    · exact hc5
    · exact (fr_g rfl rfl hf6 (fr_f rfl rfl (fr_f rfl rfl fr_0)))
  | false =>
    have hh := en_f z1 hh
    have hh : pm_run PT n fr lo 214 (12, [some (.ref 162), none], [], fset h 162 0 (.int (nI 0)), 198, sl) = some R := hh
    have y8 := of_decide_eq_false z1
    obtain ⟨n, hh⟩ := rn_i rfl rfl rfl rfl hh
    have hh : pm_run PT n fr lo 214 (13, [some (.ref 162), none], [.int (Int32.ofInt (-1))], fset h 162 0 (.int (nI 0)), 198, sl) = some R := hh
    have er9 : R = (some (.int (Int32.ofInt (-1))), fset h 162 0 (.int (nI 0)), 198, sl) := (rn_ret rfl (Or.inl rfl) hh).2
    have ed : v214 q cc gc h u = ((Int32.ofInt (-1)), fset h 162 0 (.int (nI 0))) := (cf z1).trans rfl
    refine ⟨?_, ?_, ?_⟩ <;> rw [ed]
    · exact er9
    · exact (hc_f rfl rfl (by decide) rfl hw)
    · exact (fr_f rfl rfl fr_0)
def v210_43b (q : QT) (cc gc : Nat) (h : pm_H) (t1 : Int32) (t2 : Int32) (t3 : Int32) (t4 : Int32) (i : Nat) (x5 : Int32) : Int32 × pm_H := cond (pm_cmp .ne t1 0) (cond (pm_cmp .ne t1 (nI 1)) (cond (pm_cmp .eq t1 (nI 3)) (x5 + t4, aset h 170 96 (upd (Ar h 170) i (nI 0))) (cond (pm_cmp .lt (nI i) t2) (x5 + t4, aset h 170 96 (upd (Ar h 170) i (imax (nI 0) (imin (nI 999) x5)))) (x5 + t4, aset h 170 96 (upd (Ar h 170) i (nI 0))))) (cond (pm_cmp .eq t1 (nI 3)) (x5 + t4, aset h 170 96 (upd (Ar h 170) i (nI 0))) (cond (pm_cmp .lt (nI i) t2) (x5 + t4, aset h 170 96 (upd (Ar h 170) i (imax (nI 0) (imin (nI 999) ((x5).toInt16.toInt32))))) (x5 + t4, aset h 170 96 (upd (Ar h 170) i (nI 0)))))) (cond (pm_cmp .eq t1 (nI 3)) (x5 + t4, aset h 170 96 (upd (Ar h 170) i (nI 0))) (cond (pm_cmp .lt (nI i) t2) (x5 + t4, aset h 170 96 (upd (Ar h 170) i (imax (nI 0) (imin (nI 999) ((x5).toInt8.toInt32))))) (x5 + t4, aset h 170 96 (upd (Ar h 170) i (nI 0)))))
def v210_43 (q : QT) (cc gc : Nat) (t1 : Int32) (t2 : Int32) (t3 : Int32) (t4 : Int32) (j i : Nat) (a : Int32 × pm_H) : Int32 × pm_H := lp (fun i a => v210_43b q cc gc a.2 t1 t2 t3 t4 i a.1) j i a
theorem v210_43_e {n fr lo sl cc gc : Nat} {q : QT} {h : pm_H} {R : pm_Rs} {t1 : Int32} {t2 : Int32} {t3 : Int32} {t4 : Int32} {i : Nat} {x5 : Int32} {o7 : Option Value} (hw : HC q cc gc h) (hi : cc ≤ i) (hI : i < 1000000) (hh : pm_run PT n fr lo 210 (43, [some (.ref 162), some (.int t1), some (.int t2), some (.int t3), some (.int t4), some (.int x5), some (.int (nI i)), o7], [], h, 198, sl) = some R) : ∃ m, pm_run PT m fr lo 210 (124, [some (.ref 162), some (.int t1), some (.int t2), some (.int t3), some (.int t4), some (.int x5), some (.int (nI i)), o7], [], h, 198, sl) = some R := by
  have hcc := hw.cb
  have hgc := hw.gb
  have hzr := hw.zr
  obtain ⟨n, hh⟩ := rn_i rfl rfl rfl rfl hh
  obtain ⟨n, hh⟩ := rn_i rfl rfl rfl rfl hh
  have hh : pm_run PT n fr lo 210 (46, [some (.ref 162), some (.int t1), some (.int t2), some (.int t3), some (.int t4), some (.int x5), some (.int (nI i)), o7], [.ref 162, .int (nI i)], h, 198, sl) = some R := hh
  obtain ⟨n, hh⟩ := rn_gi (x := nI cc) hw.wt rfl rfl (by decide) rfl (by decide) rfl hw.m3 hh
  have hh : pm_run PT n fr lo 210 (49, [some (.ref 162), some (.int t1), some (.int t2), some (.int t3), some (.int t4), some (.int x5), some (.int (nI i)), o7], [.int (nI cc), .int (nI i)], h, 198, sl) = some R := hh
  obtain ⟨n, hh⟩ := en_cn (cc := .ge) (off := 75) (t := 124) (b := decide (cc ≤ i)) (hI_ge (by omega) (by omega)) rfl rfl hh
  have hh := en_t (show decide (cc ≤ i) = true from decide_eq_true (by omega)) hh
  have hh : pm_run PT n fr lo 210 (124, [some (.ref 162), some (.int t1), some (.int t2), some (.int t3), some (.int t4), some (.int x5), some (.int (nI i)), o7], [], h, 198, sl) = some R := hh
  exact ⟨n, hh⟩
theorem v210_43_s {n fr lo sl cc gc : Nat} {q : QT} {h : pm_H} {R : pm_Rs} {t1 : Int32} {t2 : Int32} {t3 : Int32} {t4 : Int32} {i : Nat} {x5 : Int32} {o7 : Option Value} (hw : HC q cc gc h) (hi : i < cc) (hI : i < 1000000) (hh : pm_run PT n fr lo 210 (43, [some (.ref 162), some (.int t1), some (.int t2), some (.int t3), some (.int t4), some (.int x5), some (.int (nI i)), o7], [], h, 198, sl) = some R) : ∃ m w7, HC q cc gc ((v210_43b q cc gc h t1 t2 t3 t4 i x5).2) ∧ frm [170] [] h ((v210_43b q cc gc h t1 t2 t3 t4 i x5).2) ∧ pm_run PT m fr lo 210 (43, [some (.ref 162), some (.int t1), some (.int t2), some (.int t3), some (.int t4), some (.int ((v210_43b q cc gc h t1 t2 t3 t4 i x5).1)), some (.int (nI (i + 1))), w7], [], (v210_43b q cc gc h t1 t2 t3 t4 i x5).2, 198, sl) = some R := by
  have hcc := hw.cb
  have hgc := hw.gb
  have hzr := hw.zr
  obtain ⟨n, hh⟩ := rn_i rfl rfl rfl rfl hh
  obtain ⟨n, hh⟩ := rn_i rfl rfl rfl rfl hh
  have hh : pm_run PT n fr lo 210 (46, [some (.ref 162), some (.int t1), some (.int t2), some (.int t3), some (.int t4), some (.int x5), some (.int (nI i)), o7], [.ref 162, .int (nI i)], h, 198, sl) = some R := hh
  obtain ⟨n, hh⟩ := rn_gi (x := nI cc) hw.wt rfl rfl (by decide) rfl (by decide) rfl hw.m3 hh
  have hh : pm_run PT n fr lo 210 (49, [some (.ref 162), some (.int t1), some (.int t2), some (.int t3), some (.int t4), some (.int x5), some (.int (nI i)), o7], [.int (nI cc), .int (nI i)], h, 198, sl) = some R := hh
  obtain ⟨n, hh⟩ := en_cn (cc := .ge) (off := 75) (t := 124) (b := decide (cc ≤ i)) (hI_ge (by omega) (by omega)) rfl rfl hh
  have hh := en_f (show decide (cc ≤ i) = false from decide_eq_false (by omega)) hh
  have hh : pm_run PT n fr lo 210 (52, [some (.ref 162), some (.int t1), some (.int t2), some (.int t3), some (.int t4), some (.int x5), some (.int (nI i)), o7], [], h, 198, sl) = some R := hh
  obtain ⟨n, hh⟩ := rn_i rfl rfl rfl rfl hh
  have hh : pm_run PT n fr lo 210 (53, [some (.ref 162), some (.int t1), some (.int t2), some (.int t3), some (.int t4), some (.int x5), some (.int (nI i)), o7], [.int t1], h, 198, sl) = some R := hh
  obtain ⟨n, hh⟩ := en_zn (cc := .ne) (off := 9) (t := 62) (b := pm_cmp .ne t1 0) rfl rfl rfl hh
  cases z5 : pm_cmp .ne t1 0 with
  | true =>
    have hh := en_t z5 hh
    have hh : pm_run PT n fr lo 210 (62, [some (.ref 162), some (.int t1), some (.int t2), some (.int t3), some (.int t4), some (.int x5), some (.int (nI i)), o7], [], h, 198, sl) = some R := hh
    obtain ⟨n, hh⟩ := rn_i rfl rfl rfl rfl hh
    obtain ⟨n, hh⟩ := rn_i rfl rfl rfl rfl hh
    have hh : pm_run PT n fr lo 210 (64, [some (.ref 162), some (.int t1), some (.int t2), some (.int t3), some (.int t4), some (.int x5), some (.int (nI i)), o7], [.int (nI 1), .int t1], h, 198, sl) = some R := hh
    obtain ⟨n, hh⟩ := en_cn (cc := .ne) (off := 9) (t := 73) (b := pm_cmp .ne t1 (nI 1)) rfl rfl rfl hh
    cases z6 : pm_cmp .ne t1 (nI 1) with
    | true =>
      have hh := en_t z6 hh
      have hh : pm_run PT n fr lo 210 (73, [some (.ref 162), some (.int t1), some (.int t2), some (.int t3), some (.int t4), some (.int x5), some (.int (nI i)), o7], [], h, 198, sl) = some R := hh
      obtain ⟨n, hh⟩ := rn_i rfl rfl rfl rfl hh
      obtain ⟨n, hh⟩ := rn_i rfl rfl rfl rfl hh
      obtain ⟨n, hh⟩ := rn_i rfl rfl rfl rfl hh
      have hh : pm_run PT n fr lo 210 (78, [some (.ref 162), some (.int t1), some (.int t2), some (.int t3), some (.int t4), some (.int x5), some (.int (nI i)), some (.int x5)], [.ref 162], h, 198, sl) = some R := hh
      obtain ⟨n, hh⟩ := rn_gr hw.wt rfl rfl (by decide) rfl (by decide) (show _ = some (2, ((170 : Nat) : Int), 1) from rfl) rfl hh
      obtain ⟨n, hh⟩ := rn_i rfl rfl rfl rfl hh
      obtain ⟨n, hh⟩ := rn_i rfl rfl rfl rfl hh
      obtain ⟨n, hh⟩ := rn_i rfl rfl rfl rfl hh
      have hh : pm_run PT n fr lo 210 (85, [some (.ref 162), some (.int t1), some (.int t2), some (.int t3), some (.int t4), some (.int x5), some (.int (nI i)), some (.int x5)], [.int (nI 3), .int t1, .int (nI i), .ref 170], h, 198, sl) = some R := hh
      obtain ⟨n, hh⟩ := en_cn (cc := .eq) (off := 9) (t := 94) (b := pm_cmp .eq t1 (nI 3)) rfl rfl rfl hh
      cases z7 : pm_cmp .eq t1 (nI 3) with
      | true =>
        have hh := en_t z7 hh
        have hh : pm_run PT n fr lo 210 (94, [some (.ref 162), some (.int t1), some (.int t2), some (.int t3), some (.int t4), some (.int x5), some (.int (nI i)), some (.int x5)], [.int (nI i), .ref 170], h, 198, sl) = some R := hh
        obtain ⟨n, hh⟩ := rn_i rfl rfl rfl rfl hh
        obtain ⟨n, hh⟩ := rn_i rfl rfl rfl rfl hh
        have hh : pm_run PT n fr lo 210 (110, [some (.ref 162), some (.int t1), some (.int t2), some (.int t3), some (.int t4), some (.int x5), some (.int (nI i)), some (.int x5)], [.int (nI 0), .int (nI i), .ref 170], h, 198, sl) = some R := hh
        obtain ⟨n, hx8, hh⟩ := en_st (t := i) (f := Ar h 170) (nI_clamp (by omega)) hw.wt rfl (by decide) rfl (by decide) rfl hh
        obtain ⟨n, hh⟩ := rn_i rfl rfl rfl rfl hh
        obtain ⟨n, hh⟩ := rn_i rfl rfl rfl rfl hh
        obtain ⟨n, hh⟩ := rn_i rfl rfl rfl rfl hh
        obtain ⟨n, hh⟩ := rn_i rfl rfl rfl rfl hh
        have hh : pm_run PT n fr lo 210 (118, [some (.ref 162), some (.int t1), some (.int t2), some (.int t3), some (.int t4), some (.int (x5 + t4)), some (.int (nI i)), some (.int x5)], [], aset h 170 96 (upd (Ar h 170) i (nI 0)), 198, sl) = some R := hh
        obtain ⟨n, hh⟩ := en_inc (x := i) (c := 1) (j := 6) rfl rfl (by decide) hh
        have hh : pm_run PT n fr lo 210 (121, [some (.ref 162), some (.int t1), some (.int t2), some (.int t3), some (.int t4), some (.int (x5 + t4)), some (.int (nI (i + 1))), some (.int x5)], [], aset h 170 96 (upd (Ar h 170) i (nI 0)), 198, sl) = some R := hh
        obtain ⟨n, hh⟩ := rn_i rfl rfl rfl rfl hh
        have ed : v210_43b q cc gc h t1 t2 t3 t4 i x5 = (x5 + t4, aset h 170 96 (upd (Ar h 170) i (nI 0))) := (ct z5).trans ((ct z6).trans ((ct z7).trans rfl))
        rw [ed]
        exact ⟨n, some (.int x5), (hc_a rfl rfl hw), (fr_a rfl rfl fr_0), hh⟩
      | false =>
        have hh := en_f z7 hh
        have hh : pm_run PT n fr lo 210 (88, [some (.ref 162), some (.int t1), some (.int t2), some (.int t3), some (.int t4), some (.int x5), some (.int (nI i)), some (.int x5)], [.int (nI i), .ref 170], h, 198, sl) = some R := hh
        obtain ⟨n, hh⟩ := rn_i rfl rfl rfl rfl hh
        obtain ⟨n, hh⟩ := rn_i rfl rfl rfl rfl hh
        have hh : pm_run PT n fr lo 210 (91, [some (.ref 162), some (.int t1), some (.int t2), some (.int t3), some (.int t4), some (.int x5), some (.int (nI i)), some (.int x5)], [.int t2, .int (nI i), .int (nI i), .ref 170], h, 198, sl) = some R := hh
        obtain ⟨n, hh⟩ := en_cn (cc := .lt) (off := 7) (t := 98) (b := pm_cmp .lt (nI i) t2) rfl rfl rfl hh
        cases z9 : pm_cmp .lt (nI i) t2 with
        | true =>
          have hh := en_t z9 hh
          have hh : pm_run PT n fr lo 210 (98, [some (.ref 162), some (.int t1), some (.int t2), some (.int t3), some (.int t4), some (.int x5), some (.int (nI i)), some (.int x5)], [.int (nI i), .ref 170], h, 198, sl) = some R := hh
          obtain ⟨n, hh⟩ := rn_i rfl rfl rfl rfl hh
          obtain ⟨n, hh⟩ := rn_i rfl rfl rfl rfl hh
          obtain ⟨n, hh⟩ := rn_i rfl rfl rfl rfl hh
          have hh : pm_run PT n fr lo 210 (104, [some (.ref 162), some (.int t1), some (.int t2), some (.int t3), some (.int t4), some (.int x5), some (.int (nI i)), some (.int x5)], [.int x5, .int (nI 999), .int (nI 0), .int (nI i), .ref 170], h, 198, sl) = some R := hh
          obtain ⟨n, hh⟩ := en_min rfl rfl rfl hh
          have hh : pm_run PT n fr lo 210 (107, [some (.ref 162), some (.int t1), some (.int t2), some (.int t3), some (.int t4), some (.int x5), some (.int (nI i)), some (.int x5)], [.int (imin (nI 999) x5), .int (nI 0), .int (nI i), .ref 170], h, 198, sl) = some R := hh
          obtain ⟨n, hh⟩ := en_max rfl rfl rfl hh
          have hh : pm_run PT n fr lo 210 (110, [some (.ref 162), some (.int t1), some (.int t2), some (.int t3), some (.int t4), some (.int x5), some (.int (nI i)), some (.int x5)], [.int (imax (nI 0) (imin (nI 999) x5)), .int (nI i), .ref 170], h, 198, sl) = some R := hh
          obtain ⟨n, hx10, hh⟩ := en_st (t := i) (f := Ar h 170) (nI_clamp (by omega)) hw.wt rfl (by decide) rfl (by decide) rfl hh
          obtain ⟨n, hh⟩ := rn_i rfl rfl rfl rfl hh
          obtain ⟨n, hh⟩ := rn_i rfl rfl rfl rfl hh
          obtain ⟨n, hh⟩ := rn_i rfl rfl rfl rfl hh
          obtain ⟨n, hh⟩ := rn_i rfl rfl rfl rfl hh
          have hh : pm_run PT n fr lo 210 (118, [some (.ref 162), some (.int t1), some (.int t2), some (.int t3), some (.int t4), some (.int (x5 + t4)), some (.int (nI i)), some (.int x5)], [], aset h 170 96 (upd (Ar h 170) i (imax (nI 0) (imin (nI 999) x5))), 198, sl) = some R := hh
          obtain ⟨n, hh⟩ := en_inc (x := i) (c := 1) (j := 6) rfl rfl (by decide) hh
          have hh : pm_run PT n fr lo 210 (121, [some (.ref 162), some (.int t1), some (.int t2), some (.int t3), some (.int t4), some (.int (x5 + t4)), some (.int (nI (i + 1))), some (.int x5)], [], aset h 170 96 (upd (Ar h 170) i (imax (nI 0) (imin (nI 999) x5))), 198, sl) = some R := hh
          obtain ⟨n, hh⟩ := rn_i rfl rfl rfl rfl hh
          have ed : v210_43b q cc gc h t1 t2 t3 t4 i x5 = (x5 + t4, aset h 170 96 (upd (Ar h 170) i (imax (nI 0) (imin (nI 999) x5)))) := (ct z5).trans ((ct z6).trans ((cf z7).trans ((ct z9).trans rfl)))
          rw [ed]
          exact ⟨n, some (.int x5), (hc_a rfl rfl hw), (fr_a rfl rfl fr_0), hh⟩
        | false =>
          have hh := en_f z9 hh
          have hh : pm_run PT n fr lo 210 (94, [some (.ref 162), some (.int t1), some (.int t2), some (.int t3), some (.int t4), some (.int x5), some (.int (nI i)), some (.int x5)], [.int (nI i), .ref 170], h, 198, sl) = some R := hh
          obtain ⟨n, hh⟩ := rn_i rfl rfl rfl rfl hh
          obtain ⟨n, hh⟩ := rn_i rfl rfl rfl rfl hh
          have hh : pm_run PT n fr lo 210 (110, [some (.ref 162), some (.int t1), some (.int t2), some (.int t3), some (.int t4), some (.int x5), some (.int (nI i)), some (.int x5)], [.int (nI 0), .int (nI i), .ref 170], h, 198, sl) = some R := hh
          obtain ⟨n, hx11, hh⟩ := en_st (t := i) (f := Ar h 170) (nI_clamp (by omega)) hw.wt rfl (by decide) rfl (by decide) rfl hh
          obtain ⟨n, hh⟩ := rn_i rfl rfl rfl rfl hh
          obtain ⟨n, hh⟩ := rn_i rfl rfl rfl rfl hh
          obtain ⟨n, hh⟩ := rn_i rfl rfl rfl rfl hh
          obtain ⟨n, hh⟩ := rn_i rfl rfl rfl rfl hh
          have hh : pm_run PT n fr lo 210 (118, [some (.ref 162), some (.int t1), some (.int t2), some (.int t3), some (.int t4), some (.int (x5 + t4)), some (.int (nI i)), some (.int x5)], [], aset h 170 96 (upd (Ar h 170) i (nI 0)), 198, sl) = some R := hh
          obtain ⟨n, hh⟩ := en_inc (x := i) (c := 1) (j := 6) rfl rfl (by decide) hh
          have hh : pm_run PT n fr lo 210 (121, [some (.ref 162), some (.int t1), some (.int t2), some (.int t3), some (.int t4), some (.int (x5 + t4)), some (.int (nI (i + 1))), some (.int x5)], [], aset h 170 96 (upd (Ar h 170) i (nI 0)), 198, sl) = some R := hh
          obtain ⟨n, hh⟩ := rn_i rfl rfl rfl rfl hh
          have ed : v210_43b q cc gc h t1 t2 t3 t4 i x5 = (x5 + t4, aset h 170 96 (upd (Ar h 170) i (nI 0))) := (ct z5).trans ((ct z6).trans ((cf z7).trans ((cf z9).trans rfl)))
          rw [ed]
          exact ⟨n, some (.int x5), (hc_a rfl rfl hw), (fr_a rfl rfl fr_0), hh⟩
    | false =>
      have hh := en_f z6 hh
      have hh : pm_run PT n fr lo 210 (67, [some (.ref 162), some (.int t1), some (.int t2), some (.int t3), some (.int t4), some (.int x5), some (.int (nI i)), o7], [], h, 198, sl) = some R := hh
      obtain ⟨n, hh⟩ := rn_i rfl rfl rfl rfl hh
      obtain ⟨n, hh⟩ := rn_i rfl rfl rfl rfl hh
      obtain ⟨n, hh⟩ := rn_i rfl rfl rfl rfl hh
      obtain ⟨n, hh⟩ := rn_i rfl rfl rfl rfl hh
      obtain ⟨n, hh⟩ := rn_i rfl rfl rfl rfl hh
      have hh : pm_run PT n fr lo 210 (78, [some (.ref 162), some (.int t1), some (.int t2), some (.int t3), some (.int t4), some (.int x5), some (.int (nI i)), some (.int ((x5).toInt16.toInt32))], [.ref 162], h, 198, sl) = some R := hh
      obtain ⟨n, hh⟩ := rn_gr hw.wt rfl rfl (by decide) rfl (by decide) (show _ = some (2, ((170 : Nat) : Int), 1) from rfl) rfl hh
      obtain ⟨n, hh⟩ := rn_i rfl rfl rfl rfl hh
      obtain ⟨n, hh⟩ := rn_i rfl rfl rfl rfl hh
      obtain ⟨n, hh⟩ := rn_i rfl rfl rfl rfl hh
      have hh : pm_run PT n fr lo 210 (85, [some (.ref 162), some (.int t1), some (.int t2), some (.int t3), some (.int t4), some (.int x5), some (.int (nI i)), some (.int ((x5).toInt16.toInt32))], [.int (nI 3), .int t1, .int (nI i), .ref 170], h, 198, sl) = some R := hh
      obtain ⟨n, hh⟩ := en_cn (cc := .eq) (off := 9) (t := 94) (b := pm_cmp .eq t1 (nI 3)) rfl rfl rfl hh
      cases z12 : pm_cmp .eq t1 (nI 3) with
      | true =>
        have hh := en_t z12 hh
        have hh : pm_run PT n fr lo 210 (94, [some (.ref 162), some (.int t1), some (.int t2), some (.int t3), some (.int t4), some (.int x5), some (.int (nI i)), some (.int ((x5).toInt16.toInt32))], [.int (nI i), .ref 170], h, 198, sl) = some R := hh
        obtain ⟨n, hh⟩ := rn_i rfl rfl rfl rfl hh
        obtain ⟨n, hh⟩ := rn_i rfl rfl rfl rfl hh
        have hh : pm_run PT n fr lo 210 (110, [some (.ref 162), some (.int t1), some (.int t2), some (.int t3), some (.int t4), some (.int x5), some (.int (nI i)), some (.int ((x5).toInt16.toInt32))], [.int (nI 0), .int (nI i), .ref 170], h, 198, sl) = some R := hh
        obtain ⟨n, hx13, hh⟩ := en_st (t := i) (f := Ar h 170) (nI_clamp (by omega)) hw.wt rfl (by decide) rfl (by decide) rfl hh
        obtain ⟨n, hh⟩ := rn_i rfl rfl rfl rfl hh
        obtain ⟨n, hh⟩ := rn_i rfl rfl rfl rfl hh
        obtain ⟨n, hh⟩ := rn_i rfl rfl rfl rfl hh
        obtain ⟨n, hh⟩ := rn_i rfl rfl rfl rfl hh
        have hh : pm_run PT n fr lo 210 (118, [some (.ref 162), some (.int t1), some (.int t2), some (.int t3), some (.int t4), some (.int (x5 + t4)), some (.int (nI i)), some (.int ((x5).toInt16.toInt32))], [], aset h 170 96 (upd (Ar h 170) i (nI 0)), 198, sl) = some R := hh
        obtain ⟨n, hh⟩ := en_inc (x := i) (c := 1) (j := 6) rfl rfl (by decide) hh
        have hh : pm_run PT n fr lo 210 (121, [some (.ref 162), some (.int t1), some (.int t2), some (.int t3), some (.int t4), some (.int (x5 + t4)), some (.int (nI (i + 1))), some (.int ((x5).toInt16.toInt32))], [], aset h 170 96 (upd (Ar h 170) i (nI 0)), 198, sl) = some R := hh
        obtain ⟨n, hh⟩ := rn_i rfl rfl rfl rfl hh
        have ed : v210_43b q cc gc h t1 t2 t3 t4 i x5 = (x5 + t4, aset h 170 96 (upd (Ar h 170) i (nI 0))) := (ct z5).trans ((cf z6).trans ((ct z12).trans rfl))
        rw [ed]
        exact ⟨n, some (.int ((x5).toInt16.toInt32)), (hc_a rfl rfl hw), (fr_a rfl rfl fr_0), hh⟩
      | false =>
        have hh := en_f z12 hh
        have hh : pm_run PT n fr lo 210 (88, [some (.ref 162), some (.int t1), some (.int t2), some (.int t3), some (.int t4), some (.int x5), some (.int (nI i)), some (.int ((x5).toInt16.toInt32))], [.int (nI i), .ref 170], h, 198, sl) = some R := hh
        obtain ⟨n, hh⟩ := rn_i rfl rfl rfl rfl hh
        obtain ⟨n, hh⟩ := rn_i rfl rfl rfl rfl hh
        have hh : pm_run PT n fr lo 210 (91, [some (.ref 162), some (.int t1), some (.int t2), some (.int t3), some (.int t4), some (.int x5), some (.int (nI i)), some (.int ((x5).toInt16.toInt32))], [.int t2, .int (nI i), .int (nI i), .ref 170], h, 198, sl) = some R := hh
        obtain ⟨n, hh⟩ := en_cn (cc := .lt) (off := 7) (t := 98) (b := pm_cmp .lt (nI i) t2) rfl rfl rfl hh
        cases z14 : pm_cmp .lt (nI i) t2 with
        | true =>
          have hh := en_t z14 hh
          have hh : pm_run PT n fr lo 210 (98, [some (.ref 162), some (.int t1), some (.int t2), some (.int t3), some (.int t4), some (.int x5), some (.int (nI i)), some (.int ((x5).toInt16.toInt32))], [.int (nI i), .ref 170], h, 198, sl) = some R := hh
          obtain ⟨n, hh⟩ := rn_i rfl rfl rfl rfl hh
          obtain ⟨n, hh⟩ := rn_i rfl rfl rfl rfl hh
          obtain ⟨n, hh⟩ := rn_i rfl rfl rfl rfl hh
          have hh : pm_run PT n fr lo 210 (104, [some (.ref 162), some (.int t1), some (.int t2), some (.int t3), some (.int t4), some (.int x5), some (.int (nI i)), some (.int ((x5).toInt16.toInt32))], [.int ((x5).toInt16.toInt32), .int (nI 999), .int (nI 0), .int (nI i), .ref 170], h, 198, sl) = some R := hh
          obtain ⟨n, hh⟩ := en_min rfl rfl rfl hh
          have hh : pm_run PT n fr lo 210 (107, [some (.ref 162), some (.int t1), some (.int t2), some (.int t3), some (.int t4), some (.int x5), some (.int (nI i)), some (.int ((x5).toInt16.toInt32))], [.int (imin (nI 999) ((x5).toInt16.toInt32)), .int (nI 0), .int (nI i), .ref 170], h, 198, sl) = some R := hh
          obtain ⟨n, hh⟩ := en_max rfl rfl rfl hh
          have hh : pm_run PT n fr lo 210 (110, [some (.ref 162), some (.int t1), some (.int t2), some (.int t3), some (.int t4), some (.int x5), some (.int (nI i)), some (.int ((x5).toInt16.toInt32))], [.int (imax (nI 0) (imin (nI 999) ((x5).toInt16.toInt32))), .int (nI i), .ref 170], h, 198, sl) = some R := hh
          obtain ⟨n, hx15, hh⟩ := en_st (t := i) (f := Ar h 170) (nI_clamp (by omega)) hw.wt rfl (by decide) rfl (by decide) rfl hh
          obtain ⟨n, hh⟩ := rn_i rfl rfl rfl rfl hh
          obtain ⟨n, hh⟩ := rn_i rfl rfl rfl rfl hh
          obtain ⟨n, hh⟩ := rn_i rfl rfl rfl rfl hh
          obtain ⟨n, hh⟩ := rn_i rfl rfl rfl rfl hh
          have hh : pm_run PT n fr lo 210 (118, [some (.ref 162), some (.int t1), some (.int t2), some (.int t3), some (.int t4), some (.int (x5 + t4)), some (.int (nI i)), some (.int ((x5).toInt16.toInt32))], [], aset h 170 96 (upd (Ar h 170) i (imax (nI 0) (imin (nI 999) ((x5).toInt16.toInt32)))), 198, sl) = some R := hh
          obtain ⟨n, hh⟩ := en_inc (x := i) (c := 1) (j := 6) rfl rfl (by decide) hh
          have hh : pm_run PT n fr lo 210 (121, [some (.ref 162), some (.int t1), some (.int t2), some (.int t3), some (.int t4), some (.int (x5 + t4)), some (.int (nI (i + 1))), some (.int ((x5).toInt16.toInt32))], [], aset h 170 96 (upd (Ar h 170) i (imax (nI 0) (imin (nI 999) ((x5).toInt16.toInt32)))), 198, sl) = some R := hh
          obtain ⟨n, hh⟩ := rn_i rfl rfl rfl rfl hh
          have ed : v210_43b q cc gc h t1 t2 t3 t4 i x5 = (x5 + t4, aset h 170 96 (upd (Ar h 170) i (imax (nI 0) (imin (nI 999) ((x5).toInt16.toInt32))))) := (ct z5).trans ((cf z6).trans ((cf z12).trans ((ct z14).trans rfl)))
          rw [ed]
          exact ⟨n, some (.int ((x5).toInt16.toInt32)), (hc_a rfl rfl hw), (fr_a rfl rfl fr_0), hh⟩
        | false =>
          have hh := en_f z14 hh
          have hh : pm_run PT n fr lo 210 (94, [some (.ref 162), some (.int t1), some (.int t2), some (.int t3), some (.int t4), some (.int x5), some (.int (nI i)), some (.int ((x5).toInt16.toInt32))], [.int (nI i), .ref 170], h, 198, sl) = some R := hh
          obtain ⟨n, hh⟩ := rn_i rfl rfl rfl rfl hh
          obtain ⟨n, hh⟩ := rn_i rfl rfl rfl rfl hh
          have hh : pm_run PT n fr lo 210 (110, [some (.ref 162), some (.int t1), some (.int t2), some (.int t3), some (.int t4), some (.int x5), some (.int (nI i)), some (.int ((x5).toInt16.toInt32))], [.int (nI 0), .int (nI i), .ref 170], h, 198, sl) = some R := hh
          obtain ⟨n, hx16, hh⟩ := en_st (t := i) (f := Ar h 170) (nI_clamp (by omega)) hw.wt rfl (by decide) rfl (by decide) rfl hh
          obtain ⟨n, hh⟩ := rn_i rfl rfl rfl rfl hh
          obtain ⟨n, hh⟩ := rn_i rfl rfl rfl rfl hh
          obtain ⟨n, hh⟩ := rn_i rfl rfl rfl rfl hh
          obtain ⟨n, hh⟩ := rn_i rfl rfl rfl rfl hh
          have hh : pm_run PT n fr lo 210 (118, [some (.ref 162), some (.int t1), some (.int t2), some (.int t3), some (.int t4), some (.int (x5 + t4)), some (.int (nI i)), some (.int ((x5).toInt16.toInt32))], [], aset h 170 96 (upd (Ar h 170) i (nI 0)), 198, sl) = some R := hh
          obtain ⟨n, hh⟩ := en_inc (x := i) (c := 1) (j := 6) rfl rfl (by decide) hh
          have hh : pm_run PT n fr lo 210 (121, [some (.ref 162), some (.int t1), some (.int t2), some (.int t3), some (.int t4), some (.int (x5 + t4)), some (.int (nI (i + 1))), some (.int ((x5).toInt16.toInt32))], [], aset h 170 96 (upd (Ar h 170) i (nI 0)), 198, sl) = some R := hh
          obtain ⟨n, hh⟩ := rn_i rfl rfl rfl rfl hh
          have ed : v210_43b q cc gc h t1 t2 t3 t4 i x5 = (x5 + t4, aset h 170 96 (upd (Ar h 170) i (nI 0))) := (ct z5).trans ((cf z6).trans ((cf z12).trans ((cf z14).trans rfl)))
          rw [ed]
          exact ⟨n, some (.int ((x5).toInt16.toInt32)), (hc_a rfl rfl hw), (fr_a rfl rfl fr_0), hh⟩
  | false =>
    have hh := en_f z5 hh
    have hh : pm_run PT n fr lo 210 (56, [some (.ref 162), some (.int t1), some (.int t2), some (.int t3), some (.int t4), some (.int x5), some (.int (nI i)), o7], [], h, 198, sl) = some R := hh
    obtain ⟨n, hh⟩ := rn_i rfl rfl rfl rfl hh
    obtain ⟨n, hh⟩ := rn_i rfl rfl rfl rfl hh
    obtain ⟨n, hh⟩ := rn_i rfl rfl rfl rfl hh
    obtain ⟨n, hh⟩ := rn_i rfl rfl rfl rfl hh
    obtain ⟨n, hh⟩ := rn_i rfl rfl rfl rfl hh
    have hh : pm_run PT n fr lo 210 (78, [some (.ref 162), some (.int t1), some (.int t2), some (.int t3), some (.int t4), some (.int x5), some (.int (nI i)), some (.int ((x5).toInt8.toInt32))], [.ref 162], h, 198, sl) = some R := hh
    obtain ⟨n, hh⟩ := rn_gr hw.wt rfl rfl (by decide) rfl (by decide) (show _ = some (2, ((170 : Nat) : Int), 1) from rfl) rfl hh
    obtain ⟨n, hh⟩ := rn_i rfl rfl rfl rfl hh
    obtain ⟨n, hh⟩ := rn_i rfl rfl rfl rfl hh
    obtain ⟨n, hh⟩ := rn_i rfl rfl rfl rfl hh
    have hh : pm_run PT n fr lo 210 (85, [some (.ref 162), some (.int t1), some (.int t2), some (.int t3), some (.int t4), some (.int x5), some (.int (nI i)), some (.int ((x5).toInt8.toInt32))], [.int (nI 3), .int t1, .int (nI i), .ref 170], h, 198, sl) = some R := hh
    obtain ⟨n, hh⟩ := en_cn (cc := .eq) (off := 9) (t := 94) (b := pm_cmp .eq t1 (nI 3)) rfl rfl rfl hh
    cases z17 : pm_cmp .eq t1 (nI 3) with
    | true =>
      have hh := en_t z17 hh
      have hh : pm_run PT n fr lo 210 (94, [some (.ref 162), some (.int t1), some (.int t2), some (.int t3), some (.int t4), some (.int x5), some (.int (nI i)), some (.int ((x5).toInt8.toInt32))], [.int (nI i), .ref 170], h, 198, sl) = some R := hh
      obtain ⟨n, hh⟩ := rn_i rfl rfl rfl rfl hh
      obtain ⟨n, hh⟩ := rn_i rfl rfl rfl rfl hh
      have hh : pm_run PT n fr lo 210 (110, [some (.ref 162), some (.int t1), some (.int t2), some (.int t3), some (.int t4), some (.int x5), some (.int (nI i)), some (.int ((x5).toInt8.toInt32))], [.int (nI 0), .int (nI i), .ref 170], h, 198, sl) = some R := hh
      obtain ⟨n, hx18, hh⟩ := en_st (t := i) (f := Ar h 170) (nI_clamp (by omega)) hw.wt rfl (by decide) rfl (by decide) rfl hh
      obtain ⟨n, hh⟩ := rn_i rfl rfl rfl rfl hh
      obtain ⟨n, hh⟩ := rn_i rfl rfl rfl rfl hh
      obtain ⟨n, hh⟩ := rn_i rfl rfl rfl rfl hh
      obtain ⟨n, hh⟩ := rn_i rfl rfl rfl rfl hh
      have hh : pm_run PT n fr lo 210 (118, [some (.ref 162), some (.int t1), some (.int t2), some (.int t3), some (.int t4), some (.int (x5 + t4)), some (.int (nI i)), some (.int ((x5).toInt8.toInt32))], [], aset h 170 96 (upd (Ar h 170) i (nI 0)), 198, sl) = some R := hh
      obtain ⟨n, hh⟩ := en_inc (x := i) (c := 1) (j := 6) rfl rfl (by decide) hh
      have hh : pm_run PT n fr lo 210 (121, [some (.ref 162), some (.int t1), some (.int t2), some (.int t3), some (.int t4), some (.int (x5 + t4)), some (.int (nI (i + 1))), some (.int ((x5).toInt8.toInt32))], [], aset h 170 96 (upd (Ar h 170) i (nI 0)), 198, sl) = some R := hh
      obtain ⟨n, hh⟩ := rn_i rfl rfl rfl rfl hh
      have ed : v210_43b q cc gc h t1 t2 t3 t4 i x5 = (x5 + t4, aset h 170 96 (upd (Ar h 170) i (nI 0))) := (cf z5).trans ((ct z17).trans rfl)
      rw [ed]
      exact ⟨n, some (.int ((x5).toInt8.toInt32)), (hc_a rfl rfl hw), (fr_a rfl rfl fr_0), hh⟩
    | false =>
      have hh := en_f z17 hh
      have hh : pm_run PT n fr lo 210 (88, [some (.ref 162), some (.int t1), some (.int t2), some (.int t3), some (.int t4), some (.int x5), some (.int (nI i)), some (.int ((x5).toInt8.toInt32))], [.int (nI i), .ref 170], h, 198, sl) = some R := hh
      obtain ⟨n, hh⟩ := rn_i rfl rfl rfl rfl hh
      obtain ⟨n, hh⟩ := rn_i rfl rfl rfl rfl hh
      have hh : pm_run PT n fr lo 210 (91, [some (.ref 162), some (.int t1), some (.int t2), some (.int t3), some (.int t4), some (.int x5), some (.int (nI i)), some (.int ((x5).toInt8.toInt32))], [.int t2, .int (nI i), .int (nI i), .ref 170], h, 198, sl) = some R := hh
      obtain ⟨n, hh⟩ := en_cn (cc := .lt) (off := 7) (t := 98) (b := pm_cmp .lt (nI i) t2) rfl rfl rfl hh
      cases z19 : pm_cmp .lt (nI i) t2 with
      | true =>
        have hh := en_t z19 hh
        have hh : pm_run PT n fr lo 210 (98, [some (.ref 162), some (.int t1), some (.int t2), some (.int t3), some (.int t4), some (.int x5), some (.int (nI i)), some (.int ((x5).toInt8.toInt32))], [.int (nI i), .ref 170], h, 198, sl) = some R := hh
        obtain ⟨n, hh⟩ := rn_i rfl rfl rfl rfl hh
        obtain ⟨n, hh⟩ := rn_i rfl rfl rfl rfl hh
        obtain ⟨n, hh⟩ := rn_i rfl rfl rfl rfl hh
        have hh : pm_run PT n fr lo 210 (104, [some (.ref 162), some (.int t1), some (.int t2), some (.int t3), some (.int t4), some (.int x5), some (.int (nI i)), some (.int ((x5).toInt8.toInt32))], [.int ((x5).toInt8.toInt32), .int (nI 999), .int (nI 0), .int (nI i), .ref 170], h, 198, sl) = some R := hh
        obtain ⟨n, hh⟩ := en_min rfl rfl rfl hh
        have hh : pm_run PT n fr lo 210 (107, [some (.ref 162), some (.int t1), some (.int t2), some (.int t3), some (.int t4), some (.int x5), some (.int (nI i)), some (.int ((x5).toInt8.toInt32))], [.int (imin (nI 999) ((x5).toInt8.toInt32)), .int (nI 0), .int (nI i), .ref 170], h, 198, sl) = some R := hh
        obtain ⟨n, hh⟩ := en_max rfl rfl rfl hh
        have hh : pm_run PT n fr lo 210 (110, [some (.ref 162), some (.int t1), some (.int t2), some (.int t3), some (.int t4), some (.int x5), some (.int (nI i)), some (.int ((x5).toInt8.toInt32))], [.int (imax (nI 0) (imin (nI 999) ((x5).toInt8.toInt32))), .int (nI i), .ref 170], h, 198, sl) = some R := hh
        obtain ⟨n, hx20, hh⟩ := en_st (t := i) (f := Ar h 170) (nI_clamp (by omega)) hw.wt rfl (by decide) rfl (by decide) rfl hh
        obtain ⟨n, hh⟩ := rn_i rfl rfl rfl rfl hh
        obtain ⟨n, hh⟩ := rn_i rfl rfl rfl rfl hh
        obtain ⟨n, hh⟩ := rn_i rfl rfl rfl rfl hh
        obtain ⟨n, hh⟩ := rn_i rfl rfl rfl rfl hh
        have hh : pm_run PT n fr lo 210 (118, [some (.ref 162), some (.int t1), some (.int t2), some (.int t3), some (.int t4), some (.int (x5 + t4)), some (.int (nI i)), some (.int ((x5).toInt8.toInt32))], [], aset h 170 96 (upd (Ar h 170) i (imax (nI 0) (imin (nI 999) ((x5).toInt8.toInt32)))), 198, sl) = some R := hh
        obtain ⟨n, hh⟩ := en_inc (x := i) (c := 1) (j := 6) rfl rfl (by decide) hh
        have hh : pm_run PT n fr lo 210 (121, [some (.ref 162), some (.int t1), some (.int t2), some (.int t3), some (.int t4), some (.int (x5 + t4)), some (.int (nI (i + 1))), some (.int ((x5).toInt8.toInt32))], [], aset h 170 96 (upd (Ar h 170) i (imax (nI 0) (imin (nI 999) ((x5).toInt8.toInt32)))), 198, sl) = some R := hh
        obtain ⟨n, hh⟩ := rn_i rfl rfl rfl rfl hh
        have ed : v210_43b q cc gc h t1 t2 t3 t4 i x5 = (x5 + t4, aset h 170 96 (upd (Ar h 170) i (imax (nI 0) (imin (nI 999) ((x5).toInt8.toInt32))))) := (cf z5).trans ((cf z17).trans ((ct z19).trans rfl))
        rw [ed]
        exact ⟨n, some (.int ((x5).toInt8.toInt32)), (hc_a rfl rfl hw), (fr_a rfl rfl fr_0), hh⟩
      | false =>
        have hh := en_f z19 hh
        have hh : pm_run PT n fr lo 210 (94, [some (.ref 162), some (.int t1), some (.int t2), some (.int t3), some (.int t4), some (.int x5), some (.int (nI i)), some (.int ((x5).toInt8.toInt32))], [.int (nI i), .ref 170], h, 198, sl) = some R := hh
        obtain ⟨n, hh⟩ := rn_i rfl rfl rfl rfl hh
        obtain ⟨n, hh⟩ := rn_i rfl rfl rfl rfl hh
        have hh : pm_run PT n fr lo 210 (110, [some (.ref 162), some (.int t1), some (.int t2), some (.int t3), some (.int t4), some (.int x5), some (.int (nI i)), some (.int ((x5).toInt8.toInt32))], [.int (nI 0), .int (nI i), .ref 170], h, 198, sl) = some R := hh
        obtain ⟨n, hx21, hh⟩ := en_st (t := i) (f := Ar h 170) (nI_clamp (by omega)) hw.wt rfl (by decide) rfl (by decide) rfl hh
        obtain ⟨n, hh⟩ := rn_i rfl rfl rfl rfl hh
        obtain ⟨n, hh⟩ := rn_i rfl rfl rfl rfl hh
        obtain ⟨n, hh⟩ := rn_i rfl rfl rfl rfl hh
        obtain ⟨n, hh⟩ := rn_i rfl rfl rfl rfl hh
        have hh : pm_run PT n fr lo 210 (118, [some (.ref 162), some (.int t1), some (.int t2), some (.int t3), some (.int t4), some (.int (x5 + t4)), some (.int (nI i)), some (.int ((x5).toInt8.toInt32))], [], aset h 170 96 (upd (Ar h 170) i (nI 0)), 198, sl) = some R := hh
        obtain ⟨n, hh⟩ := en_inc (x := i) (c := 1) (j := 6) rfl rfl (by decide) hh
        have hh : pm_run PT n fr lo 210 (121, [some (.ref 162), some (.int t1), some (.int t2), some (.int t3), some (.int t4), some (.int (x5 + t4)), some (.int (nI (i + 1))), some (.int ((x5).toInt8.toInt32))], [], aset h 170 96 (upd (Ar h 170) i (nI 0)), 198, sl) = some R := hh
        obtain ⟨n, hh⟩ := rn_i rfl rfl rfl rfl hh
        have ed : v210_43b q cc gc h t1 t2 t3 t4 i x5 = (x5 + t4, aset h 170 96 (upd (Ar h 170) i (nI 0))) := (cf z5).trans ((cf z17).trans ((cf z19).trans rfl))
        rw [ed]
        exact ⟨n, some (.int ((x5).toInt8.toInt32)), (hc_a rfl rfl hw), (fr_a rfl rfl fr_0), hh⟩
theorem v210_43_ok {fr lo sl cc gc : Nat} {q : QT} {R : pm_Rs} {t1 : Int32} {t2 : Int32} {t3 : Int32} {t4 : Int32} : ∀ {j i : Nat} {x5 : Int32} {o7 : Option Value} {h : pm_H} {n : Nat}, cc - i = j → i + j < 1000000 → HC q cc gc h → pm_run PT n fr lo 210 (43, [some (.ref 162), some (.int t1), some (.int t2), some (.int t3), some (.int t4), some (.int x5), some (.int (nI i)), o7], [], h, 198, sl) = some R → ∃ m wc w7, HC q cc gc ((v210_43 q cc gc t1 t2 t3 t4 j i (x5, h)).2) ∧ frm [170] [] h ((v210_43 q cc gc t1 t2 t3 t4 j i (x5, h)).2) ∧ pm_run PT m fr lo 210 (124, [some (.ref 162), some (.int t1), some (.int t2), some (.int t3), some (.int t4), some (.int ((v210_43 q cc gc t1 t2 t3 t4 j i (x5, h)).1)), wc, w7], [], (v210_43 q cc gc t1 t2 t3 t4 j i (x5, h)).2, 198, sl) = some R := by
  intro j
  induction j with
  | zero =>
    intro i x5 o7 h n e eI hw hh
    obtain ⟨n, hh⟩ := v210_43_e hw (by omega) (by omega) hh
    exact ⟨n, _, o7, hw, fr_0, hh⟩
  | succ j ih =>
    intro i x5 o7 h n e eI hw hh
    obtain ⟨n, w7, hc, hf, hh⟩ := v210_43_s hw (by omega) (by omega) hh
    obtain ⟨n, wc, v7, hc2, hf2, hh⟩ := ih (by omega) (by omega) hc hh
    exact ⟨n, wc, v7, hc2, fr_t hf2 hf, hh⟩
def v210 (q : QT) (cc gc : Nat) (h : pm_H) (k : Int32) (m : Int32) (e : Int32) (s : Int32) : Int32 × pm_H := cond (in_b ((k).toInt64) (Int64.ofNat 0) (3 : Int64)) (cond (pm_cmp .le m (nI 6)) (cond (pm_cmp .eq k (nI 3)) (cond (pm_cmp .ne k (nI 3)) (v177 q cc gc (Ar ((v210_43 q cc gc k m e s cc 0 (e, fset h 162 0 (.int (nI 0)))).2) 170), (v210_43 q cc gc k m e s cc 0 (e, fset h 162 0 (.int (nI 0)))).2) ((Int32.ofInt (-3)), (v210_43 q cc gc k m e s cc 0 (e, fset h 162 0 (.int (nI 0)))).2)) (cond (pm_cmp .ge m 0) (cond (pm_cmp .ne k (nI 3)) (v177 q cc gc (Ar ((v210_43 q cc gc k m e s cc 0 (e, fset h 162 0 (.int (nI 0)))).2) 170), (v210_43 q cc gc k m e s cc 0 (e, fset h 162 0 (.int (nI 0)))).2) ((Int32.ofInt (-3)), (v210_43 q cc gc k m e s cc 0 (e, fset h 162 0 (.int (nI 0)))).2)) ((Int32.ofInt (-2)), fset h 162 0 (.int (nI 0))))) ((Int32.ofInt (-1)), fset h 162 0 (.int (nI 0)))) ((Int32.ofInt (-1)), fset h 162 0 (.int (nI 0)))
theorem v210_ok {n fr lo sl cc gc : Nat} {q : QT} {h : pm_H} {R : pm_Rs} {k : Int32} {m : Int32} {e : Int32} {s : Int32} (hw : HC q cc gc h) (hh : pm_run PT n fr lo 210 (0, pm_l0 [.ref 162, .int k, .int m, .int e, .int s] 8, [], h, 198, sl) = some R) : R = (some (.int ((v210 q cc gc h k m e s).1)), (v210 q cc gc h k m e s).2, 198, sl) ∧ HC q cc gc ((v210 q cc gc h k m e s).2) ∧ frm [162, 170] [(162, 0)] h ((v210 q cc gc h k m e s).2) := by
  have hcc := hw.cb
  have hgc := hw.gb
  have hzr := hw.zr
  obtain ⟨n, hh⟩ := rn_i rfl rfl rfl rfl hh
  obtain ⟨n, hh⟩ := rn_i rfl rfl rfl rfl hh
  have hh : pm_run PT n fr lo 210 (2, [some (.ref 162), some (.int k), some (.int m), some (.int e), some (.int s), none, none, none], [.int (nI 0), .ref 162], h, 198, sl) = some R := hh
  obtain ⟨n, hh⟩ := rn_pi hw.wt rfl rfl (by decide) rfl (by decide) rfl hh
  obtain ⟨n, hh⟩ := rn_i rfl rfl rfl rfl hh
  obtain ⟨n, hh⟩ := rn_i rfl rfl rfl rfl hh
  obtain ⟨n, hh⟩ := rn_i rfl rfl rfl rfl hh
  obtain ⟨n, hh⟩ := rn_i rfl rfl rfl rfl hh
  have hh : pm_run PT n fr lo 210 (11, [some (.ref 162), some (.int k), some (.int m), some (.int e), some (.int s), none, none, none], [.long (3 : Int64), .long (Int64.ofNat 0), .long ((k).toInt64)], fset h 162 0 (.int (nI 0)), 198, sl) = some R := hh
  obtain ⟨n, fr1, lo1, r1, hh1, hh⟩ := rn_call (w := 2) (t := 163) rfl rfl hh
  have er1 := rn_dt (F := 10) (Lo := 1000) (hd_in (fr := 10) (lo := 1000) (h := fset h 162 0 (.int (nI 0))) (sl := sl) ((k).toInt64) (Int64.ofNat 0) (3 : Int64)) hh1
  subst er1
  have hh : pm_run PT n fr lo 210 (14, [some (.ref 162), some (.int k), some (.int m), some (.int e), some (.int s), none, none, none], [.int (cond (in_b ((k).toInt64) (Int64.ofNat 0) (3 : Int64)) 1 0)], fset h 162 0 (.int (nI 0)), 198, sl) = some R := hh
  obtain ⟨n, hh⟩ := en_zn (cc := .eq) (off := 9) (t := 23) (b := !(in_b ((k).toInt64) (Int64.ofNat 0) (3 : Int64))) eb_eq rfl rfl hh
  cases z2 : in_b ((k).toInt64) (Int64.ofNat 0) (3 : Int64) with
  | true =>
    have hh := en_nt z2 hh
    have hh : pm_run PT n fr lo 210 (17, [some (.ref 162), some (.int k), some (.int m), some (.int e), some (.int s), none, none, none], [], fset h 162 0 (.int (nI 0)), 198, sl) = some R := hh
    obtain ⟨n, hh⟩ := rn_i rfl rfl rfl rfl hh
    obtain ⟨n, hh⟩ := rn_i rfl rfl rfl rfl hh
    have hh : pm_run PT n fr lo 210 (20, [some (.ref 162), some (.int k), some (.int m), some (.int e), some (.int s), none, none, none], [.int (nI 6), .int m], fset h 162 0 (.int (nI 0)), 198, sl) = some R := hh
    obtain ⟨n, hh⟩ := en_cn (cc := .le) (off := 5) (t := 25) (b := pm_cmp .le m (nI 6)) rfl rfl rfl hh
    cases z3 : pm_cmp .le m (nI 6) with
    | true =>
      have hh := en_t z3 hh
      have hh : pm_run PT n fr lo 210 (25, [some (.ref 162), some (.int k), some (.int m), some (.int e), some (.int s), none, none, none], [], fset h 162 0 (.int (nI 0)), 198, sl) = some R := hh
      obtain ⟨n, hh⟩ := rn_i rfl rfl rfl rfl hh
      obtain ⟨n, hh⟩ := rn_i rfl rfl rfl rfl hh
      have hh : pm_run PT n fr lo 210 (27, [some (.ref 162), some (.int k), some (.int m), some (.int e), some (.int s), none, none, none], [.int (nI 3), .int k], fset h 162 0 (.int (nI 0)), 198, sl) = some R := hh
      obtain ⟨n, hh⟩ := en_cn (cc := .eq) (off := 10) (t := 37) (b := pm_cmp .eq k (nI 3)) rfl rfl rfl hh
      cases z4 : pm_cmp .eq k (nI 3) with
      | true =>
        have hh := en_t z4 hh
        have hh : pm_run PT n fr lo 210 (37, [some (.ref 162), some (.int k), some (.int m), some (.int e), some (.int s), none, none, none], [], fset h 162 0 (.int (nI 0)), 198, sl) = some R := hh
        obtain ⟨n, hh⟩ := rn_i rfl rfl rfl rfl hh
        obtain ⟨n, hh⟩ := rn_i rfl rfl rfl rfl hh
        obtain ⟨n, hh⟩ := rn_i rfl rfl rfl rfl hh
        obtain ⟨n, hh⟩ := rn_i rfl rfl rfl rfl hh
        have hh : pm_run PT n fr lo 210 (43, [some (.ref 162), some (.int k), some (.int m), some (.int e), some (.int s), some (.int e), some (.int (nI 0)), none], [], fset h 162 0 (.int (nI 0)), 198, sl) = some R := hh
        obtain ⟨n, u6, u5, hc7, hf8, hh⟩ := v210_43_ok (t1 := k) (t2 := m) (t3 := e) (t4 := s)  (i := 0) (x5 := e) (o7 := none) (j := cc) (by omega) (by omega) (hc_f rfl rfl (by decide) rfl hw) hh
        have hh : pm_run PT n fr lo 210 (124, [some (.ref 162), some (.int k), some (.int m), some (.int e), some (.int s), some (.int ((v210_43 q cc gc k m e s cc 0 (e, fset h 162 0 (.int (nI 0)))).1)), u6, u5], [], (v210_43 q cc gc k m e s cc 0 (e, fset h 162 0 (.int (nI 0)))).2, 198, sl) = some R := hh
        obtain ⟨n, hh⟩ := rn_i rfl rfl rfl rfl hh
        obtain ⟨n, hh⟩ := rn_i rfl rfl rfl rfl hh
        have hh : pm_run PT n fr lo 210 (126, [some (.ref 162), some (.int k), some (.int m), some (.int e), some (.int s), some (.int ((v210_43 q cc gc k m e s cc 0 (e, fset h 162 0 (.int (nI 0)))).1)), u6, u5], [.int (nI 3), .int k], (v210_43 q cc gc k m e s cc 0 (e, fset h 162 0 (.int (nI 0)))).2, 198, sl) = some R := hh
        obtain ⟨n, hh⟩ := en_cn (cc := .ne) (off := 8) (t := 134) (b := pm_cmp .ne k (nI 3)) rfl rfl rfl hh
        cases z9 : pm_cmp .ne k (nI 3) with
        | true =>
          have hh := en_t z9 hh
          have hh : pm_run PT n fr lo 210 (134, [some (.ref 162), some (.int k), some (.int m), some (.int e), some (.int s), some (.int ((v210_43 q cc gc k m e s cc 0 (e, fset h 162 0 (.int (nI 0)))).1)), u6, u5], [], (v210_43 q cc gc k m e s cc 0 (e, fset h 162 0 (.int (nI 0)))).2, 198, sl) = some R := hh
          obtain ⟨n, hh⟩ := rn_i rfl rfl rfl rfl hh
          obtain ⟨n, hh⟩ := rn_i rfl rfl rfl rfl hh
          have hh : pm_run PT n fr lo 210 (136, [some (.ref 162), some (.int k), some (.int m), some (.int e), some (.int s), some (.int ((v210_43 q cc gc k m e s cc 0 (e, fset h 162 0 (.int (nI 0)))).1)), u6, u5], [.ref 162, .ref 162], (v210_43 q cc gc k m e s cc 0 (e, fset h 162 0 (.int (nI 0)))).2, 198, sl) = some R := hh
          obtain ⟨n, hh⟩ := rn_gr hc7.wt rfl rfl (by decide) rfl (by decide) (show _ = some (2, ((170 : Nat) : Int), 1) from rfl) rfl hh
          have hh : pm_run PT n fr lo 210 (139, [some (.ref 162), some (.int k), some (.int m), some (.int e), some (.int s), some (.int ((v210_43 q cc gc k m e s cc 0 (e, fset h 162 0 (.int (nI 0)))).1)), u6, u5], [.ref 170, .ref 162], (v210_43 q cc gc k m e s cc 0 (e, fset h 162 0 (.int (nI 0)))).2, 198, sl) = some R := hh
          obtain ⟨n, fr1, lo1, r1, hh1, hh⟩ := rn_call (w := 0) (t := 177) rfl rfl hh
          have er10 := v177_ok hc7 hh1
          subst er10
          have hh : pm_run PT n fr lo 210 (142, [some (.ref 162), some (.int k), some (.int m), some (.int e), some (.int s), some (.int ((v210_43 q cc gc k m e s cc 0 (e, fset h 162 0 (.int (nI 0)))).1)), u6, u5], [.int (v177 q cc gc (Ar ((v210_43 q cc gc k m e s cc 0 (e, fset h 162 0 (.int (nI 0)))).2) 170))], (v210_43 q cc gc k m e s cc 0 (e, fset h 162 0 (.int (nI 0)))).2, 198, sl) = some R := hh
          have er11 : R = (some (.int (v177 q cc gc (Ar ((v210_43 q cc gc k m e s cc 0 (e, fset h 162 0 (.int (nI 0)))).2) 170))), (v210_43 q cc gc k m e s cc 0 (e, fset h 162 0 (.int (nI 0)))).2, 198, sl) := (rn_ret rfl (Or.inl rfl) hh).2
          have ed : v210 q cc gc h k m e s = (v177 q cc gc (Ar ((v210_43 q cc gc k m e s cc 0 (e, fset h 162 0 (.int (nI 0)))).2) 170), (v210_43 q cc gc k m e s cc 0 (e, fset h 162 0 (.int (nI 0)))).2) := (ct z2).trans ((ct z3).trans ((ct z4).trans ((ct z9).trans rfl)))
          refine ⟨?_, ?_, ?_⟩ <;> rw [ed]
          · exact er11
          · exact hc7
          · exact (fr_g rfl rfl hf8 (fr_f rfl rfl fr_0))
        | false =>
          have hh := en_f z9 hh
          have hh : pm_run PT n fr lo 210 (129, [some (.ref 162), some (.int k), some (.int m), some (.int e), some (.int s), some (.int ((v210_43 q cc gc k m e s cc 0 (e, fset h 162 0 (.int (nI 0)))).1)), u6, u5], [], (v210_43 q cc gc k m e s cc 0 (e, fset h 162 0 (.int (nI 0)))).2, 198, sl) = some R := hh
          obtain ⟨n, hh⟩ := rn_i rfl rfl rfl rfl hh
          obtain ⟨n, hh⟩ := rn_i rfl rfl rfl rfl hh
          have hh : pm_run PT n fr lo 210 (142, [some (.ref 162), some (.int k), some (.int m), some (.int e), some (.int s), some (.int ((v210_43 q cc gc k m e s cc 0 (e, fset h 162 0 (.int (nI 0)))).1)), u6, u5], [.int (Int32.ofInt (-3))], (v210_43 q cc gc k m e s cc 0 (e, fset h 162 0 (.int (nI 0)))).2, 198, sl) = some R := hh
          have er12 : R = (some (.int (Int32.ofInt (-3))), (v210_43 q cc gc k m e s cc 0 (e, fset h 162 0 (.int (nI 0)))).2, 198, sl) := (rn_ret rfl (Or.inl rfl) hh).2
          have ed : v210 q cc gc h k m e s = ((Int32.ofInt (-3)), (v210_43 q cc gc k m e s cc 0 (e, fset h 162 0 (.int (nI 0)))).2) := (ct z2).trans ((ct z3).trans ((ct z4).trans ((cf z9).trans rfl)))
          refine ⟨?_, ?_, ?_⟩ <;> rw [ed]
          · exact er12
          · exact hc7
          · exact (fr_g rfl rfl hf8 (fr_f rfl rfl fr_0))
      | false =>
        have hh := en_f z4 hh
        have hh : pm_run PT n fr lo 210 (30, [some (.ref 162), some (.int k), some (.int m), some (.int e), some (.int s), none, none, none], [], fset h 162 0 (.int (nI 0)), 198, sl) = some R := hh
        obtain ⟨n, hh⟩ := rn_i rfl rfl rfl rfl hh
        have hh : pm_run PT n fr lo 210 (31, [some (.ref 162), some (.int k), some (.int m), some (.int e), some (.int s), none, none, none], [.int m], fset h 162 0 (.int (nI 0)), 198, sl) = some R := hh
        obtain ⟨n, hh⟩ := en_zn (cc := .ge) (off := 6) (t := 37) (b := pm_cmp .ge m 0) rfl rfl rfl hh
        cases z13 : pm_cmp .ge m 0 with
        | true =>
          have hh := en_t z13 hh
          have hh : pm_run PT n fr lo 210 (37, [some (.ref 162), some (.int k), some (.int m), some (.int e), some (.int s), none, none, none], [], fset h 162 0 (.int (nI 0)), 198, sl) = some R := hh
          obtain ⟨n, hh⟩ := rn_i rfl rfl rfl rfl hh
          obtain ⟨n, hh⟩ := rn_i rfl rfl rfl rfl hh
          obtain ⟨n, hh⟩ := rn_i rfl rfl rfl rfl hh
          obtain ⟨n, hh⟩ := rn_i rfl rfl rfl rfl hh
          have hh : pm_run PT n fr lo 210 (43, [some (.ref 162), some (.int k), some (.int m), some (.int e), some (.int s), some (.int e), some (.int (nI 0)), none], [], fset h 162 0 (.int (nI 0)), 198, sl) = some R := hh
          obtain ⟨n, u15, u14, hc16, hf17, hh⟩ := v210_43_ok (t1 := k) (t2 := m) (t3 := e) (t4 := s)  (i := 0) (x5 := e) (o7 := none) (j := cc) (by omega) (by omega) (hc_f rfl rfl (by decide) rfl hw) hh
          have hh : pm_run PT n fr lo 210 (124, [some (.ref 162), some (.int k), some (.int m), some (.int e), some (.int s), some (.int ((v210_43 q cc gc k m e s cc 0 (e, fset h 162 0 (.int (nI 0)))).1)), u15, u14], [], (v210_43 q cc gc k m e s cc 0 (e, fset h 162 0 (.int (nI 0)))).2, 198, sl) = some R := hh
          obtain ⟨n, hh⟩ := rn_i rfl rfl rfl rfl hh
          obtain ⟨n, hh⟩ := rn_i rfl rfl rfl rfl hh
          have hh : pm_run PT n fr lo 210 (126, [some (.ref 162), some (.int k), some (.int m), some (.int e), some (.int s), some (.int ((v210_43 q cc gc k m e s cc 0 (e, fset h 162 0 (.int (nI 0)))).1)), u15, u14], [.int (nI 3), .int k], (v210_43 q cc gc k m e s cc 0 (e, fset h 162 0 (.int (nI 0)))).2, 198, sl) = some R := hh
          obtain ⟨n, hh⟩ := en_cn (cc := .ne) (off := 8) (t := 134) (b := pm_cmp .ne k (nI 3)) rfl rfl rfl hh
          cases z18 : pm_cmp .ne k (nI 3) with
          | true =>
            have hh := en_t z18 hh
            have hh : pm_run PT n fr lo 210 (134, [some (.ref 162), some (.int k), some (.int m), some (.int e), some (.int s), some (.int ((v210_43 q cc gc k m e s cc 0 (e, fset h 162 0 (.int (nI 0)))).1)), u15, u14], [], (v210_43 q cc gc k m e s cc 0 (e, fset h 162 0 (.int (nI 0)))).2, 198, sl) = some R := hh
            obtain ⟨n, hh⟩ := rn_i rfl rfl rfl rfl hh
            obtain ⟨n, hh⟩ := rn_i rfl rfl rfl rfl hh
            have hh : pm_run PT n fr lo 210 (136, [some (.ref 162), some (.int k), some (.int m), some (.int e), some (.int s), some (.int ((v210_43 q cc gc k m e s cc 0 (e, fset h 162 0 (.int (nI 0)))).1)), u15, u14], [.ref 162, .ref 162], (v210_43 q cc gc k m e s cc 0 (e, fset h 162 0 (.int (nI 0)))).2, 198, sl) = some R := hh
            obtain ⟨n, hh⟩ := rn_gr hc16.wt rfl rfl (by decide) rfl (by decide) (show _ = some (2, ((170 : Nat) : Int), 1) from rfl) rfl hh
            have hh : pm_run PT n fr lo 210 (139, [some (.ref 162), some (.int k), some (.int m), some (.int e), some (.int s), some (.int ((v210_43 q cc gc k m e s cc 0 (e, fset h 162 0 (.int (nI 0)))).1)), u15, u14], [.ref 170, .ref 162], (v210_43 q cc gc k m e s cc 0 (e, fset h 162 0 (.int (nI 0)))).2, 198, sl) = some R := hh
            obtain ⟨n, fr1, lo1, r1, hh1, hh⟩ := rn_call (w := 0) (t := 177) rfl rfl hh
            have er19 := v177_ok hc16 hh1
            subst er19
            have hh : pm_run PT n fr lo 210 (142, [some (.ref 162), some (.int k), some (.int m), some (.int e), some (.int s), some (.int ((v210_43 q cc gc k m e s cc 0 (e, fset h 162 0 (.int (nI 0)))).1)), u15, u14], [.int (v177 q cc gc (Ar ((v210_43 q cc gc k m e s cc 0 (e, fset h 162 0 (.int (nI 0)))).2) 170))], (v210_43 q cc gc k m e s cc 0 (e, fset h 162 0 (.int (nI 0)))).2, 198, sl) = some R := hh
            have er20 : R = (some (.int (v177 q cc gc (Ar ((v210_43 q cc gc k m e s cc 0 (e, fset h 162 0 (.int (nI 0)))).2) 170))), (v210_43 q cc gc k m e s cc 0 (e, fset h 162 0 (.int (nI 0)))).2, 198, sl) := (rn_ret rfl (Or.inl rfl) hh).2
            have ed : v210 q cc gc h k m e s = (v177 q cc gc (Ar ((v210_43 q cc gc k m e s cc 0 (e, fset h 162 0 (.int (nI 0)))).2) 170), (v210_43 q cc gc k m e s cc 0 (e, fset h 162 0 (.int (nI 0)))).2) := (ct z2).trans ((ct z3).trans ((cf z4).trans ((ct z13).trans ((ct z18).trans rfl))))
            refine ⟨?_, ?_, ?_⟩ <;> rw [ed]
            · exact er20
            · exact hc16
            · exact (fr_g rfl rfl hf17 (fr_f rfl rfl fr_0))
          | false =>
            have hh := en_f z18 hh
            have hh : pm_run PT n fr lo 210 (129, [some (.ref 162), some (.int k), some (.int m), some (.int e), some (.int s), some (.int ((v210_43 q cc gc k m e s cc 0 (e, fset h 162 0 (.int (nI 0)))).1)), u15, u14], [], (v210_43 q cc gc k m e s cc 0 (e, fset h 162 0 (.int (nI 0)))).2, 198, sl) = some R := hh
            obtain ⟨n, hh⟩ := rn_i rfl rfl rfl rfl hh
            obtain ⟨n, hh⟩ := rn_i rfl rfl rfl rfl hh
            have hh : pm_run PT n fr lo 210 (142, [some (.ref 162), some (.int k), some (.int m), some (.int e), some (.int s), some (.int ((v210_43 q cc gc k m e s cc 0 (e, fset h 162 0 (.int (nI 0)))).1)), u15, u14], [.int (Int32.ofInt (-3))], (v210_43 q cc gc k m e s cc 0 (e, fset h 162 0 (.int (nI 0)))).2, 198, sl) = some R := hh
            have er21 : R = (some (.int (Int32.ofInt (-3))), (v210_43 q cc gc k m e s cc 0 (e, fset h 162 0 (.int (nI 0)))).2, 198, sl) := (rn_ret rfl (Or.inl rfl) hh).2
            have ed : v210 q cc gc h k m e s = ((Int32.ofInt (-3)), (v210_43 q cc gc k m e s cc 0 (e, fset h 162 0 (.int (nI 0)))).2) := (ct z2).trans ((ct z3).trans ((cf z4).trans ((ct z13).trans ((cf z18).trans rfl))))
            refine ⟨?_, ?_, ?_⟩ <;> rw [ed]
            · exact er21
            · exact hc16
            · exact (fr_g rfl rfl hf17 (fr_f rfl rfl fr_0))
        | false =>
          have hh := en_f z13 hh
          have hh : pm_run PT n fr lo 210 (34, [some (.ref 162), some (.int k), some (.int m), some (.int e), some (.int s), none, none, none], [], fset h 162 0 (.int (nI 0)), 198, sl) = some R := hh
          obtain ⟨n, hh⟩ := rn_i rfl rfl rfl rfl hh
          have hh : pm_run PT n fr lo 210 (36, [some (.ref 162), some (.int k), some (.int m), some (.int e), some (.int s), none, none, none], [.int (Int32.ofInt (-2))], fset h 162 0 (.int (nI 0)), 198, sl) = some R := hh
          have er22 : R = (some (.int (Int32.ofInt (-2))), fset h 162 0 (.int (nI 0)), 198, sl) := (rn_ret rfl (Or.inl rfl) hh).2
          have ed : v210 q cc gc h k m e s = ((Int32.ofInt (-2)), fset h 162 0 (.int (nI 0))) := (ct z2).trans ((ct z3).trans ((cf z4).trans ((cf z13).trans rfl)))
          refine ⟨?_, ?_, ?_⟩ <;> rw [ed]
          · exact er22
          · exact (hc_f rfl rfl (by decide) rfl hw)
          · exact (fr_f rfl rfl fr_0)
    | false =>
      have hh := en_f z3 hh
      have hh : pm_run PT n fr lo 210 (23, [some (.ref 162), some (.int k), some (.int m), some (.int e), some (.int s), none, none, none], [], fset h 162 0 (.int (nI 0)), 198, sl) = some R := hh
      obtain ⟨n, hh⟩ := rn_i rfl rfl rfl rfl hh
      have hh : pm_run PT n fr lo 210 (24, [some (.ref 162), some (.int k), some (.int m), some (.int e), some (.int s), none, none, none], [.int (Int32.ofInt (-1))], fset h 162 0 (.int (nI 0)), 198, sl) = some R := hh
      have er23 : R = (some (.int (Int32.ofInt (-1))), fset h 162 0 (.int (nI 0)), 198, sl) := (rn_ret rfl (Or.inl rfl) hh).2
      have ed : v210 q cc gc h k m e s = ((Int32.ofInt (-1)), fset h 162 0 (.int (nI 0))) := (ct z2).trans ((cf z3).trans rfl)
      refine ⟨?_, ?_, ?_⟩ <;> rw [ed]
      · exact er23
      · exact (hc_f rfl rfl (by decide) rfl hw)
      · exact (fr_f rfl rfl fr_0)
  | false =>
    have hh := en_nf z2 hh
    have hh : pm_run PT n fr lo 210 (23, [some (.ref 162), some (.int k), some (.int m), some (.int e), some (.int s), none, none, none], [], fset h 162 0 (.int (nI 0)), 198, sl) = some R := hh
    obtain ⟨n, hh⟩ := rn_i rfl rfl rfl rfl hh
    have hh : pm_run PT n fr lo 210 (24, [some (.ref 162), some (.int k), some (.int m), some (.int e), some (.int s), none, none, none], [.int (Int32.ofInt (-1))], fset h 162 0 (.int (nI 0)), 198, sl) = some R := hh
    have er24 : R = (some (.int (Int32.ofInt (-1))), fset h 162 0 (.int (nI 0)), 198, sl) := (rn_ret rfl (Or.inl rfl) hh).2
    have ed : v210 q cc gc h k m e s = ((Int32.ofInt (-1)), fset h 162 0 (.int (nI 0))) := (cf z2).trans rfl
    refine ⟨?_, ?_, ?_⟩ <;> rw [ed]
    · exact er24
    · exact (hc_f rfl rfl (by decide) rfl hw)
    · exact (fr_f rfl rfl fr_0)
def v230 (q : QT) (cc gc : Nat) (h : pm_H) (g : Nat) (c : Nat) : Int32 × pm_H := cond (decide (g < gc)) (cond (decide (c < cc)) ((v201 q cc gc (fset h 162 0 (.int (nI 0))) g c).1, (v201 q cc gc (fset h 162 0 (.int (nI 0))) g c).2) ((Int32.ofInt (-1)), fset h 162 0 (.int (nI 0)))) ((Int32.ofInt (-1)), fset h 162 0 (.int (nI 0)))
theorem v230_ok {n fr lo sl cc gc : Nat} {q : QT} {h : pm_H} {R : pm_Rs} {g : Nat} {c : Nat} (hw : HC q cc gc h) (h_g : g < 10000) (h_c : c < 10000) (hh : pm_run PT n fr lo 230 (0, pm_l0 [.ref 162, .int (nI g), .int (nI c)] 3, [], h, 198, sl) = some R) : R = (some (.int ((v230 q cc gc h g c).1)), (v230 q cc gc h g c).2, 198, sl) ∧ HC q cc gc ((v230 q cc gc h g c).2) ∧ frm [162, 176, 177] [(162, 0)] h ((v230 q cc gc h g c).2) := by
  have hcc := hw.cb
  have hgc := hw.gb
  have hzr := hw.zr
  obtain ⟨n, hh⟩ := rn_i rfl rfl rfl rfl hh
  obtain ⟨n, hh⟩ := rn_i rfl rfl rfl rfl hh
  have hh : pm_run PT n fr lo 230 (2, [some (.ref 162), some (.int (nI g)), some (.int (nI c))], [.int (nI 0), .ref 162], h, 198, sl) = some R := hh
  obtain ⟨n, hh⟩ := rn_pi hw.wt rfl rfl (by decide) rfl (by decide) rfl hh
  obtain ⟨n, hh⟩ := rn_i rfl rfl rfl rfl hh
  obtain ⟨n, hh⟩ := rn_i rfl rfl rfl rfl hh
  have hh : pm_run PT n fr lo 230 (7, [some (.ref 162), some (.int (nI g)), some (.int (nI c))], [.int (nI g), .ref 162], fset h 162 0 (.int (nI 0)), 198, sl) = some R := hh
  obtain ⟨n, fr1, lo1, r1, hh1, hh⟩ := rn_call (w := 0) (t := 169) rfl rfl hh
  have er1 := en_mg hgc (hc_m4 (hc_f rfl rfl (by decide) rfl hw)) hh1
  rw [cB_n (by omega)] at er1
  subst er1
  have hh : pm_run PT n fr lo 230 (10, [some (.ref 162), some (.int (nI g)), some (.int (nI c))], [.int (cond (decide (g < gc)) 1 0)], fset h 162 0 (.int (nI 0)), 198, sl) = some R := hh
  obtain ⟨n, hh⟩ := en_zn (cc := .eq) (off := 24) (t := 34) (b := !(decide (g < gc))) eb_eq rfl rfl hh
  cases z2 : decide (g < gc) with
  | true =>
    have hh := en_nt z2 hh
    have hh : pm_run PT n fr lo 230 (13, [some (.ref 162), some (.int (nI g)), some (.int (nI c))], [], fset h 162 0 (.int (nI 0)), 198, sl) = some R := hh
    have y3 := of_decide_eq_true z2
    obtain ⟨n, hh⟩ := rn_i rfl rfl rfl rfl hh
    obtain ⟨n, hh⟩ := rn_i rfl rfl rfl rfl hh
    have hh : pm_run PT n fr lo 230 (15, [some (.ref 162), some (.int (nI g)), some (.int (nI c))], [.int (nI c), .ref 162], fset h 162 0 (.int (nI 0)), 198, sl) = some R := hh
    obtain ⟨n, fr1, lo1, r1, hh1, hh⟩ := rn_call (w := 0) (t := 168) rfl rfl hh
    have er4 := mi_run hcc (hc_m3 (hc_f rfl rfl (by decide) rfl hw)) hh1
    rw [cB_n (by omega)] at er4
    subst er4
    have hh : pm_run PT n fr lo 230 (18, [some (.ref 162), some (.int (nI g)), some (.int (nI c))], [.int (cond (decide (c < cc)) 1 0)], fset h 162 0 (.int (nI 0)), 198, sl) = some R := hh
    obtain ⟨n, hh⟩ := en_zn (cc := .eq) (off := 16) (t := 34) (b := !(decide (c < cc))) eb_eq rfl rfl hh
    cases z5 : decide (c < cc) with
    | true =>
      have hh := en_nt z5 hh
      have hh : pm_run PT n fr lo 230 (21, [some (.ref 162), some (.int (nI g)), some (.int (nI c))], [], fset h 162 0 (.int (nI 0)), 198, sl) = some R := hh
      have y6 := of_decide_eq_true z5
      obtain ⟨n, hh⟩ := rn_i rfl rfl rfl rfl hh
      obtain ⟨n, hh⟩ := rn_i rfl rfl rfl rfl hh
      have hh : pm_run PT n fr lo 230 (23, [some (.ref 162), some (.int (nI g)), some (.int (nI c))], [.ref 162, .ref 162], fset h 162 0 (.int (nI 0)), 198, sl) = some R := hh
      obtain ⟨n, hh⟩ := rn_gr (hc_f rfl rfl (by decide) rfl hw).wt rfl rfl (by decide) rfl (by decide) (show _ = some (2, ((170 : Nat) : Int), 1) from rfl) rfl hh
      obtain ⟨n, hh⟩ := rn_i rfl rfl rfl rfl hh
      obtain ⟨n, hh⟩ := rn_i rfl rfl rfl rfl hh
      have hh : pm_run PT n fr lo 230 (28, [some (.ref 162), some (.int (nI g)), some (.int (nI c))], [.int (nI c), .int (nI g), .ref 170, .ref 162], fset h 162 0 (.int (nI 0)), 198, sl) = some R := hh
      obtain ⟨n, fr1, lo1, r1, hh1, hh⟩ := rn_call (w := 0) (t := 201) rfl rfl hh
      obtain ⟨er7, hc8, hf9⟩ := v201_ok (g := g) (c := c) (hc_f rfl rfl (by decide) rfl hw) (by omega) (by omega) hh1
      subst er7
      obtain ⟨n, hh⟩ := rn_i rfl rfl rfl rfl hh
      have hh : pm_run PT n fr lo 230 (35, [some (.ref 162), some (.int (nI g)), some (.int (nI c))], [.int ((v201 q cc gc (fset h 162 0 (.int (nI 0))) g c).1)], (v201 q cc gc (fset h 162 0 (.int (nI 0))) g c).2, 198, sl) = some R := hh
      have er10 : R = (some (.int ((v201 q cc gc (fset h 162 0 (.int (nI 0))) g c).1)), (v201 q cc gc (fset h 162 0 (.int (nI 0))) g c).2, 198, sl) := (rn_ret rfl (Or.inl rfl) hh).2
      have ed : v230 q cc gc h g c = ((v201 q cc gc (fset h 162 0 (.int (nI 0))) g c).1, (v201 q cc gc (fset h 162 0 (.int (nI 0))) g c).2) := (ct z2).trans ((ct z5).trans rfl)
      refine ⟨?_, ?_, ?_⟩ <;> rw [ed]
      · exact er10
      · exact hc8
      · exact (fr_g rfl rfl hf9 (fr_f rfl rfl fr_0))
    | false =>
      have hh := en_nf z5 hh
      have hh : pm_run PT n fr lo 230 (34, [some (.ref 162), some (.int (nI g)), some (.int (nI c))], [], fset h 162 0 (.int (nI 0)), 198, sl) = some R := hh
      have y11 := of_decide_eq_false z5
      obtain ⟨n, hh⟩ := rn_i rfl rfl rfl rfl hh
      have hh : pm_run PT n fr lo 230 (35, [some (.ref 162), some (.int (nI g)), some (.int (nI c))], [.int (Int32.ofInt (-1))], fset h 162 0 (.int (nI 0)), 198, sl) = some R := hh
      have er12 : R = (some (.int (Int32.ofInt (-1))), fset h 162 0 (.int (nI 0)), 198, sl) := (rn_ret rfl (Or.inl rfl) hh).2
      have ed : v230 q cc gc h g c = ((Int32.ofInt (-1)), fset h 162 0 (.int (nI 0))) := (ct z2).trans ((cf z5).trans rfl)
      refine ⟨?_, ?_, ?_⟩ <;> rw [ed]
      · exact er12
      · exact (hc_f rfl rfl (by decide) rfl hw)
      · exact (fr_f rfl rfl fr_0)
  | false =>
    have hh := en_nf z2 hh
    have hh : pm_run PT n fr lo 230 (34, [some (.ref 162), some (.int (nI g)), some (.int (nI c))], [], fset h 162 0 (.int (nI 0)), 198, sl) = some R := hh
    have y13 := of_decide_eq_false z2
    obtain ⟨n, hh⟩ := rn_i rfl rfl rfl rfl hh
    have hh : pm_run PT n fr lo 230 (35, [some (.ref 162), some (.int (nI g)), some (.int (nI c))], [.int (Int32.ofInt (-1))], fset h 162 0 (.int (nI 0)), 198, sl) = some R := hh
    have er14 : R = (some (.int (Int32.ofInt (-1))), fset h 162 0 (.int (nI 0)), 198, sl) := (rn_ret rfl (Or.inl rfl) hh).2
    have ed : v230 q cc gc h g c = ((Int32.ofInt (-1)), fset h 162 0 (.int (nI 0))) := (cf z2).trans rfl
    refine ⟨?_, ?_, ?_⟩ <;> rw [ed]
    · exact er14
    · exact (hc_f rfl rfl (by decide) rfl hw)
    · exact (fr_f rfl rfl fr_0)
def v231_28b (q : QT) (cc gc : Nat) (h : pm_H) (m1 : Nat) (i : Nat) (x2 : Int32) (x3 : Int32) (x4 : Int32) : Int32 × Int32 × Int32 × pm_H := cond (pm_cmp .eq (nI i) ((Ar h 170) (78 + m1))) (x2, x3, x4, h) (cond (pm_cmp .le ((v201 q cc gc h m1 i).1) x3) x2 (nI i), imax x3 ((v201 q cc gc h m1 i).1), imin x4 ((v201 q cc gc h m1 i).1), (v201 q cc gc h m1 i).2)
def v231_28 (q : QT) (cc gc : Nat) (m1 : Nat) (j i : Nat) (a : Int32 × Int32 × Int32 × pm_H) : Int32 × Int32 × Int32 × pm_H := lp (fun i a => v231_28b q cc gc a.2.2.2 m1 i a.1 a.2.1 a.2.2.1) j i a
theorem v231_28_e {n fr lo sl cc gc : Nat} {q : QT} {h : pm_H} {R : pm_Rs} {m1 : Nat} {i : Nat} {x2 : Int32} {x3 : Int32} {x4 : Int32} {o6 : Option Value} (hw : HC q cc gc h) (h_m1 : m1 < 10000) (hi : cc ≤ i) (hI : i < 1000000) (hh : pm_run PT n fr lo 231 (28, [some (.ref 162), some (.int (nI m1)), some (.int x2), some (.int x3), some (.int x4), some (.int (nI i)), o6], [], h, 198, sl) = some R) : ∃ m, pm_run PT m fr lo 231 (99, [some (.ref 162), some (.int (nI m1)), some (.int x2), some (.int x3), some (.int x4), some (.int (nI i)), o6], [], h, 198, sl) = some R := by
  have hcc := hw.cb
  have hgc := hw.gb
  have hzr := hw.zr
  obtain ⟨n, hh⟩ := rn_i rfl rfl rfl rfl hh
  obtain ⟨n, hh⟩ := rn_i rfl rfl rfl rfl hh
  have hh : pm_run PT n fr lo 231 (31, [some (.ref 162), some (.int (nI m1)), some (.int x2), some (.int x3), some (.int x4), some (.int (nI i)), o6], [.ref 162, .int (nI i)], h, 198, sl) = some R := hh
  obtain ⟨n, hh⟩ := rn_gi (x := nI cc) hw.wt rfl rfl (by decide) rfl (by decide) rfl hw.m3 hh
  have hh : pm_run PT n fr lo 231 (34, [some (.ref 162), some (.int (nI m1)), some (.int x2), some (.int x3), some (.int x4), some (.int (nI i)), o6], [.int (nI cc), .int (nI i)], h, 198, sl) = some R := hh
  obtain ⟨n, hh⟩ := en_cn (cc := .ge) (off := 65) (t := 99) (b := decide (cc ≤ i)) (hI_ge (by omega) (by omega)) rfl rfl hh
  have hh := en_t (show decide (cc ≤ i) = true from decide_eq_true (by omega)) hh
  have hh : pm_run PT n fr lo 231 (99, [some (.ref 162), some (.int (nI m1)), some (.int x2), some (.int x3), some (.int x4), some (.int (nI i)), o6], [], h, 198, sl) = some R := hh
  exact ⟨n, hh⟩
theorem v231_28_s {n fr lo sl cc gc : Nat} {q : QT} {h : pm_H} {R : pm_Rs} {m1 : Nat} {i : Nat} {x2 : Int32} {x3 : Int32} {x4 : Int32} {o6 : Option Value} (hw : HC q cc gc h) (h_m1 : m1 < 10000) (hi : i < cc) (hI : i < 1000000) (hh : pm_run PT n fr lo 231 (28, [some (.ref 162), some (.int (nI m1)), some (.int x2), some (.int x3), some (.int x4), some (.int (nI i)), o6], [], h, 198, sl) = some R) : ∃ m w6, HC q cc gc ((v231_28b q cc gc h m1 i x2 x3 x4).2.2.2) ∧ frm [176, 177] [] h ((v231_28b q cc gc h m1 i x2 x3 x4).2.2.2) ∧ pm_run PT m fr lo 231 (28, [some (.ref 162), some (.int (nI m1)), some (.int ((v231_28b q cc gc h m1 i x2 x3 x4).1)), some (.int ((v231_28b q cc gc h m1 i x2 x3 x4).2.1)), some (.int ((v231_28b q cc gc h m1 i x2 x3 x4).2.2.1)), some (.int (nI (i + 1))), w6], [], (v231_28b q cc gc h m1 i x2 x3 x4).2.2.2, 198, sl) = some R := by
  have hcc := hw.cb
  have hgc := hw.gb
  have hzr := hw.zr
  obtain ⟨n, hh⟩ := rn_i rfl rfl rfl rfl hh
  obtain ⟨n, hh⟩ := rn_i rfl rfl rfl rfl hh
  have hh : pm_run PT n fr lo 231 (31, [some (.ref 162), some (.int (nI m1)), some (.int x2), some (.int x3), some (.int x4), some (.int (nI i)), o6], [.ref 162, .int (nI i)], h, 198, sl) = some R := hh
  obtain ⟨n, hh⟩ := rn_gi (x := nI cc) hw.wt rfl rfl (by decide) rfl (by decide) rfl hw.m3 hh
  have hh : pm_run PT n fr lo 231 (34, [some (.ref 162), some (.int (nI m1)), some (.int x2), some (.int x3), some (.int x4), some (.int (nI i)), o6], [.int (nI cc), .int (nI i)], h, 198, sl) = some R := hh
  obtain ⟨n, hh⟩ := en_cn (cc := .ge) (off := 65) (t := 99) (b := decide (cc ≤ i)) (hI_ge (by omega) (by omega)) rfl rfl hh
  have hh := en_f (show decide (cc ≤ i) = false from decide_eq_false (by omega)) hh
  have hh : pm_run PT n fr lo 231 (37, [some (.ref 162), some (.int (nI m1)), some (.int x2), some (.int x3), some (.int x4), some (.int (nI i)), o6], [], h, 198, sl) = some R := hh
  obtain ⟨n, hh⟩ := rn_i rfl rfl rfl rfl hh
  obtain ⟨n, hh⟩ := rn_i rfl rfl rfl rfl hh
  have hh : pm_run PT n fr lo 231 (40, [some (.ref 162), some (.int (nI m1)), some (.int x2), some (.int x3), some (.int x4), some (.int (nI i)), o6], [.ref 162, .int (nI i)], h, 198, sl) = some R := hh
  obtain ⟨n, hh⟩ := rn_gr hw.wt rfl rfl (by decide) rfl (by decide) (show _ = some (2, ((170 : Nat) : Int), 1) from rfl) rfl hh
  obtain ⟨n, hh⟩ := rn_i rfl rfl rfl rfl hh
  obtain ⟨n, hh⟩ := rn_i rfl rfl rfl rfl hh
  have hh : pm_run PT n fr lo 231 (46, [some (.ref 162), some (.int (nI m1)), some (.int x2), some (.int x3), some (.int x4), some (.int (nI i)), o6], [.int (nI m1), .int (nI 78), .ref 170, .int (nI i)], h, 198, sl) = some R := hh
  obtain ⟨n, hh⟩ := en_add rfl hh
  have hh : pm_run PT n fr lo 231 (47, [some (.ref 162), some (.int (nI m1)), some (.int x2), some (.int x3), some (.int x4), some (.int (nI i)), o6], [.int (nI (78 + m1)), .ref 170, .int (nI i)], h, 198, sl) = some R := hh
  have hh : pm_run PT n fr lo 231 (47, [some (.ref 162), some (.int (nI m1)), some (.int x2), some (.int x3), some (.int x4), some (.int (nI i)), o6], [.int (nI (78 + m1)), .ref 170, .int (nI i)], h, 198, sl) = some R := hh
  obtain ⟨n, hx4, hh⟩ := en_lu (t := 78 + m1) (f := Ar h 170) (w := (Ar h 170) (78 + m1)) (nI_clamp (by omega)) hw.wt rfl (by decide) rfl (by decide) rfl (fun _ => rfl) hh
  have hh : pm_run PT n fr lo 231 (48, [some (.ref 162), some (.int (nI m1)), some (.int x2), some (.int x3), some (.int x4), some (.int (nI i)), o6], [.int ((Ar h 170) (78 + m1)), .int (nI i)], h, 198, sl) = some R := hh
  obtain ⟨n, hh⟩ := en_cn (cc := .eq) (off := 45) (t := 93) (b := pm_cmp .eq (nI i) ((Ar h 170) (78 + m1))) rfl rfl rfl hh
  cases z5 : pm_cmp .eq (nI i) ((Ar h 170) (78 + m1)) with
  | true =>
    have hh := en_t z5 hh
    have hh : pm_run PT n fr lo 231 (93, [some (.ref 162), some (.int (nI m1)), some (.int x2), some (.int x3), some (.int x4), some (.int (nI i)), o6], [], h, 198, sl) = some R := hh
    have hh : pm_run PT n fr lo 231 (93, [some (.ref 162), some (.int (nI m1)), some (.int x2), some (.int x3), some (.int x4), some (.int (nI i)), o6], [], h, 198, sl) = some R := hh
    obtain ⟨n, hh⟩ := en_inc (x := i) (c := 1) (j := 5) rfl rfl (by decide) hh
    have hh : pm_run PT n fr lo 231 (96, [some (.ref 162), some (.int (nI m1)), some (.int x2), some (.int x3), some (.int x4), some (.int (nI (i + 1))), o6], [], h, 198, sl) = some R := hh
    obtain ⟨n, hh⟩ := rn_i rfl rfl rfl rfl hh
    have ed : v231_28b q cc gc h m1 i x2 x3 x4 = (x2, x3, x4, h) := (ct z5).trans rfl
    rw [ed]
    exact ⟨n, o6, hw, fr_0, hh⟩
  | false =>
    have hh := en_f z5 hh
    have hh : pm_run PT n fr lo 231 (51, [some (.ref 162), some (.int (nI m1)), some (.int x2), some (.int x3), some (.int x4), some (.int (nI i)), o6], [], h, 198, sl) = some R := hh
    obtain ⟨n, hh⟩ := rn_i rfl rfl rfl rfl hh
    obtain ⟨n, hh⟩ := rn_i rfl rfl rfl rfl hh
    have hh : pm_run PT n fr lo 231 (53, [some (.ref 162), some (.int (nI m1)), some (.int x2), some (.int x3), some (.int x4), some (.int (nI i)), o6], [.ref 162, .ref 162], h, 198, sl) = some R := hh
    obtain ⟨n, hh⟩ := rn_gr hw.wt rfl rfl (by decide) rfl (by decide) (show _ = some (2, ((170 : Nat) : Int), 1) from rfl) rfl hh
    obtain ⟨n, hh⟩ := rn_i rfl rfl rfl rfl hh
    obtain ⟨n, hh⟩ := rn_i rfl rfl rfl rfl hh
    have hh : pm_run PT n fr lo 231 (59, [some (.ref 162), some (.int (nI m1)), some (.int x2), some (.int x3), some (.int x4), some (.int (nI i)), o6], [.int (nI i), .int (nI m1), .ref 170, .ref 162], h, 198, sl) = some R := hh
    obtain ⟨n, fr1, lo1, r1, hh1, hh⟩ := rn_call (w := 0) (t := 201) rfl rfl hh
    obtain ⟨er6, hc7, hf8⟩ := v201_ok (g := m1) (c := i) hw (by omega) (by omega) hh1
    subst er6
    obtain ⟨n, hh⟩ := rn_i rfl rfl rfl rfl hh
    obtain ⟨n, hh⟩ := rn_i rfl rfl rfl rfl hh
    obtain ⟨n, hh⟩ := rn_i rfl rfl rfl rfl hh
    have hh : pm_run PT n fr lo 231 (67, [some (.ref 162), some (.int (nI m1)), some (.int x2), some (.int x3), some (.int x4), some (.int (nI i)), some (.int ((v201 q cc gc h m1 i).1))], [.int x3, .int ((v201 q cc gc h m1 i).1)], (v201 q cc gc h m1 i).2, 198, sl) = some R := hh
    obtain ⟨n, hh⟩ := en_cn (cc := .le) (off := 8) (t := 75) (b := pm_cmp .le ((v201 q cc gc h m1 i).1) x3) rfl rfl rfl hh
    have hj10 : ∃ mJ, pm_run PT mJ fr lo 231 (cond (pm_cmp .le ((v201 q cc gc h m1 i).1) x3) (76, [some (.ref 162), some (.int (nI m1)), some (.int x2), some (.int x3), some (.int x4), some (.int (nI i)), some (.int ((v201 q cc gc h m1 i).1))], [.int x2], (v201 q cc gc h m1 i).2, 198, sl) (76, [some (.ref 162), some (.int (nI m1)), some (.int x2), some (.int x3), some (.int x4), some (.int (nI i)), some (.int ((v201 q cc gc h m1 i).1))], [.int (nI i)], (v201 q cc gc h m1 i).2, 198, sl)) = some R := en_J (fun z9 => by
        have hh := en_t z9 hh
        have hh : pm_run PT n fr lo 231 (75, [some (.ref 162), some (.int (nI m1)), some (.int x2), some (.int x3), some (.int x4), some (.int (nI i)), some (.int ((v201 q cc gc h m1 i).1))], [], (v201 q cc gc h m1 i).2, 198, sl) = some R := hh
        obtain ⟨n, hh⟩ := rn_i rfl rfl rfl rfl hh
        exact ⟨n, hh⟩) (fun z9 => by
        have hh := en_f z9 hh
        have hh : pm_run PT n fr lo 231 (70, [some (.ref 162), some (.int (nI m1)), some (.int x2), some (.int x3), some (.int x4), some (.int (nI i)), some (.int ((v201 q cc gc h m1 i).1))], [], (v201 q cc gc h m1 i).2, 198, sl) = some R := hh
        obtain ⟨n, hh⟩ := rn_i rfl rfl rfl rfl hh
        obtain ⟨n, hh⟩ := rn_i rfl rfl rfl rfl hh
        exact ⟨n, hh⟩)
    obtain ⟨n, hh⟩ := hj10
    rw [show (cond (pm_cmp .le ((v201 q cc gc h m1 i).1) x3) (76, [some (.ref 162), some (.int (nI m1)), some (.int x2), some (.int x3), some (.int x4), some (.int (nI i)), some (.int ((v201 q cc gc h m1 i).1))], [.int x2], (v201 q cc gc h m1 i).2, 198, sl) (76, [some (.ref 162), some (.int (nI m1)), some (.int x2), some (.int x3), some (.int x4), some (.int (nI i)), some (.int ((v201 q cc gc h m1 i).1))], [.int (nI i)], (v201 q cc gc h m1 i).2, 198, sl) : pm_St) = (76, [some (.ref 162), some (.int (nI m1)), some (.int x2), some (.int x3), some (.int x4), some (.int (nI i)), some (.int ((v201 q cc gc h m1 i).1))], [.int (cond (pm_cmp .le ((v201 q cc gc h m1 i).1) x3) x2 (nI i))], (v201 q cc gc h m1 i).2, 198, sl) from by cases (pm_cmp .le ((v201 q cc gc h m1 i).1) x3) <;> rfl] at hh
    obtain ⟨n, hh⟩ := rn_i rfl rfl rfl rfl hh
    obtain ⟨n, hh⟩ := rn_i rfl rfl rfl rfl hh
    obtain ⟨n, hh⟩ := rn_i rfl rfl rfl rfl hh
    have hh : pm_run PT n fr lo 231 (80, [some (.ref 162), some (.int (nI m1)), some (.int (cond (pm_cmp .le ((v201 q cc gc h m1 i).1) x3) x2 (nI i))), some (.int x3), some (.int x4), some (.int (nI i)), some (.int ((v201 q cc gc h m1 i).1))], [.int ((v201 q cc gc h m1 i).1), .int x3], (v201 q cc gc h m1 i).2, 198, sl) = some R := hh
    obtain ⟨n, hh⟩ := en_max rfl rfl rfl hh
    obtain ⟨n, hh⟩ := rn_i rfl rfl rfl rfl hh
    obtain ⟨n, hh⟩ := rn_i rfl rfl rfl rfl hh
    obtain ⟨n, hh⟩ := rn_i rfl rfl rfl rfl hh
    have hh : pm_run PT n fr lo 231 (88, [some (.ref 162), some (.int (nI m1)), some (.int (cond (pm_cmp .le ((v201 q cc gc h m1 i).1) x3) x2 (nI i))), some (.int (imax x3 ((v201 q cc gc h m1 i).1))), some (.int x4), some (.int (nI i)), some (.int ((v201 q cc gc h m1 i).1))], [.int ((v201 q cc gc h m1 i).1), .int x4], (v201 q cc gc h m1 i).2, 198, sl) = some R := hh
    obtain ⟨n, hh⟩ := en_min rfl rfl rfl hh
    obtain ⟨n, hh⟩ := rn_i rfl rfl rfl rfl hh
    have hh : pm_run PT n fr lo 231 (93, [some (.ref 162), some (.int (nI m1)), some (.int (cond (pm_cmp .le ((v201 q cc gc h m1 i).1) x3) x2 (nI i))), some (.int (imax x3 ((v201 q cc gc h m1 i).1))), some (.int (imin x4 ((v201 q cc gc h m1 i).1))), some (.int (nI i)), some (.int ((v201 q cc gc h m1 i).1))], [], (v201 q cc gc h m1 i).2, 198, sl) = some R := hh
    obtain ⟨n, hh⟩ := en_inc (x := i) (c := 1) (j := 5) rfl rfl (by decide) hh
    have hh : pm_run PT n fr lo 231 (96, [some (.ref 162), some (.int (nI m1)), some (.int (cond (pm_cmp .le ((v201 q cc gc h m1 i).1) x3) x2 (nI i))), some (.int (imax x3 ((v201 q cc gc h m1 i).1))), some (.int (imin x4 ((v201 q cc gc h m1 i).1))), some (.int (nI (i + 1))), some (.int ((v201 q cc gc h m1 i).1))], [], (v201 q cc gc h m1 i).2, 198, sl) = some R := hh
    obtain ⟨n, hh⟩ := rn_i rfl rfl rfl rfl hh
    have ed : v231_28b q cc gc h m1 i x2 x3 x4 = (cond (pm_cmp .le ((v201 q cc gc h m1 i).1) x3) x2 (nI i), imax x3 ((v201 q cc gc h m1 i).1), imin x4 ((v201 q cc gc h m1 i).1), (v201 q cc gc h m1 i).2) := (cf z5).trans rfl
    rw [ed]
    exact ⟨n, some (.int ((v201 q cc gc h m1 i).1)), hc7, (fr_g rfl rfl hf8 fr_0), hh⟩
theorem v231_28_ok {fr lo sl cc gc : Nat} {q : QT} {R : pm_Rs} {m1 : Nat} : ∀ {j i : Nat} {x2 : Int32} {x3 : Int32} {x4 : Int32} {o6 : Option Value} {h : pm_H} {n : Nat}, cc - i = j → i + j < 1000000 → HC q cc gc h → m1 < 10000 → pm_run PT n fr lo 231 (28, [some (.ref 162), some (.int (nI m1)), some (.int x2), some (.int x3), some (.int x4), some (.int (nI i)), o6], [], h, 198, sl) = some R → ∃ m wc w6, HC q cc gc ((v231_28 q cc gc m1 j i (x2, x3, x4, h)).2.2.2) ∧ frm [176, 177] [] h ((v231_28 q cc gc m1 j i (x2, x3, x4, h)).2.2.2) ∧ pm_run PT m fr lo 231 (99, [some (.ref 162), some (.int (nI m1)), some (.int ((v231_28 q cc gc m1 j i (x2, x3, x4, h)).1)), some (.int ((v231_28 q cc gc m1 j i (x2, x3, x4, h)).2.1)), some (.int ((v231_28 q cc gc m1 j i (x2, x3, x4, h)).2.2.1)), wc, w6], [], (v231_28 q cc gc m1 j i (x2, x3, x4, h)).2.2.2, 198, sl) = some R := by
  intro j
  induction j with
  | zero =>
    intro i x2 x3 x4 o6 h n e eI hw h_m1 hh
    obtain ⟨n, hh⟩ := v231_28_e hw h_m1 (by omega) (by omega) hh
    exact ⟨n, _, o6, hw, fr_0, hh⟩
  | succ j ih =>
    intro i x2 x3 x4 o6 h n e eI hw h_m1 hh
    obtain ⟨n, w6, hc, hf, hh⟩ := v231_28_s hw h_m1 (by omega) (by omega) hh
    obtain ⟨n, wc, v6, hc2, hf2, hh⟩ := ih (by omega) (by omega) hc h_m1 hh
    exact ⟨n, wc, v6, hc2, fr_t hf2 hf, hh⟩
def v231 (q : QT) (cc gc : Nat) (h : pm_H) (g : Nat) : Int32 × pm_H := cond (decide (g < gc)) (cond (pm_cmp .lt ((v231_28 q cc gc g cc 0 ((Int32.ofInt (-2)), (Int32.ofInt (-1)), (nI 1000000), fset h 162 0 (.int (nI 0)))).1) 0) ((v231_28 q cc gc g cc 0 ((Int32.ofInt (-2)), (Int32.ofInt (-1)), (nI 1000000), fset h 162 0 (.int (nI 0)))).1, (v231_28 q cc gc g cc 0 ((Int32.ofInt (-2)), (Int32.ofInt (-1)), (nI 1000000), fset h 162 0 (.int (nI 0)))).2.2.2) ((v231_28 q cc gc g cc 0 ((Int32.ofInt (-2)), (Int32.ofInt (-1)), (nI 1000000), fset h 162 0 (.int (nI 0)))).1, v167 q cc gc (v167 q cc gc (fset ((v231_28 q cc gc g cc 0 ((Int32.ofInt (-2)), (Int32.ofInt (-1)), (nI 1000000), fset h 162 0 (.int (nI 0)))).2.2.2) 162 1 (.int (nI 0))) (((v231_28 q cc gc g cc 0 ((Int32.ofInt (-2)), (Int32.ofInt (-1)), (nI 1000000), fset h 162 0 (.int (nI 0)))).2.1).toInt64)) (((v231_28 q cc gc g cc 0 ((Int32.ofInt (-2)), (Int32.ofInt (-1)), (nI 1000000), fset h 162 0 (.int (nI 0)))).2.2.1).toInt64))) ((Int32.ofInt (-1)), fset h 162 0 (.int (nI 0)))
theorem v231_ok {n fr lo sl cc gc : Nat} {q : QT} {h : pm_H} {R : pm_Rs} {g : Nat} (hw : HC q cc gc h) (h_g : g < 10000) (hh : pm_run PT n fr lo 231 (0, pm_l0 [.ref 162, .int (nI g)] 7, [], h, 198, sl) = some R) : R = (some (.int ((v231 q cc gc h g).1)), (v231 q cc gc h g).2, 198, sl) ∧ HC q cc gc ((v231 q cc gc h g).2) ∧ frm [162, 163, 176, 177] [(162, 0), (162, 1)] h ((v231 q cc gc h g).2) := by
  have hcc := hw.cb
  have hgc := hw.gb
  have hzr := hw.zr
  obtain ⟨n, hh⟩ := rn_i rfl rfl rfl rfl hh
  obtain ⟨n, hh⟩ := rn_i rfl rfl rfl rfl hh
  have hh : pm_run PT n fr lo 231 (2, [some (.ref 162), some (.int (nI g)), none, none, none, none, none], [.int (nI 0), .ref 162], h, 198, sl) = some R := hh
  obtain ⟨n, hh⟩ := rn_pi hw.wt rfl rfl (by decide) rfl (by decide) rfl hh
  obtain ⟨n, hh⟩ := rn_i rfl rfl rfl rfl hh
  obtain ⟨n, hh⟩ := rn_i rfl rfl rfl rfl hh
  have hh : pm_run PT n fr lo 231 (7, [some (.ref 162), some (.int (nI g)), none, none, none, none, none], [.int (nI g), .ref 162], fset h 162 0 (.int (nI 0)), 198, sl) = some R := hh
  obtain ⟨n, fr1, lo1, r1, hh1, hh⟩ := rn_call (w := 0) (t := 169) rfl rfl hh
  have er1 := en_mg hgc (hc_m4 (hc_f rfl rfl (by decide) rfl hw)) hh1
  rw [cB_n (by omega)] at er1
  subst er1
  have hh : pm_run PT n fr lo 231 (10, [some (.ref 162), some (.int (nI g)), none, none, none, none, none], [.int (cond (decide (g < gc)) 1 0)], fset h 162 0 (.int (nI 0)), 198, sl) = some R := hh
  obtain ⟨n, hh⟩ := en_zn (cc := .ne) (off := 5) (t := 15) (b := decide (g < gc)) eb_ne rfl rfl hh
  cases z2 : decide (g < gc) with
  | true =>
    have hh := en_t z2 hh
    have hh : pm_run PT n fr lo 231 (15, [some (.ref 162), some (.int (nI g)), none, none, none, none, none], [], fset h 162 0 (.int (nI 0)), 198, sl) = some R := hh
    have y3 := of_decide_eq_true z2
    obtain ⟨n, hh⟩ := rn_i rfl rfl rfl rfl hh
    obtain ⟨n, hh⟩ := rn_i rfl rfl rfl rfl hh
    obtain ⟨n, hh⟩ := rn_i rfl rfl rfl rfl hh
    obtain ⟨n, hh⟩ := rn_i rfl rfl rfl rfl hh
    obtain ⟨n, hh⟩ := rn_i rfl rfl rfl rfl hh
    obtain ⟨n, hh⟩ := rn_i rfl rfl rfl rfl hh
    obtain ⟨n, hh⟩ := rn_i rfl rfl rfl rfl hh
    obtain ⟨n, hh⟩ := rn_i rfl rfl rfl rfl hh
    have hh : pm_run PT n fr lo 231 (28, [some (.ref 162), some (.int (nI g)), some (.int (Int32.ofInt (-2))), some (.int (Int32.ofInt (-1))), some (.int (nI 1000000)), some (.int (nI 0)), none], [], fset h 162 0 (.int (nI 0)), 198, sl) = some R := hh
    obtain ⟨n, u5, u4, hc6, hf7, hh⟩ := v231_28_ok (m1 := g)  (i := 0) (x2 := (Int32.ofInt (-2))) (x3 := (Int32.ofInt (-1))) (x4 := (nI 1000000)) (o6 := none) (j := cc) (by omega) (by omega) (hc_f rfl rfl (by decide) rfl hw) (by omega) hh
    have hh : pm_run PT n fr lo 231 (99, [some (.ref 162), some (.int (nI g)), some (.int ((v231_28 q cc gc g cc 0 ((Int32.ofInt (-2)), (Int32.ofInt (-1)), (nI 1000000), fset h 162 0 (.int (nI 0)))).1)), some (.int ((v231_28 q cc gc g cc 0 ((Int32.ofInt (-2)), (Int32.ofInt (-1)), (nI 1000000), fset h 162 0 (.int (nI 0)))).2.1)), some (.int ((v231_28 q cc gc g cc 0 ((Int32.ofInt (-2)), (Int32.ofInt (-1)), (nI 1000000), fset h 162 0 (.int (nI 0)))).2.2.1)), u5, u4], [], (v231_28 q cc gc g cc 0 ((Int32.ofInt (-2)), (Int32.ofInt (-1)), (nI 1000000), fset h 162 0 (.int (nI 0)))).2.2.2, 198, sl) = some R := hh
    obtain ⟨n, hh⟩ := rn_i rfl rfl rfl rfl hh
    have hh : pm_run PT n fr lo 231 (100, [some (.ref 162), some (.int (nI g)), some (.int ((v231_28 q cc gc g cc 0 ((Int32.ofInt (-2)), (Int32.ofInt (-1)), (nI 1000000), fset h 162 0 (.int (nI 0)))).1)), some (.int ((v231_28 q cc gc g cc 0 ((Int32.ofInt (-2)), (Int32.ofInt (-1)), (nI 1000000), fset h 162 0 (.int (nI 0)))).2.1)), some (.int ((v231_28 q cc gc g cc 0 ((Int32.ofInt (-2)), (Int32.ofInt (-1)), (nI 1000000), fset h 162 0 (.int (nI 0)))).2.2.1)), u5, u4], [.int ((v231_28 q cc gc g cc 0 ((Int32.ofInt (-2)), (Int32.ofInt (-1)), (nI 1000000), fset h 162 0 (.int (nI 0)))).1)], (v231_28 q cc gc g cc 0 ((Int32.ofInt (-2)), (Int32.ofInt (-1)), (nI 1000000), fset h 162 0 (.int (nI 0)))).2.2.2, 198, sl) = some R := hh
    obtain ⟨n, hh⟩ := en_zn (cc := .lt) (off := 21) (t := 121) (b := pm_cmp .lt ((v231_28 q cc gc g cc 0 ((Int32.ofInt (-2)), (Int32.ofInt (-1)), (nI 1000000), fset h 162 0 (.int (nI 0)))).1) 0) rfl rfl rfl hh
    cases z8 : pm_cmp .lt ((v231_28 q cc gc g cc 0 ((Int32.ofInt (-2)), (Int32.ofInt (-1)), (nI 1000000), fset h 162 0 (.int (nI 0)))).1) 0 with
    | true =>
      have hh := en_t z8 hh
      have hh : pm_run PT n fr lo 231 (121, [some (.ref 162), some (.int (nI g)), some (.int ((v231_28 q cc gc g cc 0 ((Int32.ofInt (-2)), (Int32.ofInt (-1)), (nI 1000000), fset h 162 0 (.int (nI 0)))).1)), some (.int ((v231_28 q cc gc g cc 0 ((Int32.ofInt (-2)), (Int32.ofInt (-1)), (nI 1000000), fset h 162 0 (.int (nI 0)))).2.1)), some (.int ((v231_28 q cc gc g cc 0 ((Int32.ofInt (-2)), (Int32.ofInt (-1)), (nI 1000000), fset h 162 0 (.int (nI 0)))).2.2.1)), u5, u4], [], (v231_28 q cc gc g cc 0 ((Int32.ofInt (-2)), (Int32.ofInt (-1)), (nI 1000000), fset h 162 0 (.int (nI 0)))).2.2.2, 198, sl) = some R := hh
      obtain ⟨n, hh⟩ := rn_i rfl rfl rfl rfl hh
      have hh : pm_run PT n fr lo 231 (122, [some (.ref 162), some (.int (nI g)), some (.int ((v231_28 q cc gc g cc 0 ((Int32.ofInt (-2)), (Int32.ofInt (-1)), (nI 1000000), fset h 162 0 (.int (nI 0)))).1)), some (.int ((v231_28 q cc gc g cc 0 ((Int32.ofInt (-2)), (Int32.ofInt (-1)), (nI 1000000), fset h 162 0 (.int (nI 0)))).2.1)), some (.int ((v231_28 q cc gc g cc 0 ((Int32.ofInt (-2)), (Int32.ofInt (-1)), (nI 1000000), fset h 162 0 (.int (nI 0)))).2.2.1)), u5, u4], [.int ((v231_28 q cc gc g cc 0 ((Int32.ofInt (-2)), (Int32.ofInt (-1)), (nI 1000000), fset h 162 0 (.int (nI 0)))).1)], (v231_28 q cc gc g cc 0 ((Int32.ofInt (-2)), (Int32.ofInt (-1)), (nI 1000000), fset h 162 0 (.int (nI 0)))).2.2.2, 198, sl) = some R := hh
      have er9 : R = (some (.int ((v231_28 q cc gc g cc 0 ((Int32.ofInt (-2)), (Int32.ofInt (-1)), (nI 1000000), fset h 162 0 (.int (nI 0)))).1)), (v231_28 q cc gc g cc 0 ((Int32.ofInt (-2)), (Int32.ofInt (-1)), (nI 1000000), fset h 162 0 (.int (nI 0)))).2.2.2, 198, sl) := (rn_ret rfl (Or.inl rfl) hh).2
      have ed : v231 q cc gc h g = ((v231_28 q cc gc g cc 0 ((Int32.ofInt (-2)), (Int32.ofInt (-1)), (nI 1000000), fset h 162 0 (.int (nI 0)))).1, (v231_28 q cc gc g cc 0 ((Int32.ofInt (-2)), (Int32.ofInt (-1)), (nI 1000000), fset h 162 0 (.int (nI 0)))).2.2.2) := (ct z2).trans ((ct z8).trans rfl)
      refine ⟨?_, ?_, ?_⟩ <;> rw [ed]
      · exact er9
      · exact hc6
      · exact (fr_g rfl rfl hf7 (fr_f rfl rfl fr_0))
    | false =>
      have hh := en_f z8 hh
      have hh : pm_run PT n fr lo 231 (103, [some (.ref 162), some (.int (nI g)), some (.int ((v231_28 q cc gc g cc 0 ((Int32.ofInt (-2)), (Int32.ofInt (-1)), (nI 1000000), fset h 162 0 (.int (nI 0)))).1)), some (.int ((v231_28 q cc gc g cc 0 ((Int32.ofInt (-2)), (Int32.ofInt (-1)), (nI 1000000), fset h 162 0 (.int (nI 0)))).2.1)), some (.int ((v231_28 q cc gc g cc 0 ((Int32.ofInt (-2)), (Int32.ofInt (-1)), (nI 1000000), fset h 162 0 (.int (nI 0)))).2.2.1)), u5, u4], [], (v231_28 q cc gc g cc 0 ((Int32.ofInt (-2)), (Int32.ofInt (-1)), (nI 1000000), fset h 162 0 (.int (nI 0)))).2.2.2, 198, sl) = some R := hh
      obtain ⟨n, hh⟩ := rn_i rfl rfl rfl rfl hh
      obtain ⟨n, hh⟩ := rn_i rfl rfl rfl rfl hh
      have hh : pm_run PT n fr lo 231 (105, [some (.ref 162), some (.int (nI g)), some (.int ((v231_28 q cc gc g cc 0 ((Int32.ofInt (-2)), (Int32.ofInt (-1)), (nI 1000000), fset h 162 0 (.int (nI 0)))).1)), some (.int ((v231_28 q cc gc g cc 0 ((Int32.ofInt (-2)), (Int32.ofInt (-1)), (nI 1000000), fset h 162 0 (.int (nI 0)))).2.1)), some (.int ((v231_28 q cc gc g cc 0 ((Int32.ofInt (-2)), (Int32.ofInt (-1)), (nI 1000000), fset h 162 0 (.int (nI 0)))).2.2.1)), u5, u4], [.int (nI 0), .ref 162], (v231_28 q cc gc g cc 0 ((Int32.ofInt (-2)), (Int32.ofInt (-1)), (nI 1000000), fset h 162 0 (.int (nI 0)))).2.2.2, 198, sl) = some R := hh
      obtain ⟨n, hh⟩ := rn_pi hc6.wt rfl rfl (by decide) rfl (by decide) rfl hh
      obtain ⟨n, hh⟩ := rn_i rfl rfl rfl rfl hh
      obtain ⟨n, hh⟩ := rn_i rfl rfl rfl rfl hh
      obtain ⟨n, hh⟩ := rn_i rfl rfl rfl rfl hh
      have hh : pm_run PT n fr lo 231 (111, [some (.ref 162), some (.int (nI g)), some (.int ((v231_28 q cc gc g cc 0 ((Int32.ofInt (-2)), (Int32.ofInt (-1)), (nI 1000000), fset h 162 0 (.int (nI 0)))).1)), some (.int ((v231_28 q cc gc g cc 0 ((Int32.ofInt (-2)), (Int32.ofInt (-1)), (nI 1000000), fset h 162 0 (.int (nI 0)))).2.1)), some (.int ((v231_28 q cc gc g cc 0 ((Int32.ofInt (-2)), (Int32.ofInt (-1)), (nI 1000000), fset h 162 0 (.int (nI 0)))).2.2.1)), u5, u4], [.long (((v231_28 q cc gc g cc 0 ((Int32.ofInt (-2)), (Int32.ofInt (-1)), (nI 1000000), fset h 162 0 (.int (nI 0)))).2.1).toInt64), .ref 162], fset ((v231_28 q cc gc g cc 0 ((Int32.ofInt (-2)), (Int32.ofInt (-1)), (nI 1000000), fset h 162 0 (.int (nI 0)))).2.2.2) 162 1 (.int (nI 0)), 198, sl) = some R := hh
      obtain ⟨n, fr1, lo1, r1, hh1, hh⟩ := rn_call (w := 0) (t := 167) rfl rfl hh
      obtain ⟨er10, hc11, hf12⟩ := v167_ok (v := (((v231_28 q cc gc g cc 0 ((Int32.ofInt (-2)), (Int32.ofInt (-1)), (nI 1000000), fset h 162 0 (.int (nI 0)))).2.1).toInt64)) (hc_f rfl rfl (by decide) rfl hc6) hh1
      subst er10
      obtain ⟨n, hh⟩ := rn_i rfl rfl rfl rfl hh
      obtain ⟨n, hh⟩ := rn_i rfl rfl rfl rfl hh
      obtain ⟨n, hh⟩ := rn_i rfl rfl rfl rfl hh
      have hh : pm_run PT n fr lo 231 (118, [some (.ref 162), some (.int (nI g)), some (.int ((v231_28 q cc gc g cc 0 ((Int32.ofInt (-2)), (Int32.ofInt (-1)), (nI 1000000), fset h 162 0 (.int (nI 0)))).1)), some (.int ((v231_28 q cc gc g cc 0 ((Int32.ofInt (-2)), (Int32.ofInt (-1)), (nI 1000000), fset h 162 0 (.int (nI 0)))).2.1)), some (.int ((v231_28 q cc gc g cc 0 ((Int32.ofInt (-2)), (Int32.ofInt (-1)), (nI 1000000), fset h 162 0 (.int (nI 0)))).2.2.1)), u5, u4], [.long (((v231_28 q cc gc g cc 0 ((Int32.ofInt (-2)), (Int32.ofInt (-1)), (nI 1000000), fset h 162 0 (.int (nI 0)))).2.2.1).toInt64), .ref 162], v167 q cc gc (fset ((v231_28 q cc gc g cc 0 ((Int32.ofInt (-2)), (Int32.ofInt (-1)), (nI 1000000), fset h 162 0 (.int (nI 0)))).2.2.2) 162 1 (.int (nI 0))) (((v231_28 q cc gc g cc 0 ((Int32.ofInt (-2)), (Int32.ofInt (-1)), (nI 1000000), fset h 162 0 (.int (nI 0)))).2.1).toInt64), 198, sl) = some R := hh
      obtain ⟨n, fr1, lo1, r1, hh1, hh⟩ := rn_call (w := 0) (t := 167) rfl rfl hh
      obtain ⟨er13, hc14, hf15⟩ := v167_ok (v := (((v231_28 q cc gc g cc 0 ((Int32.ofInt (-2)), (Int32.ofInt (-1)), (nI 1000000), fset h 162 0 (.int (nI 0)))).2.2.1).toInt64)) hc11 hh1
      subst er13
      obtain ⟨n, hh⟩ := rn_i rfl rfl rfl rfl hh
      have hh : pm_run PT n fr lo 231 (122, [some (.ref 162), some (.int (nI g)), some (.int ((v231_28 q cc gc g cc 0 ((Int32.ofInt (-2)), (Int32.ofInt (-1)), (nI 1000000), fset h 162 0 (.int (nI 0)))).1)), some (.int ((v231_28 q cc gc g cc 0 ((Int32.ofInt (-2)), (Int32.ofInt (-1)), (nI 1000000), fset h 162 0 (.int (nI 0)))).2.1)), some (.int ((v231_28 q cc gc g cc 0 ((Int32.ofInt (-2)), (Int32.ofInt (-1)), (nI 1000000), fset h 162 0 (.int (nI 0)))).2.2.1)), u5, u4], [.int ((v231_28 q cc gc g cc 0 ((Int32.ofInt (-2)), (Int32.ofInt (-1)), (nI 1000000), fset h 162 0 (.int (nI 0)))).1)], v167 q cc gc (v167 q cc gc (fset ((v231_28 q cc gc g cc 0 ((Int32.ofInt (-2)), (Int32.ofInt (-1)), (nI 1000000), fset h 162 0 (.int (nI 0)))).2.2.2) 162 1 (.int (nI 0))) (((v231_28 q cc gc g cc 0 ((Int32.ofInt (-2)), (Int32.ofInt (-1)), (nI 1000000), fset h 162 0 (.int (nI 0)))).2.1).toInt64)) (((v231_28 q cc gc g cc 0 ((Int32.ofInt (-2)), (Int32.ofInt (-1)), (nI 1000000), fset h 162 0 (.int (nI 0)))).2.2.1).toInt64), 198, sl) = some R := hh
      have er16 : R = (some (.int ((v231_28 q cc gc g cc 0 ((Int32.ofInt (-2)), (Int32.ofInt (-1)), (nI 1000000), fset h 162 0 (.int (nI 0)))).1)), v167 q cc gc (v167 q cc gc (fset ((v231_28 q cc gc g cc 0 ((Int32.ofInt (-2)), (Int32.ofInt (-1)), (nI 1000000), fset h 162 0 (.int (nI 0)))).2.2.2) 162 1 (.int (nI 0))) (((v231_28 q cc gc g cc 0 ((Int32.ofInt (-2)), (Int32.ofInt (-1)), (nI 1000000), fset h 162 0 (.int (nI 0)))).2.1).toInt64)) (((v231_28 q cc gc g cc 0 ((Int32.ofInt (-2)), (Int32.ofInt (-1)), (nI 1000000), fset h 162 0 (.int (nI 0)))).2.2.1).toInt64), 198, sl) := (rn_ret rfl (Or.inl rfl) hh).2
      have ed : v231 q cc gc h g = ((v231_28 q cc gc g cc 0 ((Int32.ofInt (-2)), (Int32.ofInt (-1)), (nI 1000000), fset h 162 0 (.int (nI 0)))).1, v167 q cc gc (v167 q cc gc (fset ((v231_28 q cc gc g cc 0 ((Int32.ofInt (-2)), (Int32.ofInt (-1)), (nI 1000000), fset h 162 0 (.int (nI 0)))).2.2.2) 162 1 (.int (nI 0))) (((v231_28 q cc gc g cc 0 ((Int32.ofInt (-2)), (Int32.ofInt (-1)), (nI 1000000), fset h 162 0 (.int (nI 0)))).2.1).toInt64)) (((v231_28 q cc gc g cc 0 ((Int32.ofInt (-2)), (Int32.ofInt (-1)), (nI 1000000), fset h 162 0 (.int (nI 0)))).2.2.1).toInt64)) := (ct z2).trans ((cf z8).trans rfl)
      refine ⟨?_, ?_, ?_⟩ <;> rw [ed]
      · exact er16
      · exact hc14
      · exact (fr_g rfl rfl hf15 (fr_g rfl rfl hf12 (fr_f rfl rfl (fr_g rfl rfl hf7 (fr_f rfl rfl fr_0)))))
  | false =>
    have hh := en_f z2 hh
    have hh : pm_run PT n fr lo 231 (13, [some (.ref 162), some (.int (nI g)), none, none, none, none, none], [], fset h 162 0 (.int (nI 0)), 198, sl) = some R := hh
    have y17 := of_decide_eq_false z2
    obtain ⟨n, hh⟩ := rn_i rfl rfl rfl rfl hh
    have hh : pm_run PT n fr lo 231 (14, [some (.ref 162), some (.int (nI g)), none, none, none, none, none], [.int (Int32.ofInt (-1))], fset h 162 0 (.int (nI 0)), 198, sl) = some R := hh
    have er18 : R = (some (.int (Int32.ofInt (-1))), fset h 162 0 (.int (nI 0)), 198, sl) := (rn_ret rfl (Or.inl rfl) hh).2
    have ed : v231 q cc gc h g = ((Int32.ofInt (-1)), fset h 162 0 (.int (nI 0))) := (cf z2).trans rfl
    refine ⟨?_, ?_, ?_⟩ <;> rw [ed]
    · exact er18
    · exact (hc_f rfl rfl (by decide) rfl hw)
    · exact (fr_f rfl rfl fr_0)
def v236_32b (q : QT) (cc gc : Nat) (h : pm_H) (m5 : Nat) (i : Nat) (x1 : Int32) (x2 : Int32) (x3 : Int32) (x4 : Int32) : Int32 × Int32 × Int32 × Int32 × pm_H := (cond (decide ((((Ar h 170) (78 + m5)).toNatClampNeg) = (((Ar h 170) (78 + i)).toNatClampNeg))) x1 (cond (pm_cmp .le (((v201 q cc gc h i (((Ar h 170) (78 + m5)).toNatClampNeg)).1) - ((v201 q cc gc ((v201 q cc gc h i (((Ar h 170) (78 + m5)).toNatClampNeg)).2) m5 (((Ar h 170) (78 + m5)).toNatClampNeg)).1)) 0) x1 (cond (pm_cmp .le (((v201 q cc gc ((v201 q cc gc ((v201 q cc gc h i (((Ar h 170) (78 + m5)).toNatClampNeg)).2) m5 (((Ar h 170) (78 + m5)).toNatClampNeg)).2) m5 (((Ar h 170) (78 + i)).toNatClampNeg)).1) - ((v201 q cc gc ((v201 q cc gc ((v201 q cc gc ((v201 q cc gc h i (((Ar h 170) (78 + m5)).toNatClampNeg)).2) m5 (((Ar h 170) (78 + m5)).toNatClampNeg)).2) m5 (((Ar h 170) (78 + i)).toNatClampNeg)).2) i (((Ar h 170) (78 + i)).toNatClampNeg)).1)) 0) x1 (x1 + Int32.ofInt 1))), cond (decide ((((Ar h 170) (78 + m5)).toNatClampNeg) = (((Ar h 170) (78 + i)).toNatClampNeg))) x2 (cond (pm_cmp .le (((v201 q cc gc h i (((Ar h 170) (78 + m5)).toNatClampNeg)).1) - ((v201 q cc gc ((v201 q cc gc h i (((Ar h 170) (78 + m5)).toNatClampNeg)).2) m5 (((Ar h 170) (78 + m5)).toNatClampNeg)).1)) 0) x2 (cond (pm_cmp .le (((v201 q cc gc ((v201 q cc gc ((v201 q cc gc h i (((Ar h 170) (78 + m5)).toNatClampNeg)).2) m5 (((Ar h 170) (78 + m5)).toNatClampNeg)).2) m5 (((Ar h 170) (78 + i)).toNatClampNeg)).1) - ((v201 q cc gc ((v201 q cc gc ((v201 q cc gc ((v201 q cc gc h i (((Ar h 170) (78 + m5)).toNatClampNeg)).2) m5 (((Ar h 170) (78 + m5)).toNatClampNeg)).2) m5 (((Ar h 170) (78 + i)).toNatClampNeg)).2) i (((Ar h 170) (78 + i)).toNatClampNeg)).1)) 0) x2 (cond (pm_cmp .le ((((v201 q cc gc h i (((Ar h 170) (78 + m5)).toNatClampNeg)).1) - ((v201 q cc gc ((v201 q cc gc h i (((Ar h 170) (78 + m5)).toNatClampNeg)).2) m5 (((Ar h 170) (78 + m5)).toNatClampNeg)).1)) + (((v201 q cc gc ((v201 q cc gc ((v201 q cc gc h i (((Ar h 170) (78 + m5)).toNatClampNeg)).2) m5 (((Ar h 170) (78 + m5)).toNatClampNeg)).2) m5 (((Ar h 170) (78 + i)).toNatClampNeg)).1) - ((v201 q cc gc ((v201 q cc gc ((v201 q cc gc ((v201 q cc gc h i (((Ar h 170) (78 + m5)).toNatClampNeg)).2) m5 (((Ar h 170) (78 + m5)).toNatClampNeg)).2) m5 (((Ar h 170) (78 + i)).toNatClampNeg)).2) i (((Ar h 170) (78 + i)).toNatClampNeg)).1))) x4) x2 (nI m5)))), cond (decide ((((Ar h 170) (78 + m5)).toNatClampNeg) = (((Ar h 170) (78 + i)).toNatClampNeg))) x3 (cond (pm_cmp .le (((v201 q cc gc h i (((Ar h 170) (78 + m5)).toNatClampNeg)).1) - ((v201 q cc gc ((v201 q cc gc h i (((Ar h 170) (78 + m5)).toNatClampNeg)).2) m5 (((Ar h 170) (78 + m5)).toNatClampNeg)).1)) 0) x3 (cond (pm_cmp .le (((v201 q cc gc ((v201 q cc gc ((v201 q cc gc h i (((Ar h 170) (78 + m5)).toNatClampNeg)).2) m5 (((Ar h 170) (78 + m5)).toNatClampNeg)).2) m5 (((Ar h 170) (78 + i)).toNatClampNeg)).1) - ((v201 q cc gc ((v201 q cc gc ((v201 q cc gc ((v201 q cc gc h i (((Ar h 170) (78 + m5)).toNatClampNeg)).2) m5 (((Ar h 170) (78 + m5)).toNatClampNeg)).2) m5 (((Ar h 170) (78 + i)).toNatClampNeg)).2) i (((Ar h 170) (78 + i)).toNatClampNeg)).1)) 0) x3 (cond (pm_cmp .le ((((v201 q cc gc h i (((Ar h 170) (78 + m5)).toNatClampNeg)).1) - ((v201 q cc gc ((v201 q cc gc h i (((Ar h 170) (78 + m5)).toNatClampNeg)).2) m5 (((Ar h 170) (78 + m5)).toNatClampNeg)).1)) + (((v201 q cc gc ((v201 q cc gc ((v201 q cc gc h i (((Ar h 170) (78 + m5)).toNatClampNeg)).2) m5 (((Ar h 170) (78 + m5)).toNatClampNeg)).2) m5 (((Ar h 170) (78 + i)).toNatClampNeg)).1) - ((v201 q cc gc ((v201 q cc gc ((v201 q cc gc ((v201 q cc gc h i (((Ar h 170) (78 + m5)).toNatClampNeg)).2) m5 (((Ar h 170) (78 + m5)).toNatClampNeg)).2) m5 (((Ar h 170) (78 + i)).toNatClampNeg)).2) i (((Ar h 170) (78 + i)).toNatClampNeg)).1))) x4) x3 (nI i)))), cond (decide ((((Ar h 170) (78 + m5)).toNatClampNeg) = (((Ar h 170) (78 + i)).toNatClampNeg))) x4 (cond (pm_cmp .le (((v201 q cc gc h i (((Ar h 170) (78 + m5)).toNatClampNeg)).1) - ((v201 q cc gc ((v201 q cc gc h i (((Ar h 170) (78 + m5)).toNatClampNeg)).2) m5 (((Ar h 170) (78 + m5)).toNatClampNeg)).1)) 0) x4 (cond (pm_cmp .le (((v201 q cc gc ((v201 q cc gc ((v201 q cc gc h i (((Ar h 170) (78 + m5)).toNatClampNeg)).2) m5 (((Ar h 170) (78 + m5)).toNatClampNeg)).2) m5 (((Ar h 170) (78 + i)).toNatClampNeg)).1) - ((v201 q cc gc ((v201 q cc gc ((v201 q cc gc ((v201 q cc gc h i (((Ar h 170) (78 + m5)).toNatClampNeg)).2) m5 (((Ar h 170) (78 + m5)).toNatClampNeg)).2) m5 (((Ar h 170) (78 + i)).toNatClampNeg)).2) i (((Ar h 170) (78 + i)).toNatClampNeg)).1)) 0) x4 (cond (pm_cmp .le ((((v201 q cc gc h i (((Ar h 170) (78 + m5)).toNatClampNeg)).1) - ((v201 q cc gc ((v201 q cc gc h i (((Ar h 170) (78 + m5)).toNatClampNeg)).2) m5 (((Ar h 170) (78 + m5)).toNatClampNeg)).1)) + (((v201 q cc gc ((v201 q cc gc ((v201 q cc gc h i (((Ar h 170) (78 + m5)).toNatClampNeg)).2) m5 (((Ar h 170) (78 + m5)).toNatClampNeg)).2) m5 (((Ar h 170) (78 + i)).toNatClampNeg)).1) - ((v201 q cc gc ((v201 q cc gc ((v201 q cc gc ((v201 q cc gc h i (((Ar h 170) (78 + m5)).toNatClampNeg)).2) m5 (((Ar h 170) (78 + m5)).toNatClampNeg)).2) m5 (((Ar h 170) (78 + i)).toNatClampNeg)).2) i (((Ar h 170) (78 + i)).toNatClampNeg)).1))) x4) x4 ((((v201 q cc gc h i (((Ar h 170) (78 + m5)).toNatClampNeg)).1) - ((v201 q cc gc ((v201 q cc gc h i (((Ar h 170) (78 + m5)).toNatClampNeg)).2) m5 (((Ar h 170) (78 + m5)).toNatClampNeg)).1)) + (((v201 q cc gc ((v201 q cc gc ((v201 q cc gc h i (((Ar h 170) (78 + m5)).toNatClampNeg)).2) m5 (((Ar h 170) (78 + m5)).toNatClampNeg)).2) m5 (((Ar h 170) (78 + i)).toNatClampNeg)).1) - ((v201 q cc gc ((v201 q cc gc ((v201 q cc gc ((v201 q cc gc h i (((Ar h 170) (78 + m5)).toNatClampNeg)).2) m5 (((Ar h 170) (78 + m5)).toNatClampNeg)).2) m5 (((Ar h 170) (78 + i)).toNatClampNeg)).2) i (((Ar h 170) (78 + i)).toNatClampNeg)).1)))))), (v201 q cc gc ((v201 q cc gc ((v201 q cc gc ((v201 q cc gc h i (((Ar h 170) (78 + m5)).toNatClampNeg)).2) m5 (((Ar h 170) (78 + m5)).toNatClampNeg)).2) m5 (((Ar h 170) (78 + i)).toNatClampNeg)).2) i (((Ar h 170) (78 + i)).toNatClampNeg)).2)
def v236_32 (q : QT) (cc gc : Nat) (m5 : Nat) (j i : Nat) (a : Int32 × Int32 × Int32 × Int32 × pm_H) : Int32 × Int32 × Int32 × Int32 × pm_H := lp (fun i a => v236_32b q cc gc a.2.2.2.2 m5 i a.1 a.2.1 a.2.2.1 a.2.2.2.1) j i a
theorem v236_32_e {n fr lo sl cc gc : Nat} {q : QT} {h : pm_H} {R : pm_Rs} {m5 : Nat} {i : Nat} {x1 : Int32} {x2 : Int32} {x3 : Int32} {x4 : Int32} {o7 : Option Value} {o8 : Option Value} {o9 : Option Value} {o10 : Option Value} (hw : HC q cc gc h) (h_m5 : m5 < gc) (hol : NA h 170 78 86 6) (hi : gc ≤ i) (hI : i < 1000000) (hh : pm_run PT n fr lo 236 (32, [some (.ref 162), some (.int x1), some (.int x2), some (.int x3), some (.int x4), some (.int (nI m5)), some (.int (nI i)), o7, o8, o9, o10], [], h, 198, sl) = some R) : ∃ m, pm_run PT m fr lo 236 (168, [some (.ref 162), some (.int x1), some (.int x2), some (.int x3), some (.int x4), some (.int (nI m5)), some (.int (nI i)), o7, o8, o9, o10], [], h, 198, sl) = some R := by
  have hcc := hw.cb
  have hgc := hw.gb
  have hzr := hw.zr
  obtain ⟨n, hh⟩ := rn_i rfl rfl rfl rfl hh
  obtain ⟨n, hh⟩ := rn_i rfl rfl rfl rfl hh
  have hh : pm_run PT n fr lo 236 (35, [some (.ref 162), some (.int x1), some (.int x2), some (.int x3), some (.int x4), some (.int (nI m5)), some (.int (nI i)), o7, o8, o9, o10], [.ref 162, .int (nI i)], h, 198, sl) = some R := hh
  obtain ⟨n, hh⟩ := rn_gi (x := nI gc) hw.wt rfl rfl (by decide) rfl (by decide) rfl hw.m4 hh
  have hh : pm_run PT n fr lo 236 (38, [some (.ref 162), some (.int x1), some (.int x2), some (.int x3), some (.int x4), some (.int (nI m5)), some (.int (nI i)), o7, o8, o9, o10], [.int (nI gc), .int (nI i)], h, 198, sl) = some R := hh
  obtain ⟨n, hh⟩ := en_cn (cc := .ge) (off := 130) (t := 168) (b := decide (gc ≤ i)) (hI_ge (by omega) (by omega)) rfl rfl hh
  have hh := en_t (show decide (gc ≤ i) = true from decide_eq_true (by omega)) hh
  have hh : pm_run PT n fr lo 236 (168, [some (.ref 162), some (.int x1), some (.int x2), some (.int x3), some (.int x4), some (.int (nI m5)), some (.int (nI i)), o7, o8, o9, o10], [], h, 198, sl) = some R := hh
  exact ⟨n, hh⟩
theorem v236_32_s {n fr lo sl cc gc : Nat} {q : QT} {h : pm_H} {R : pm_Rs} {m5 : Nat} {i : Nat} {x1 : Int32} {x2 : Int32} {x3 : Int32} {x4 : Int32} {o7 : Option Value} {o8 : Option Value} {o9 : Option Value} {o10 : Option Value} (hw : HC q cc gc h) (h_m5 : m5 < gc) (hol : NA h 170 78 86 6) (hi : i < gc) (hI : i < 1000000) (hh : pm_run PT n fr lo 236 (32, [some (.ref 162), some (.int x1), some (.int x2), some (.int x3), some (.int x4), some (.int (nI m5)), some (.int (nI i)), o7, o8, o9, o10], [], h, 198, sl) = some R) : ∃ m w7 w8 w9 w10, HC q cc gc ((v236_32b q cc gc h m5 i x1 x2 x3 x4).2.2.2.2) ∧ frm [176, 177] [] h ((v236_32b q cc gc h m5 i x1 x2 x3 x4).2.2.2.2) ∧ NA ((v236_32b q cc gc h m5 i x1 x2 x3 x4).2.2.2.2) 170 78 86 6 ∧ pm_run PT m fr lo 236 (32, [some (.ref 162), some (.int ((v236_32b q cc gc h m5 i x1 x2 x3 x4).1)), some (.int ((v236_32b q cc gc h m5 i x1 x2 x3 x4).2.1)), some (.int ((v236_32b q cc gc h m5 i x1 x2 x3 x4).2.2.1)), some (.int ((v236_32b q cc gc h m5 i x1 x2 x3 x4).2.2.2.1)), some (.int (nI m5)), some (.int (nI (i + 1))), w7, w8, w9, w10], [], (v236_32b q cc gc h m5 i x1 x2 x3 x4).2.2.2.2, 198, sl) = some R := by
  have hcc := hw.cb
  have hgc := hw.gb
  have hzr := hw.zr
  obtain ⟨n, hh⟩ := rn_i rfl rfl rfl rfl hh
  obtain ⟨n, hh⟩ := rn_i rfl rfl rfl rfl hh
  have hh : pm_run PT n fr lo 236 (35, [some (.ref 162), some (.int x1), some (.int x2), some (.int x3), some (.int x4), some (.int (nI m5)), some (.int (nI i)), o7, o8, o9, o10], [.ref 162, .int (nI i)], h, 198, sl) = some R := hh
  obtain ⟨n, hh⟩ := rn_gi (x := nI gc) hw.wt rfl rfl (by decide) rfl (by decide) rfl hw.m4 hh
  have hh : pm_run PT n fr lo 236 (38, [some (.ref 162), some (.int x1), some (.int x2), some (.int x3), some (.int x4), some (.int (nI m5)), some (.int (nI i)), o7, o8, o9, o10], [.int (nI gc), .int (nI i)], h, 198, sl) = some R := hh
  obtain ⟨n, hh⟩ := en_cn (cc := .ge) (off := 130) (t := 168) (b := decide (gc ≤ i)) (hI_ge (by omega) (by omega)) rfl rfl hh
  have hh := en_f (show decide (gc ≤ i) = false from decide_eq_false (by omega)) hh
  have hh : pm_run PT n fr lo 236 (41, [some (.ref 162), some (.int x1), some (.int x2), some (.int x3), some (.int x4), some (.int (nI m5)), some (.int (nI i)), o7, o8, o9, o10], [], h, 198, sl) = some R := hh
  obtain ⟨n, hh⟩ := rn_i rfl rfl rfl rfl hh
  have hh : pm_run PT n fr lo 236 (42, [some (.ref 162), some (.int x1), some (.int x2), some (.int x3), some (.int x4), some (.int (nI m5)), some (.int (nI i)), o7, o8, o9, o10], [.ref 162], h, 198, sl) = some R := hh
  obtain ⟨n, hh⟩ := rn_gr hw.wt rfl rfl (by decide) rfl (by decide) (show _ = some (2, ((170 : Nat) : Int), 1) from rfl) rfl hh
  obtain ⟨n, hh⟩ := rn_i rfl rfl rfl rfl hh
  obtain ⟨n, hh⟩ := rn_i rfl rfl rfl rfl hh
  have hh : pm_run PT n fr lo 236 (49, [some (.ref 162), some (.int x1), some (.int x2), some (.int x3), some (.int x4), some (.int (nI m5)), some (.int (nI i)), o7, o8, o9, o10], [.int (nI m5), .int (nI 78), .ref 170], h, 198, sl) = some R := hh
  obtain ⟨n, hh⟩ := en_add rfl hh
  have hh : pm_run PT n fr lo 236 (50, [some (.ref 162), some (.int x1), some (.int x2), some (.int x3), some (.int x4), some (.int (nI m5)), some (.int (nI i)), o7, o8, o9, o10], [.int (nI (78 + m5)), .ref 170], h, 198, sl) = some R := hh
  have hh : pm_run PT n fr lo 236 (50, [some (.ref 162), some (.int x1), some (.int x2), some (.int x3), some (.int x4), some (.int (nI m5)), some (.int (nI i)), o7, o8, o9, o10], [.int (nI (78 + m5)), .ref 170], h, 198, sl) = some R := hh
  obtain ⟨n, hx1, hh⟩ := en_lu (t := 78 + m5) (f := Ar h 170) (w := nI (((Ar h 170) (78 + m5)).toNatClampNeg)) (nI_clamp (by omega)) hw.wt rfl (by decide) rfl (by decide) rfl (fun z => (hol _ (by omega) (by omega)).1) hh
  have hb2 := (hol (78 + m5) (by omega) (by omega)).2
  obtain ⟨n, hh⟩ := rn_i rfl rfl rfl rfl hh
  obtain ⟨n, hh⟩ := rn_i rfl rfl rfl rfl hh
  have hh : pm_run PT n fr lo 236 (54, [some (.ref 162), some (.int x1), some (.int x2), some (.int x3), some (.int x4), some (.int (nI m5)), some (.int (nI i)), some (.int (nI (((Ar h 170) (78 + m5)).toNatClampNeg))), o8, o9, o10], [.ref 162], h, 198, sl) = some R := hh
  obtain ⟨n, hh⟩ := rn_gr hw.wt rfl rfl (by decide) rfl (by decide) (show _ = some (2, ((170 : Nat) : Int), 1) from rfl) rfl hh
  obtain ⟨n, hh⟩ := rn_i rfl rfl rfl rfl hh
  obtain ⟨n, hh⟩ := rn_i rfl rfl rfl rfl hh
  have hh : pm_run PT n fr lo 236 (61, [some (.ref 162), some (.int x1), some (.int x2), some (.int x3), some (.int x4), some (.int (nI m5)), some (.int (nI i)), some (.int (nI (((Ar h 170) (78 + m5)).toNatClampNeg))), o8, o9, o10], [.int (nI i), .int (nI 78), .ref 170], h, 198, sl) = some R := hh
  obtain ⟨n, hh⟩ := en_add rfl hh
  have hh : pm_run PT n fr lo 236 (62, [some (.ref 162), some (.int x1), some (.int x2), some (.int x3), some (.int x4), some (.int (nI m5)), some (.int (nI i)), some (.int (nI (((Ar h 170) (78 + m5)).toNatClampNeg))), o8, o9, o10], [.int (nI (78 + i)), .ref 170], h, 198, sl) = some R := hh
  have hh : pm_run PT n fr lo 236 (62, [some (.ref 162), some (.int x1), some (.int x2), some (.int x3), some (.int x4), some (.int (nI m5)), some (.int (nI i)), some (.int (nI (((Ar h 170) (78 + m5)).toNatClampNeg))), o8, o9, o10], [.int (nI (78 + i)), .ref 170], h, 198, sl) = some R := hh
  obtain ⟨n, hx3, hh⟩ := en_lu (t := 78 + i) (f := Ar h 170) (w := nI (((Ar h 170) (78 + i)).toNatClampNeg)) (nI_clamp (by omega)) hw.wt rfl (by decide) rfl (by decide) rfl (fun z => (hol _ (by omega) (by omega)).1) hh
  have hb4 := (hol (78 + i) (by omega) (by omega)).2
  obtain ⟨n, hh⟩ := rn_i rfl rfl rfl rfl hh
  obtain ⟨n, hh⟩ := rn_i rfl rfl rfl rfl hh
  obtain ⟨n, hh⟩ := rn_i rfl rfl rfl rfl hh
  have hh : pm_run PT n fr lo 236 (67, [some (.ref 162), some (.int x1), some (.int x2), some (.int x3), some (.int x4), some (.int (nI m5)), some (.int (nI i)), some (.int (nI (((Ar h 170) (78 + m5)).toNatClampNeg))), some (.int (nI (((Ar h 170) (78 + i)).toNatClampNeg))), o9, o10], [.ref 162, .ref 162], h, 198, sl) = some R := hh
  obtain ⟨n, hh⟩ := rn_gr hw.wt rfl rfl (by decide) rfl (by decide) (show _ = some (2, ((170 : Nat) : Int), 1) from rfl) rfl hh
  obtain ⟨n, hh⟩ := rn_i rfl rfl rfl rfl hh
  obtain ⟨n, hh⟩ := rn_i rfl rfl rfl rfl hh
  have hh : pm_run PT n fr lo 236 (74, [some (.ref 162), some (.int x1), some (.int x2), some (.int x3), some (.int x4), some (.int (nI m5)), some (.int (nI i)), some (.int (nI (((Ar h 170) (78 + m5)).toNatClampNeg))), some (.int (nI (((Ar h 170) (78 + i)).toNatClampNeg))), o9, o10], [.int (nI (((Ar h 170) (78 + m5)).toNatClampNeg)), .int (nI i), .ref 170, .ref 162], h, 198, sl) = some R := hh
  obtain ⟨n, fr1, lo1, r1, hh1, hh⟩ := rn_call (w := 0) (t := 201) rfl rfl hh
  obtain ⟨er5, hc6, hf7⟩ := v201_ok (g := i) (c := (((Ar h 170) (78 + m5)).toNatClampNeg)) hw (by omega) (by omega) hh1
  subst er5
  obtain ⟨n, hh⟩ := rn_i rfl rfl rfl rfl hh
  obtain ⟨n, hh⟩ := rn_i rfl rfl rfl rfl hh
  have hh : pm_run PT n fr lo 236 (79, [some (.ref 162), some (.int x1), some (.int x2), some (.int x3), some (.int x4), some (.int (nI m5)), some (.int (nI i)), some (.int (nI (((Ar h 170) (78 + m5)).toNatClampNeg))), some (.int (nI (((Ar h 170) (78 + i)).toNatClampNeg))), o9, o10], [.ref 162, .ref 162, .int ((v201 q cc gc h i (((Ar h 170) (78 + m5)).toNatClampNeg)).1)], (v201 q cc gc h i (((Ar h 170) (78 + m5)).toNatClampNeg)).2, 198, sl) = some R := hh
  obtain ⟨n, hh⟩ := rn_gr hc6.wt rfl rfl (by decide) rfl (by decide) (show _ = some (2, ((170 : Nat) : Int), 1) from rfl) rfl hh
  obtain ⟨n, hh⟩ := rn_i rfl rfl rfl rfl hh
  obtain ⟨n, hh⟩ := rn_i rfl rfl rfl rfl hh
  have hh : pm_run PT n fr lo 236 (86, [some (.ref 162), some (.int x1), some (.int x2), some (.int x3), some (.int x4), some (.int (nI m5)), some (.int (nI i)), some (.int (nI (((Ar h 170) (78 + m5)).toNatClampNeg))), some (.int (nI (((Ar h 170) (78 + i)).toNatClampNeg))), o9, o10], [.int (nI (((Ar h 170) (78 + m5)).toNatClampNeg)), .int (nI m5), .ref 170, .ref 162, .int ((v201 q cc gc h i (((Ar h 170) (78 + m5)).toNatClampNeg)).1)], (v201 q cc gc h i (((Ar h 170) (78 + m5)).toNatClampNeg)).2, 198, sl) = some R := hh
  obtain ⟨n, fr1, lo1, r1, hh1, hh⟩ := rn_call (w := 0) (t := 201) rfl rfl hh
  obtain ⟨er8, hc9, hf10⟩ := v201_ok (g := m5) (c := (((Ar h 170) (78 + m5)).toNatClampNeg)) hc6 (by omega) (by omega) hh1
  subst er8
  obtain ⟨n, hh⟩ := rn_i rfl rfl rfl rfl hh
  obtain ⟨n, hh⟩ := rn_i rfl rfl rfl rfl hh
  obtain ⟨n, hh⟩ := rn_i rfl rfl rfl rfl hh
  obtain ⟨n, hh⟩ := rn_i rfl rfl rfl rfl hh
  have hh : pm_run PT n fr lo 236 (94, [some (.ref 162), some (.int x1), some (.int x2), some (.int x3), some (.int x4), some (.int (nI m5)), some (.int (nI i)), some (.int (nI (((Ar h 170) (78 + m5)).toNatClampNeg))), some (.int (nI (((Ar h 170) (78 + i)).toNatClampNeg))), some (.int (((v201 q cc gc h i (((Ar h 170) (78 + m5)).toNatClampNeg)).1) - ((v201 q cc gc ((v201 q cc gc h i (((Ar h 170) (78 + m5)).toNatClampNeg)).2) m5 (((Ar h 170) (78 + m5)).toNatClampNeg)).1))), o10], [.ref 162, .ref 162], (v201 q cc gc ((v201 q cc gc h i (((Ar h 170) (78 + m5)).toNatClampNeg)).2) m5 (((Ar h 170) (78 + m5)).toNatClampNeg)).2, 198, sl) = some R := hh
  obtain ⟨n, hh⟩ := rn_gr hc9.wt rfl rfl (by decide) rfl (by decide) (show _ = some (2, ((170 : Nat) : Int), 1) from rfl) rfl hh
  obtain ⟨n, hh⟩ := rn_i rfl rfl rfl rfl hh
  obtain ⟨n, hh⟩ := rn_i rfl rfl rfl rfl hh
  have hh : pm_run PT n fr lo 236 (101, [some (.ref 162), some (.int x1), some (.int x2), some (.int x3), some (.int x4), some (.int (nI m5)), some (.int (nI i)), some (.int (nI (((Ar h 170) (78 + m5)).toNatClampNeg))), some (.int (nI (((Ar h 170) (78 + i)).toNatClampNeg))), some (.int (((v201 q cc gc h i (((Ar h 170) (78 + m5)).toNatClampNeg)).1) - ((v201 q cc gc ((v201 q cc gc h i (((Ar h 170) (78 + m5)).toNatClampNeg)).2) m5 (((Ar h 170) (78 + m5)).toNatClampNeg)).1))), o10], [.int (nI (((Ar h 170) (78 + i)).toNatClampNeg)), .int (nI m5), .ref 170, .ref 162], (v201 q cc gc ((v201 q cc gc h i (((Ar h 170) (78 + m5)).toNatClampNeg)).2) m5 (((Ar h 170) (78 + m5)).toNatClampNeg)).2, 198, sl) = some R := hh
  obtain ⟨n, fr1, lo1, r1, hh1, hh⟩ := rn_call (w := 0) (t := 201) rfl rfl hh
  obtain ⟨er11, hc12, hf13⟩ := v201_ok (g := m5) (c := (((Ar h 170) (78 + i)).toNatClampNeg)) hc9 (by omega) (by omega) hh1
  subst er11
  obtain ⟨n, hh⟩ := rn_i rfl rfl rfl rfl hh
  obtain ⟨n, hh⟩ := rn_i rfl rfl rfl rfl hh
  have hh : pm_run PT n fr lo 236 (106, [some (.ref 162), some (.int x1), some (.int x2), some (.int x3), some (.int x4), some (.int (nI m5)), some (.int (nI i)), some (.int (nI (((Ar h 170) (78 + m5)).toNatClampNeg))), some (.int (nI (((Ar h 170) (78 + i)).toNatClampNeg))), some (.int (((v201 q cc gc h i (((Ar h 170) (78 + m5)).toNatClampNeg)).1) - ((v201 q cc gc ((v201 q cc gc h i (((Ar h 170) (78 + m5)).toNatClampNeg)).2) m5 (((Ar h 170) (78 + m5)).toNatClampNeg)).1))), o10], [.ref 162, .ref 162, .int ((v201 q cc gc ((v201 q cc gc ((v201 q cc gc h i (((Ar h 170) (78 + m5)).toNatClampNeg)).2) m5 (((Ar h 170) (78 + m5)).toNatClampNeg)).2) m5 (((Ar h 170) (78 + i)).toNatClampNeg)).1)], (v201 q cc gc ((v201 q cc gc ((v201 q cc gc h i (((Ar h 170) (78 + m5)).toNatClampNeg)).2) m5 (((Ar h 170) (78 + m5)).toNatClampNeg)).2) m5 (((Ar h 170) (78 + i)).toNatClampNeg)).2, 198, sl) = some R := hh
  obtain ⟨n, hh⟩ := rn_gr hc12.wt rfl rfl (by decide) rfl (by decide) (show _ = some (2, ((170 : Nat) : Int), 1) from rfl) rfl hh
  obtain ⟨n, hh⟩ := rn_i rfl rfl rfl rfl hh
  obtain ⟨n, hh⟩ := rn_i rfl rfl rfl rfl hh
  have hh : pm_run PT n fr lo 236 (113, [some (.ref 162), some (.int x1), some (.int x2), some (.int x3), some (.int x4), some (.int (nI m5)), some (.int (nI i)), some (.int (nI (((Ar h 170) (78 + m5)).toNatClampNeg))), some (.int (nI (((Ar h 170) (78 + i)).toNatClampNeg))), some (.int (((v201 q cc gc h i (((Ar h 170) (78 + m5)).toNatClampNeg)).1) - ((v201 q cc gc ((v201 q cc gc h i (((Ar h 170) (78 + m5)).toNatClampNeg)).2) m5 (((Ar h 170) (78 + m5)).toNatClampNeg)).1))), o10], [.int (nI (((Ar h 170) (78 + i)).toNatClampNeg)), .int (nI i), .ref 170, .ref 162, .int ((v201 q cc gc ((v201 q cc gc ((v201 q cc gc h i (((Ar h 170) (78 + m5)).toNatClampNeg)).2) m5 (((Ar h 170) (78 + m5)).toNatClampNeg)).2) m5 (((Ar h 170) (78 + i)).toNatClampNeg)).1)], (v201 q cc gc ((v201 q cc gc ((v201 q cc gc h i (((Ar h 170) (78 + m5)).toNatClampNeg)).2) m5 (((Ar h 170) (78 + m5)).toNatClampNeg)).2) m5 (((Ar h 170) (78 + i)).toNatClampNeg)).2, 198, sl) = some R := hh
  obtain ⟨n, fr1, lo1, r1, hh1, hh⟩ := rn_call (w := 0) (t := 201) rfl rfl hh
  obtain ⟨er14, hc15, hf16⟩ := v201_ok (g := i) (c := (((Ar h 170) (78 + i)).toNatClampNeg)) hc12 (by omega) (by omega) hh1
  subst er14
  obtain ⟨n, hh⟩ := rn_i rfl rfl rfl rfl hh
  obtain ⟨n, hh⟩ := rn_i rfl rfl rfl rfl hh
  obtain ⟨n, hh⟩ := rn_i rfl rfl rfl rfl hh
  obtain ⟨n, hh⟩ := rn_i rfl rfl rfl rfl hh
  have hh : pm_run PT n fr lo 236 (123, [some (.ref 162), some (.int x1), some (.int x2), some (.int x3), some (.int x4), some (.int (nI m5)), some (.int (nI i)), some (.int (nI (((Ar h 170) (78 + m5)).toNatClampNeg))), some (.int (nI (((Ar h 170) (78 + i)).toNatClampNeg))), some (.int (((v201 q cc gc h i (((Ar h 170) (78 + m5)).toNatClampNeg)).1) - ((v201 q cc gc ((v201 q cc gc h i (((Ar h 170) (78 + m5)).toNatClampNeg)).2) m5 (((Ar h 170) (78 + m5)).toNatClampNeg)).1))), some (.int (((v201 q cc gc ((v201 q cc gc ((v201 q cc gc h i (((Ar h 170) (78 + m5)).toNatClampNeg)).2) m5 (((Ar h 170) (78 + m5)).toNatClampNeg)).2) m5 (((Ar h 170) (78 + i)).toNatClampNeg)).1) - ((v201 q cc gc ((v201 q cc gc ((v201 q cc gc ((v201 q cc gc h i (((Ar h 170) (78 + m5)).toNatClampNeg)).2) m5 (((Ar h 170) (78 + m5)).toNatClampNeg)).2) m5 (((Ar h 170) (78 + i)).toNatClampNeg)).2) i (((Ar h 170) (78 + i)).toNatClampNeg)).1)))], [.int (nI (((Ar h 170) (78 + i)).toNatClampNeg)), .int (nI (((Ar h 170) (78 + m5)).toNatClampNeg))], (v201 q cc gc ((v201 q cc gc ((v201 q cc gc ((v201 q cc gc h i (((Ar h 170) (78 + m5)).toNatClampNeg)).2) m5 (((Ar h 170) (78 + m5)).toNatClampNeg)).2) m5 (((Ar h 170) (78 + i)).toNatClampNeg)).2) i (((Ar h 170) (78 + i)).toNatClampNeg)).2, 198, sl) = some R := hh
  obtain ⟨n, hh⟩ := en_cn (cc := .eq) (off := 39) (t := 162) (b := decide ((((Ar h 170) (78 + m5)).toNatClampNeg) = (((Ar h 170) (78 + i)).toNatClampNeg))) (hI_eq (by omega) (by omega)) rfl rfl hh
  have hj24 : ∃ mJ, pm_run PT mJ fr lo 236 (cond (decide ((((Ar h 170) (78 + m5)).toNatClampNeg) = (((Ar h 170) (78 + i)).toNatClampNeg))) (162, [some (.ref 162), some (.int x1), some (.int x2), some (.int x3), some (.int x4), some (.int (nI m5)), some (.int (nI i)), some (.int (nI (((Ar h 170) (78 + m5)).toNatClampNeg))), some (.int (nI (((Ar h 170) (78 + i)).toNatClampNeg))), some (.int (((v201 q cc gc h i (((Ar h 170) (78 + m5)).toNatClampNeg)).1) - ((v201 q cc gc ((v201 q cc gc h i (((Ar h 170) (78 + m5)).toNatClampNeg)).2) m5 (((Ar h 170) (78 + m5)).toNatClampNeg)).1))), some (.int (((v201 q cc gc ((v201 q cc gc ((v201 q cc gc h i (((Ar h 170) (78 + m5)).toNatClampNeg)).2) m5 (((Ar h 170) (78 + m5)).toNatClampNeg)).2) m5 (((Ar h 170) (78 + i)).toNatClampNeg)).1) - ((v201 q cc gc ((v201 q cc gc ((v201 q cc gc ((v201 q cc gc h i (((Ar h 170) (78 + m5)).toNatClampNeg)).2) m5 (((Ar h 170) (78 + m5)).toNatClampNeg)).2) m5 (((Ar h 170) (78 + i)).toNatClampNeg)).2) i (((Ar h 170) (78 + i)).toNatClampNeg)).1)))], [], (v201 q cc gc ((v201 q cc gc ((v201 q cc gc ((v201 q cc gc h i (((Ar h 170) (78 + m5)).toNatClampNeg)).2) m5 (((Ar h 170) (78 + m5)).toNatClampNeg)).2) m5 (((Ar h 170) (78 + i)).toNatClampNeg)).2) i (((Ar h 170) (78 + i)).toNatClampNeg)).2, 198, sl) (162, [some (.ref 162), some (.int (cond (pm_cmp .le (((v201 q cc gc h i (((Ar h 170) (78 + m5)).toNatClampNeg)).1) - ((v201 q cc gc ((v201 q cc gc h i (((Ar h 170) (78 + m5)).toNatClampNeg)).2) m5 (((Ar h 170) (78 + m5)).toNatClampNeg)).1)) 0) x1 (cond (pm_cmp .le (((v201 q cc gc ((v201 q cc gc ((v201 q cc gc h i (((Ar h 170) (78 + m5)).toNatClampNeg)).2) m5 (((Ar h 170) (78 + m5)).toNatClampNeg)).2) m5 (((Ar h 170) (78 + i)).toNatClampNeg)).1) - ((v201 q cc gc ((v201 q cc gc ((v201 q cc gc ((v201 q cc gc h i (((Ar h 170) (78 + m5)).toNatClampNeg)).2) m5 (((Ar h 170) (78 + m5)).toNatClampNeg)).2) m5 (((Ar h 170) (78 + i)).toNatClampNeg)).2) i (((Ar h 170) (78 + i)).toNatClampNeg)).1)) 0) x1 (x1 + Int32.ofInt 1)))), some (.int (cond (pm_cmp .le (((v201 q cc gc h i (((Ar h 170) (78 + m5)).toNatClampNeg)).1) - ((v201 q cc gc ((v201 q cc gc h i (((Ar h 170) (78 + m5)).toNatClampNeg)).2) m5 (((Ar h 170) (78 + m5)).toNatClampNeg)).1)) 0) x2 (cond (pm_cmp .le (((v201 q cc gc ((v201 q cc gc ((v201 q cc gc h i (((Ar h 170) (78 + m5)).toNatClampNeg)).2) m5 (((Ar h 170) (78 + m5)).toNatClampNeg)).2) m5 (((Ar h 170) (78 + i)).toNatClampNeg)).1) - ((v201 q cc gc ((v201 q cc gc ((v201 q cc gc ((v201 q cc gc h i (((Ar h 170) (78 + m5)).toNatClampNeg)).2) m5 (((Ar h 170) (78 + m5)).toNatClampNeg)).2) m5 (((Ar h 170) (78 + i)).toNatClampNeg)).2) i (((Ar h 170) (78 + i)).toNatClampNeg)).1)) 0) x2 (cond (pm_cmp .le ((((v201 q cc gc h i (((Ar h 170) (78 + m5)).toNatClampNeg)).1) - ((v201 q cc gc ((v201 q cc gc h i (((Ar h 170) (78 + m5)).toNatClampNeg)).2) m5 (((Ar h 170) (78 + m5)).toNatClampNeg)).1)) + (((v201 q cc gc ((v201 q cc gc ((v201 q cc gc h i (((Ar h 170) (78 + m5)).toNatClampNeg)).2) m5 (((Ar h 170) (78 + m5)).toNatClampNeg)).2) m5 (((Ar h 170) (78 + i)).toNatClampNeg)).1) - ((v201 q cc gc ((v201 q cc gc ((v201 q cc gc ((v201 q cc gc h i (((Ar h 170) (78 + m5)).toNatClampNeg)).2) m5 (((Ar h 170) (78 + m5)).toNatClampNeg)).2) m5 (((Ar h 170) (78 + i)).toNatClampNeg)).2) i (((Ar h 170) (78 + i)).toNatClampNeg)).1))) x4) x2 (nI m5))))), some (.int (cond (pm_cmp .le (((v201 q cc gc h i (((Ar h 170) (78 + m5)).toNatClampNeg)).1) - ((v201 q cc gc ((v201 q cc gc h i (((Ar h 170) (78 + m5)).toNatClampNeg)).2) m5 (((Ar h 170) (78 + m5)).toNatClampNeg)).1)) 0) x3 (cond (pm_cmp .le (((v201 q cc gc ((v201 q cc gc ((v201 q cc gc h i (((Ar h 170) (78 + m5)).toNatClampNeg)).2) m5 (((Ar h 170) (78 + m5)).toNatClampNeg)).2) m5 (((Ar h 170) (78 + i)).toNatClampNeg)).1) - ((v201 q cc gc ((v201 q cc gc ((v201 q cc gc ((v201 q cc gc h i (((Ar h 170) (78 + m5)).toNatClampNeg)).2) m5 (((Ar h 170) (78 + m5)).toNatClampNeg)).2) m5 (((Ar h 170) (78 + i)).toNatClampNeg)).2) i (((Ar h 170) (78 + i)).toNatClampNeg)).1)) 0) x3 (cond (pm_cmp .le ((((v201 q cc gc h i (((Ar h 170) (78 + m5)).toNatClampNeg)).1) - ((v201 q cc gc ((v201 q cc gc h i (((Ar h 170) (78 + m5)).toNatClampNeg)).2) m5 (((Ar h 170) (78 + m5)).toNatClampNeg)).1)) + (((v201 q cc gc ((v201 q cc gc ((v201 q cc gc h i (((Ar h 170) (78 + m5)).toNatClampNeg)).2) m5 (((Ar h 170) (78 + m5)).toNatClampNeg)).2) m5 (((Ar h 170) (78 + i)).toNatClampNeg)).1) - ((v201 q cc gc ((v201 q cc gc ((v201 q cc gc ((v201 q cc gc h i (((Ar h 170) (78 + m5)).toNatClampNeg)).2) m5 (((Ar h 170) (78 + m5)).toNatClampNeg)).2) m5 (((Ar h 170) (78 + i)).toNatClampNeg)).2) i (((Ar h 170) (78 + i)).toNatClampNeg)).1))) x4) x3 (nI i))))), some (.int (cond (pm_cmp .le (((v201 q cc gc h i (((Ar h 170) (78 + m5)).toNatClampNeg)).1) - ((v201 q cc gc ((v201 q cc gc h i (((Ar h 170) (78 + m5)).toNatClampNeg)).2) m5 (((Ar h 170) (78 + m5)).toNatClampNeg)).1)) 0) x4 (cond (pm_cmp .le (((v201 q cc gc ((v201 q cc gc ((v201 q cc gc h i (((Ar h 170) (78 + m5)).toNatClampNeg)).2) m5 (((Ar h 170) (78 + m5)).toNatClampNeg)).2) m5 (((Ar h 170) (78 + i)).toNatClampNeg)).1) - ((v201 q cc gc ((v201 q cc gc ((v201 q cc gc ((v201 q cc gc h i (((Ar h 170) (78 + m5)).toNatClampNeg)).2) m5 (((Ar h 170) (78 + m5)).toNatClampNeg)).2) m5 (((Ar h 170) (78 + i)).toNatClampNeg)).2) i (((Ar h 170) (78 + i)).toNatClampNeg)).1)) 0) x4 (cond (pm_cmp .le ((((v201 q cc gc h i (((Ar h 170) (78 + m5)).toNatClampNeg)).1) - ((v201 q cc gc ((v201 q cc gc h i (((Ar h 170) (78 + m5)).toNatClampNeg)).2) m5 (((Ar h 170) (78 + m5)).toNatClampNeg)).1)) + (((v201 q cc gc ((v201 q cc gc ((v201 q cc gc h i (((Ar h 170) (78 + m5)).toNatClampNeg)).2) m5 (((Ar h 170) (78 + m5)).toNatClampNeg)).2) m5 (((Ar h 170) (78 + i)).toNatClampNeg)).1) - ((v201 q cc gc ((v201 q cc gc ((v201 q cc gc ((v201 q cc gc h i (((Ar h 170) (78 + m5)).toNatClampNeg)).2) m5 (((Ar h 170) (78 + m5)).toNatClampNeg)).2) m5 (((Ar h 170) (78 + i)).toNatClampNeg)).2) i (((Ar h 170) (78 + i)).toNatClampNeg)).1))) x4) x4 ((((v201 q cc gc h i (((Ar h 170) (78 + m5)).toNatClampNeg)).1) - ((v201 q cc gc ((v201 q cc gc h i (((Ar h 170) (78 + m5)).toNatClampNeg)).2) m5 (((Ar h 170) (78 + m5)).toNatClampNeg)).1)) + (((v201 q cc gc ((v201 q cc gc ((v201 q cc gc h i (((Ar h 170) (78 + m5)).toNatClampNeg)).2) m5 (((Ar h 170) (78 + m5)).toNatClampNeg)).2) m5 (((Ar h 170) (78 + i)).toNatClampNeg)).1) - ((v201 q cc gc ((v201 q cc gc ((v201 q cc gc ((v201 q cc gc h i (((Ar h 170) (78 + m5)).toNatClampNeg)).2) m5 (((Ar h 170) (78 + m5)).toNatClampNeg)).2) m5 (((Ar h 170) (78 + i)).toNatClampNeg)).2) i (((Ar h 170) (78 + i)).toNatClampNeg)).1))))))), some (.int (nI m5)), some (.int (nI i)), some (.int (nI (((Ar h 170) (78 + m5)).toNatClampNeg))), some (.int (nI (((Ar h 170) (78 + i)).toNatClampNeg))), some (.int (((v201 q cc gc h i (((Ar h 170) (78 + m5)).toNatClampNeg)).1) - ((v201 q cc gc ((v201 q cc gc h i (((Ar h 170) (78 + m5)).toNatClampNeg)).2) m5 (((Ar h 170) (78 + m5)).toNatClampNeg)).1))), some (.int (((v201 q cc gc ((v201 q cc gc ((v201 q cc gc h i (((Ar h 170) (78 + m5)).toNatClampNeg)).2) m5 (((Ar h 170) (78 + m5)).toNatClampNeg)).2) m5 (((Ar h 170) (78 + i)).toNatClampNeg)).1) - ((v201 q cc gc ((v201 q cc gc ((v201 q cc gc ((v201 q cc gc h i (((Ar h 170) (78 + m5)).toNatClampNeg)).2) m5 (((Ar h 170) (78 + m5)).toNatClampNeg)).2) m5 (((Ar h 170) (78 + i)).toNatClampNeg)).2) i (((Ar h 170) (78 + i)).toNatClampNeg)).1)))], [], (v201 q cc gc ((v201 q cc gc ((v201 q cc gc ((v201 q cc gc h i (((Ar h 170) (78 + m5)).toNatClampNeg)).2) m5 (((Ar h 170) (78 + m5)).toNatClampNeg)).2) m5 (((Ar h 170) (78 + i)).toNatClampNeg)).2) i (((Ar h 170) (78 + i)).toNatClampNeg)).2, 198, sl)) = some R := en_J (fun z17 => by
      have hh := en_t z17 hh
      have hh : pm_run PT n fr lo 236 (162, [some (.ref 162), some (.int x1), some (.int x2), some (.int x3), some (.int x4), some (.int (nI m5)), some (.int (nI i)), some (.int (nI (((Ar h 170) (78 + m5)).toNatClampNeg))), some (.int (nI (((Ar h 170) (78 + i)).toNatClampNeg))), some (.int (((v201 q cc gc h i (((Ar h 170) (78 + m5)).toNatClampNeg)).1) - ((v201 q cc gc ((v201 q cc gc h i (((Ar h 170) (78 + m5)).toNatClampNeg)).2) m5 (((Ar h 170) (78 + m5)).toNatClampNeg)).1))), some (.int (((v201 q cc gc ((v201 q cc gc ((v201 q cc gc h i (((Ar h 170) (78 + m5)).toNatClampNeg)).2) m5 (((Ar h 170) (78 + m5)).toNatClampNeg)).2) m5 (((Ar h 170) (78 + i)).toNatClampNeg)).1) - ((v201 q cc gc ((v201 q cc gc ((v201 q cc gc ((v201 q cc gc h i (((Ar h 170) (78 + m5)).toNatClampNeg)).2) m5 (((Ar h 170) (78 + m5)).toNatClampNeg)).2) m5 (((Ar h 170) (78 + i)).toNatClampNeg)).2) i (((Ar h 170) (78 + i)).toNatClampNeg)).1)))], [], (v201 q cc gc ((v201 q cc gc ((v201 q cc gc ((v201 q cc gc h i (((Ar h 170) (78 + m5)).toNatClampNeg)).2) m5 (((Ar h 170) (78 + m5)).toNatClampNeg)).2) m5 (((Ar h 170) (78 + i)).toNatClampNeg)).2) i (((Ar h 170) (78 + i)).toNatClampNeg)).2, 198, sl) = some R := hh
      have y_z17 := of_decide_eq_true z17
      exact ⟨n, hh⟩) (fun z17 => by
      have hh := en_f z17 hh
      have hh : pm_run PT n fr lo 236 (126, [some (.ref 162), some (.int x1), some (.int x2), some (.int x3), some (.int x4), some (.int (nI m5)), some (.int (nI i)), some (.int (nI (((Ar h 170) (78 + m5)).toNatClampNeg))), some (.int (nI (((Ar h 170) (78 + i)).toNatClampNeg))), some (.int (((v201 q cc gc h i (((Ar h 170) (78 + m5)).toNatClampNeg)).1) - ((v201 q cc gc ((v201 q cc gc h i (((Ar h 170) (78 + m5)).toNatClampNeg)).2) m5 (((Ar h 170) (78 + m5)).toNatClampNeg)).1))), some (.int (((v201 q cc gc ((v201 q cc gc ((v201 q cc gc h i (((Ar h 170) (78 + m5)).toNatClampNeg)).2) m5 (((Ar h 170) (78 + m5)).toNatClampNeg)).2) m5 (((Ar h 170) (78 + i)).toNatClampNeg)).1) - ((v201 q cc gc ((v201 q cc gc ((v201 q cc gc ((v201 q cc gc h i (((Ar h 170) (78 + m5)).toNatClampNeg)).2) m5 (((Ar h 170) (78 + m5)).toNatClampNeg)).2) m5 (((Ar h 170) (78 + i)).toNatClampNeg)).2) i (((Ar h 170) (78 + i)).toNatClampNeg)).1)))], [], (v201 q cc gc ((v201 q cc gc ((v201 q cc gc ((v201 q cc gc h i (((Ar h 170) (78 + m5)).toNatClampNeg)).2) m5 (((Ar h 170) (78 + m5)).toNatClampNeg)).2) m5 (((Ar h 170) (78 + i)).toNatClampNeg)).2) i (((Ar h 170) (78 + i)).toNatClampNeg)).2, 198, sl) = some R := hh
      have y_z17 := of_decide_eq_false z17
      obtain ⟨n, hh⟩ := rn_i rfl rfl rfl rfl hh
      have hh : pm_run PT n fr lo 236 (128, [some (.ref 162), some (.int x1), some (.int x2), some (.int x3), some (.int x4), some (.int (nI m5)), some (.int (nI i)), some (.int (nI (((Ar h 170) (78 + m5)).toNatClampNeg))), some (.int (nI (((Ar h 170) (78 + i)).toNatClampNeg))), some (.int (((v201 q cc gc h i (((Ar h 170) (78 + m5)).toNatClampNeg)).1) - ((v201 q cc gc ((v201 q cc gc h i (((Ar h 170) (78 + m5)).toNatClampNeg)).2) m5 (((Ar h 170) (78 + m5)).toNatClampNeg)).1))), some (.int (((v201 q cc gc ((v201 q cc gc ((v201 q cc gc h i (((Ar h 170) (78 + m5)).toNatClampNeg)).2) m5 (((Ar h 170) (78 + m5)).toNatClampNeg)).2) m5 (((Ar h 170) (78 + i)).toNatClampNeg)).1) - ((v201 q cc gc ((v201 q cc gc ((v201 q cc gc ((v201 q cc gc h i (((Ar h 170) (78 + m5)).toNatClampNeg)).2) m5 (((Ar h 170) (78 + m5)).toNatClampNeg)).2) m5 (((Ar h 170) (78 + i)).toNatClampNeg)).2) i (((Ar h 170) (78 + i)).toNatClampNeg)).1)))], [.int (((v201 q cc gc h i (((Ar h 170) (78 + m5)).toNatClampNeg)).1) - ((v201 q cc gc ((v201 q cc gc h i (((Ar h 170) (78 + m5)).toNatClampNeg)).2) m5 (((Ar h 170) (78 + m5)).toNatClampNeg)).1))], (v201 q cc gc ((v201 q cc gc ((v201 q cc gc ((v201 q cc gc h i (((Ar h 170) (78 + m5)).toNatClampNeg)).2) m5 (((Ar h 170) (78 + m5)).toNatClampNeg)).2) m5 (((Ar h 170) (78 + i)).toNatClampNeg)).2) i (((Ar h 170) (78 + i)).toNatClampNeg)).2, 198, sl) = some R := hh
      obtain ⟨n, hh⟩ := en_zn (cc := .le) (off := 34) (t := 162) (b := pm_cmp .le (((v201 q cc gc h i (((Ar h 170) (78 + m5)).toNatClampNeg)).1) - ((v201 q cc gc ((v201 q cc gc h i (((Ar h 170) (78 + m5)).toNatClampNeg)).2) m5 (((Ar h 170) (78 + m5)).toNatClampNeg)).1)) 0) rfl rfl rfl hh
      have hj23 : ∃ mJ, pm_run PT mJ fr lo 236 (cond (pm_cmp .le (((v201 q cc gc h i (((Ar h 170) (78 + m5)).toNatClampNeg)).1) - ((v201 q cc gc ((v201 q cc gc h i (((Ar h 170) (78 + m5)).toNatClampNeg)).2) m5 (((Ar h 170) (78 + m5)).toNatClampNeg)).1)) 0) (162, [some (.ref 162), some (.int x1), some (.int x2), some (.int x3), some (.int x4), some (.int (nI m5)), some (.int (nI i)), some (.int (nI (((Ar h 170) (78 + m5)).toNatClampNeg))), some (.int (nI (((Ar h 170) (78 + i)).toNatClampNeg))), some (.int (((v201 q cc gc h i (((Ar h 170) (78 + m5)).toNatClampNeg)).1) - ((v201 q cc gc ((v201 q cc gc h i (((Ar h 170) (78 + m5)).toNatClampNeg)).2) m5 (((Ar h 170) (78 + m5)).toNatClampNeg)).1))), some (.int (((v201 q cc gc ((v201 q cc gc ((v201 q cc gc h i (((Ar h 170) (78 + m5)).toNatClampNeg)).2) m5 (((Ar h 170) (78 + m5)).toNatClampNeg)).2) m5 (((Ar h 170) (78 + i)).toNatClampNeg)).1) - ((v201 q cc gc ((v201 q cc gc ((v201 q cc gc ((v201 q cc gc h i (((Ar h 170) (78 + m5)).toNatClampNeg)).2) m5 (((Ar h 170) (78 + m5)).toNatClampNeg)).2) m5 (((Ar h 170) (78 + i)).toNatClampNeg)).2) i (((Ar h 170) (78 + i)).toNatClampNeg)).1)))], [], (v201 q cc gc ((v201 q cc gc ((v201 q cc gc ((v201 q cc gc h i (((Ar h 170) (78 + m5)).toNatClampNeg)).2) m5 (((Ar h 170) (78 + m5)).toNatClampNeg)).2) m5 (((Ar h 170) (78 + i)).toNatClampNeg)).2) i (((Ar h 170) (78 + i)).toNatClampNeg)).2, 198, sl) (162, [some (.ref 162), some (.int (cond (pm_cmp .le (((v201 q cc gc ((v201 q cc gc ((v201 q cc gc h i (((Ar h 170) (78 + m5)).toNatClampNeg)).2) m5 (((Ar h 170) (78 + m5)).toNatClampNeg)).2) m5 (((Ar h 170) (78 + i)).toNatClampNeg)).1) - ((v201 q cc gc ((v201 q cc gc ((v201 q cc gc ((v201 q cc gc h i (((Ar h 170) (78 + m5)).toNatClampNeg)).2) m5 (((Ar h 170) (78 + m5)).toNatClampNeg)).2) m5 (((Ar h 170) (78 + i)).toNatClampNeg)).2) i (((Ar h 170) (78 + i)).toNatClampNeg)).1)) 0) x1 (x1 + Int32.ofInt 1))), some (.int (cond (pm_cmp .le (((v201 q cc gc ((v201 q cc gc ((v201 q cc gc h i (((Ar h 170) (78 + m5)).toNatClampNeg)).2) m5 (((Ar h 170) (78 + m5)).toNatClampNeg)).2) m5 (((Ar h 170) (78 + i)).toNatClampNeg)).1) - ((v201 q cc gc ((v201 q cc gc ((v201 q cc gc ((v201 q cc gc h i (((Ar h 170) (78 + m5)).toNatClampNeg)).2) m5 (((Ar h 170) (78 + m5)).toNatClampNeg)).2) m5 (((Ar h 170) (78 + i)).toNatClampNeg)).2) i (((Ar h 170) (78 + i)).toNatClampNeg)).1)) 0) x2 (cond (pm_cmp .le ((((v201 q cc gc h i (((Ar h 170) (78 + m5)).toNatClampNeg)).1) - ((v201 q cc gc ((v201 q cc gc h i (((Ar h 170) (78 + m5)).toNatClampNeg)).2) m5 (((Ar h 170) (78 + m5)).toNatClampNeg)).1)) + (((v201 q cc gc ((v201 q cc gc ((v201 q cc gc h i (((Ar h 170) (78 + m5)).toNatClampNeg)).2) m5 (((Ar h 170) (78 + m5)).toNatClampNeg)).2) m5 (((Ar h 170) (78 + i)).toNatClampNeg)).1) - ((v201 q cc gc ((v201 q cc gc ((v201 q cc gc ((v201 q cc gc h i (((Ar h 170) (78 + m5)).toNatClampNeg)).2) m5 (((Ar h 170) (78 + m5)).toNatClampNeg)).2) m5 (((Ar h 170) (78 + i)).toNatClampNeg)).2) i (((Ar h 170) (78 + i)).toNatClampNeg)).1))) x4) x2 (nI m5)))), some (.int (cond (pm_cmp .le (((v201 q cc gc ((v201 q cc gc ((v201 q cc gc h i (((Ar h 170) (78 + m5)).toNatClampNeg)).2) m5 (((Ar h 170) (78 + m5)).toNatClampNeg)).2) m5 (((Ar h 170) (78 + i)).toNatClampNeg)).1) - ((v201 q cc gc ((v201 q cc gc ((v201 q cc gc ((v201 q cc gc h i (((Ar h 170) (78 + m5)).toNatClampNeg)).2) m5 (((Ar h 170) (78 + m5)).toNatClampNeg)).2) m5 (((Ar h 170) (78 + i)).toNatClampNeg)).2) i (((Ar h 170) (78 + i)).toNatClampNeg)).1)) 0) x3 (cond (pm_cmp .le ((((v201 q cc gc h i (((Ar h 170) (78 + m5)).toNatClampNeg)).1) - ((v201 q cc gc ((v201 q cc gc h i (((Ar h 170) (78 + m5)).toNatClampNeg)).2) m5 (((Ar h 170) (78 + m5)).toNatClampNeg)).1)) + (((v201 q cc gc ((v201 q cc gc ((v201 q cc gc h i (((Ar h 170) (78 + m5)).toNatClampNeg)).2) m5 (((Ar h 170) (78 + m5)).toNatClampNeg)).2) m5 (((Ar h 170) (78 + i)).toNatClampNeg)).1) - ((v201 q cc gc ((v201 q cc gc ((v201 q cc gc ((v201 q cc gc h i (((Ar h 170) (78 + m5)).toNatClampNeg)).2) m5 (((Ar h 170) (78 + m5)).toNatClampNeg)).2) m5 (((Ar h 170) (78 + i)).toNatClampNeg)).2) i (((Ar h 170) (78 + i)).toNatClampNeg)).1))) x4) x3 (nI i)))), some (.int (cond (pm_cmp .le (((v201 q cc gc ((v201 q cc gc ((v201 q cc gc h i (((Ar h 170) (78 + m5)).toNatClampNeg)).2) m5 (((Ar h 170) (78 + m5)).toNatClampNeg)).2) m5 (((Ar h 170) (78 + i)).toNatClampNeg)).1) - ((v201 q cc gc ((v201 q cc gc ((v201 q cc gc ((v201 q cc gc h i (((Ar h 170) (78 + m5)).toNatClampNeg)).2) m5 (((Ar h 170) (78 + m5)).toNatClampNeg)).2) m5 (((Ar h 170) (78 + i)).toNatClampNeg)).2) i (((Ar h 170) (78 + i)).toNatClampNeg)).1)) 0) x4 (cond (pm_cmp .le ((((v201 q cc gc h i (((Ar h 170) (78 + m5)).toNatClampNeg)).1) - ((v201 q cc gc ((v201 q cc gc h i (((Ar h 170) (78 + m5)).toNatClampNeg)).2) m5 (((Ar h 170) (78 + m5)).toNatClampNeg)).1)) + (((v201 q cc gc ((v201 q cc gc ((v201 q cc gc h i (((Ar h 170) (78 + m5)).toNatClampNeg)).2) m5 (((Ar h 170) (78 + m5)).toNatClampNeg)).2) m5 (((Ar h 170) (78 + i)).toNatClampNeg)).1) - ((v201 q cc gc ((v201 q cc gc ((v201 q cc gc ((v201 q cc gc h i (((Ar h 170) (78 + m5)).toNatClampNeg)).2) m5 (((Ar h 170) (78 + m5)).toNatClampNeg)).2) m5 (((Ar h 170) (78 + i)).toNatClampNeg)).2) i (((Ar h 170) (78 + i)).toNatClampNeg)).1))) x4) x4 ((((v201 q cc gc h i (((Ar h 170) (78 + m5)).toNatClampNeg)).1) - ((v201 q cc gc ((v201 q cc gc h i (((Ar h 170) (78 + m5)).toNatClampNeg)).2) m5 (((Ar h 170) (78 + m5)).toNatClampNeg)).1)) + (((v201 q cc gc ((v201 q cc gc ((v201 q cc gc h i (((Ar h 170) (78 + m5)).toNatClampNeg)).2) m5 (((Ar h 170) (78 + m5)).toNatClampNeg)).2) m5 (((Ar h 170) (78 + i)).toNatClampNeg)).1) - ((v201 q cc gc ((v201 q cc gc ((v201 q cc gc ((v201 q cc gc h i (((Ar h 170) (78 + m5)).toNatClampNeg)).2) m5 (((Ar h 170) (78 + m5)).toNatClampNeg)).2) m5 (((Ar h 170) (78 + i)).toNatClampNeg)).2) i (((Ar h 170) (78 + i)).toNatClampNeg)).1)))))), some (.int (nI m5)), some (.int (nI i)), some (.int (nI (((Ar h 170) (78 + m5)).toNatClampNeg))), some (.int (nI (((Ar h 170) (78 + i)).toNatClampNeg))), some (.int (((v201 q cc gc h i (((Ar h 170) (78 + m5)).toNatClampNeg)).1) - ((v201 q cc gc ((v201 q cc gc h i (((Ar h 170) (78 + m5)).toNatClampNeg)).2) m5 (((Ar h 170) (78 + m5)).toNatClampNeg)).1))), some (.int (((v201 q cc gc ((v201 q cc gc ((v201 q cc gc h i (((Ar h 170) (78 + m5)).toNatClampNeg)).2) m5 (((Ar h 170) (78 + m5)).toNatClampNeg)).2) m5 (((Ar h 170) (78 + i)).toNatClampNeg)).1) - ((v201 q cc gc ((v201 q cc gc ((v201 q cc gc ((v201 q cc gc h i (((Ar h 170) (78 + m5)).toNatClampNeg)).2) m5 (((Ar h 170) (78 + m5)).toNatClampNeg)).2) m5 (((Ar h 170) (78 + i)).toNatClampNeg)).2) i (((Ar h 170) (78 + i)).toNatClampNeg)).1)))], [], (v201 q cc gc ((v201 q cc gc ((v201 q cc gc ((v201 q cc gc h i (((Ar h 170) (78 + m5)).toNatClampNeg)).2) m5 (((Ar h 170) (78 + m5)).toNatClampNeg)).2) m5 (((Ar h 170) (78 + i)).toNatClampNeg)).2) i (((Ar h 170) (78 + i)).toNatClampNeg)).2, 198, sl)) = some R := en_J (fun z18 => by
          have hh := en_t z18 hh
          have hh : pm_run PT n fr lo 236 (162, [some (.ref 162), some (.int x1), some (.int x2), some (.int x3), some (.int x4), some (.int (nI m5)), some (.int (nI i)), some (.int (nI (((Ar h 170) (78 + m5)).toNatClampNeg))), some (.int (nI (((Ar h 170) (78 + i)).toNatClampNeg))), some (.int (((v201 q cc gc h i (((Ar h 170) (78 + m5)).toNatClampNeg)).1) - ((v201 q cc gc ((v201 q cc gc h i (((Ar h 170) (78 + m5)).toNatClampNeg)).2) m5 (((Ar h 170) (78 + m5)).toNatClampNeg)).1))), some (.int (((v201 q cc gc ((v201 q cc gc ((v201 q cc gc h i (((Ar h 170) (78 + m5)).toNatClampNeg)).2) m5 (((Ar h 170) (78 + m5)).toNatClampNeg)).2) m5 (((Ar h 170) (78 + i)).toNatClampNeg)).1) - ((v201 q cc gc ((v201 q cc gc ((v201 q cc gc ((v201 q cc gc h i (((Ar h 170) (78 + m5)).toNatClampNeg)).2) m5 (((Ar h 170) (78 + m5)).toNatClampNeg)).2) m5 (((Ar h 170) (78 + i)).toNatClampNeg)).2) i (((Ar h 170) (78 + i)).toNatClampNeg)).1)))], [], (v201 q cc gc ((v201 q cc gc ((v201 q cc gc ((v201 q cc gc h i (((Ar h 170) (78 + m5)).toNatClampNeg)).2) m5 (((Ar h 170) (78 + m5)).toNatClampNeg)).2) m5 (((Ar h 170) (78 + i)).toNatClampNeg)).2) i (((Ar h 170) (78 + i)).toNatClampNeg)).2, 198, sl) = some R := hh
          exact ⟨n, hh⟩) (fun z18 => by
          have hh := en_f z18 hh
          have hh : pm_run PT n fr lo 236 (131, [some (.ref 162), some (.int x1), some (.int x2), some (.int x3), some (.int x4), some (.int (nI m5)), some (.int (nI i)), some (.int (nI (((Ar h 170) (78 + m5)).toNatClampNeg))), some (.int (nI (((Ar h 170) (78 + i)).toNatClampNeg))), some (.int (((v201 q cc gc h i (((Ar h 170) (78 + m5)).toNatClampNeg)).1) - ((v201 q cc gc ((v201 q cc gc h i (((Ar h 170) (78 + m5)).toNatClampNeg)).2) m5 (((Ar h 170) (78 + m5)).toNatClampNeg)).1))), some (.int (((v201 q cc gc ((v201 q cc gc ((v201 q cc gc h i (((Ar h 170) (78 + m5)).toNatClampNeg)).2) m5 (((Ar h 170) (78 + m5)).toNatClampNeg)).2) m5 (((Ar h 170) (78 + i)).toNatClampNeg)).1) - ((v201 q cc gc ((v201 q cc gc ((v201 q cc gc ((v201 q cc gc h i (((Ar h 170) (78 + m5)).toNatClampNeg)).2) m5 (((Ar h 170) (78 + m5)).toNatClampNeg)).2) m5 (((Ar h 170) (78 + i)).toNatClampNeg)).2) i (((Ar h 170) (78 + i)).toNatClampNeg)).1)))], [], (v201 q cc gc ((v201 q cc gc ((v201 q cc gc ((v201 q cc gc h i (((Ar h 170) (78 + m5)).toNatClampNeg)).2) m5 (((Ar h 170) (78 + m5)).toNatClampNeg)).2) m5 (((Ar h 170) (78 + i)).toNatClampNeg)).2) i (((Ar h 170) (78 + i)).toNatClampNeg)).2, 198, sl) = some R := hh
          obtain ⟨n, hh⟩ := rn_i rfl rfl rfl rfl hh
          have hh : pm_run PT n fr lo 236 (133, [some (.ref 162), some (.int x1), some (.int x2), some (.int x3), some (.int x4), some (.int (nI m5)), some (.int (nI i)), some (.int (nI (((Ar h 170) (78 + m5)).toNatClampNeg))), some (.int (nI (((Ar h 170) (78 + i)).toNatClampNeg))), some (.int (((v201 q cc gc h i (((Ar h 170) (78 + m5)).toNatClampNeg)).1) - ((v201 q cc gc ((v201 q cc gc h i (((Ar h 170) (78 + m5)).toNatClampNeg)).2) m5 (((Ar h 170) (78 + m5)).toNatClampNeg)).1))), some (.int (((v201 q cc gc ((v201 q cc gc ((v201 q cc gc h i (((Ar h 170) (78 + m5)).toNatClampNeg)).2) m5 (((Ar h 170) (78 + m5)).toNatClampNeg)).2) m5 (((Ar h 170) (78 + i)).toNatClampNeg)).1) - ((v201 q cc gc ((v201 q cc gc ((v201 q cc gc ((v201 q cc gc h i (((Ar h 170) (78 + m5)).toNatClampNeg)).2) m5 (((Ar h 170) (78 + m5)).toNatClampNeg)).2) m5 (((Ar h 170) (78 + i)).toNatClampNeg)).2) i (((Ar h 170) (78 + i)).toNatClampNeg)).1)))], [.int (((v201 q cc gc ((v201 q cc gc ((v201 q cc gc h i (((Ar h 170) (78 + m5)).toNatClampNeg)).2) m5 (((Ar h 170) (78 + m5)).toNatClampNeg)).2) m5 (((Ar h 170) (78 + i)).toNatClampNeg)).1) - ((v201 q cc gc ((v201 q cc gc ((v201 q cc gc ((v201 q cc gc h i (((Ar h 170) (78 + m5)).toNatClampNeg)).2) m5 (((Ar h 170) (78 + m5)).toNatClampNeg)).2) m5 (((Ar h 170) (78 + i)).toNatClampNeg)).2) i (((Ar h 170) (78 + i)).toNatClampNeg)).1))], (v201 q cc gc ((v201 q cc gc ((v201 q cc gc ((v201 q cc gc h i (((Ar h 170) (78 + m5)).toNatClampNeg)).2) m5 (((Ar h 170) (78 + m5)).toNatClampNeg)).2) m5 (((Ar h 170) (78 + i)).toNatClampNeg)).2) i (((Ar h 170) (78 + i)).toNatClampNeg)).2, 198, sl) = some R := hh
          obtain ⟨n, hh⟩ := en_zn (cc := .le) (off := 29) (t := 162) (b := pm_cmp .le (((v201 q cc gc ((v201 q cc gc ((v201 q cc gc h i (((Ar h 170) (78 + m5)).toNatClampNeg)).2) m5 (((Ar h 170) (78 + m5)).toNatClampNeg)).2) m5 (((Ar h 170) (78 + i)).toNatClampNeg)).1) - ((v201 q cc gc ((v201 q cc gc ((v201 q cc gc ((v201 q cc gc h i (((Ar h 170) (78 + m5)).toNatClampNeg)).2) m5 (((Ar h 170) (78 + m5)).toNatClampNeg)).2) m5 (((Ar h 170) (78 + i)).toNatClampNeg)).2) i (((Ar h 170) (78 + i)).toNatClampNeg)).1)) 0) rfl rfl rfl hh
          have hj22 : ∃ mJ, pm_run PT mJ fr lo 236 (cond (pm_cmp .le (((v201 q cc gc ((v201 q cc gc ((v201 q cc gc h i (((Ar h 170) (78 + m5)).toNatClampNeg)).2) m5 (((Ar h 170) (78 + m5)).toNatClampNeg)).2) m5 (((Ar h 170) (78 + i)).toNatClampNeg)).1) - ((v201 q cc gc ((v201 q cc gc ((v201 q cc gc ((v201 q cc gc h i (((Ar h 170) (78 + m5)).toNatClampNeg)).2) m5 (((Ar h 170) (78 + m5)).toNatClampNeg)).2) m5 (((Ar h 170) (78 + i)).toNatClampNeg)).2) i (((Ar h 170) (78 + i)).toNatClampNeg)).1)) 0) (162, [some (.ref 162), some (.int x1), some (.int x2), some (.int x3), some (.int x4), some (.int (nI m5)), some (.int (nI i)), some (.int (nI (((Ar h 170) (78 + m5)).toNatClampNeg))), some (.int (nI (((Ar h 170) (78 + i)).toNatClampNeg))), some (.int (((v201 q cc gc h i (((Ar h 170) (78 + m5)).toNatClampNeg)).1) - ((v201 q cc gc ((v201 q cc gc h i (((Ar h 170) (78 + m5)).toNatClampNeg)).2) m5 (((Ar h 170) (78 + m5)).toNatClampNeg)).1))), some (.int (((v201 q cc gc ((v201 q cc gc ((v201 q cc gc h i (((Ar h 170) (78 + m5)).toNatClampNeg)).2) m5 (((Ar h 170) (78 + m5)).toNatClampNeg)).2) m5 (((Ar h 170) (78 + i)).toNatClampNeg)).1) - ((v201 q cc gc ((v201 q cc gc ((v201 q cc gc ((v201 q cc gc h i (((Ar h 170) (78 + m5)).toNatClampNeg)).2) m5 (((Ar h 170) (78 + m5)).toNatClampNeg)).2) m5 (((Ar h 170) (78 + i)).toNatClampNeg)).2) i (((Ar h 170) (78 + i)).toNatClampNeg)).1)))], [], (v201 q cc gc ((v201 q cc gc ((v201 q cc gc ((v201 q cc gc h i (((Ar h 170) (78 + m5)).toNatClampNeg)).2) m5 (((Ar h 170) (78 + m5)).toNatClampNeg)).2) m5 (((Ar h 170) (78 + i)).toNatClampNeg)).2) i (((Ar h 170) (78 + i)).toNatClampNeg)).2, 198, sl) (162, [some (.ref 162), some (.int (x1 + Int32.ofInt 1)), some (.int (cond (pm_cmp .le ((((v201 q cc gc h i (((Ar h 170) (78 + m5)).toNatClampNeg)).1) - ((v201 q cc gc ((v201 q cc gc h i (((Ar h 170) (78 + m5)).toNatClampNeg)).2) m5 (((Ar h 170) (78 + m5)).toNatClampNeg)).1)) + (((v201 q cc gc ((v201 q cc gc ((v201 q cc gc h i (((Ar h 170) (78 + m5)).toNatClampNeg)).2) m5 (((Ar h 170) (78 + m5)).toNatClampNeg)).2) m5 (((Ar h 170) (78 + i)).toNatClampNeg)).1) - ((v201 q cc gc ((v201 q cc gc ((v201 q cc gc ((v201 q cc gc h i (((Ar h 170) (78 + m5)).toNatClampNeg)).2) m5 (((Ar h 170) (78 + m5)).toNatClampNeg)).2) m5 (((Ar h 170) (78 + i)).toNatClampNeg)).2) i (((Ar h 170) (78 + i)).toNatClampNeg)).1))) x4) x2 (nI m5))), some (.int (cond (pm_cmp .le ((((v201 q cc gc h i (((Ar h 170) (78 + m5)).toNatClampNeg)).1) - ((v201 q cc gc ((v201 q cc gc h i (((Ar h 170) (78 + m5)).toNatClampNeg)).2) m5 (((Ar h 170) (78 + m5)).toNatClampNeg)).1)) + (((v201 q cc gc ((v201 q cc gc ((v201 q cc gc h i (((Ar h 170) (78 + m5)).toNatClampNeg)).2) m5 (((Ar h 170) (78 + m5)).toNatClampNeg)).2) m5 (((Ar h 170) (78 + i)).toNatClampNeg)).1) - ((v201 q cc gc ((v201 q cc gc ((v201 q cc gc ((v201 q cc gc h i (((Ar h 170) (78 + m5)).toNatClampNeg)).2) m5 (((Ar h 170) (78 + m5)).toNatClampNeg)).2) m5 (((Ar h 170) (78 + i)).toNatClampNeg)).2) i (((Ar h 170) (78 + i)).toNatClampNeg)).1))) x4) x3 (nI i))), some (.int (cond (pm_cmp .le ((((v201 q cc gc h i (((Ar h 170) (78 + m5)).toNatClampNeg)).1) - ((v201 q cc gc ((v201 q cc gc h i (((Ar h 170) (78 + m5)).toNatClampNeg)).2) m5 (((Ar h 170) (78 + m5)).toNatClampNeg)).1)) + (((v201 q cc gc ((v201 q cc gc ((v201 q cc gc h i (((Ar h 170) (78 + m5)).toNatClampNeg)).2) m5 (((Ar h 170) (78 + m5)).toNatClampNeg)).2) m5 (((Ar h 170) (78 + i)).toNatClampNeg)).1) - ((v201 q cc gc ((v201 q cc gc ((v201 q cc gc ((v201 q cc gc h i (((Ar h 170) (78 + m5)).toNatClampNeg)).2) m5 (((Ar h 170) (78 + m5)).toNatClampNeg)).2) m5 (((Ar h 170) (78 + i)).toNatClampNeg)).2) i (((Ar h 170) (78 + i)).toNatClampNeg)).1))) x4) x4 ((((v201 q cc gc h i (((Ar h 170) (78 + m5)).toNatClampNeg)).1) - ((v201 q cc gc ((v201 q cc gc h i (((Ar h 170) (78 + m5)).toNatClampNeg)).2) m5 (((Ar h 170) (78 + m5)).toNatClampNeg)).1)) + (((v201 q cc gc ((v201 q cc gc ((v201 q cc gc h i (((Ar h 170) (78 + m5)).toNatClampNeg)).2) m5 (((Ar h 170) (78 + m5)).toNatClampNeg)).2) m5 (((Ar h 170) (78 + i)).toNatClampNeg)).1) - ((v201 q cc gc ((v201 q cc gc ((v201 q cc gc ((v201 q cc gc h i (((Ar h 170) (78 + m5)).toNatClampNeg)).2) m5 (((Ar h 170) (78 + m5)).toNatClampNeg)).2) m5 (((Ar h 170) (78 + i)).toNatClampNeg)).2) i (((Ar h 170) (78 + i)).toNatClampNeg)).1))))), some (.int (nI m5)), some (.int (nI i)), some (.int (nI (((Ar h 170) (78 + m5)).toNatClampNeg))), some (.int (nI (((Ar h 170) (78 + i)).toNatClampNeg))), some (.int (((v201 q cc gc h i (((Ar h 170) (78 + m5)).toNatClampNeg)).1) - ((v201 q cc gc ((v201 q cc gc h i (((Ar h 170) (78 + m5)).toNatClampNeg)).2) m5 (((Ar h 170) (78 + m5)).toNatClampNeg)).1))), some (.int (((v201 q cc gc ((v201 q cc gc ((v201 q cc gc h i (((Ar h 170) (78 + m5)).toNatClampNeg)).2) m5 (((Ar h 170) (78 + m5)).toNatClampNeg)).2) m5 (((Ar h 170) (78 + i)).toNatClampNeg)).1) - ((v201 q cc gc ((v201 q cc gc ((v201 q cc gc ((v201 q cc gc h i (((Ar h 170) (78 + m5)).toNatClampNeg)).2) m5 (((Ar h 170) (78 + m5)).toNatClampNeg)).2) m5 (((Ar h 170) (78 + i)).toNatClampNeg)).2) i (((Ar h 170) (78 + i)).toNatClampNeg)).1)))], [], (v201 q cc gc ((v201 q cc gc ((v201 q cc gc ((v201 q cc gc h i (((Ar h 170) (78 + m5)).toNatClampNeg)).2) m5 (((Ar h 170) (78 + m5)).toNatClampNeg)).2) m5 (((Ar h 170) (78 + i)).toNatClampNeg)).2) i (((Ar h 170) (78 + i)).toNatClampNeg)).2, 198, sl)) = some R := en_J (fun z19 => by
              have hh := en_t z19 hh
              have hh : pm_run PT n fr lo 236 (162, [some (.ref 162), some (.int x1), some (.int x2), some (.int x3), some (.int x4), some (.int (nI m5)), some (.int (nI i)), some (.int (nI (((Ar h 170) (78 + m5)).toNatClampNeg))), some (.int (nI (((Ar h 170) (78 + i)).toNatClampNeg))), some (.int (((v201 q cc gc h i (((Ar h 170) (78 + m5)).toNatClampNeg)).1) - ((v201 q cc gc ((v201 q cc gc h i (((Ar h 170) (78 + m5)).toNatClampNeg)).2) m5 (((Ar h 170) (78 + m5)).toNatClampNeg)).1))), some (.int (((v201 q cc gc ((v201 q cc gc ((v201 q cc gc h i (((Ar h 170) (78 + m5)).toNatClampNeg)).2) m5 (((Ar h 170) (78 + m5)).toNatClampNeg)).2) m5 (((Ar h 170) (78 + i)).toNatClampNeg)).1) - ((v201 q cc gc ((v201 q cc gc ((v201 q cc gc ((v201 q cc gc h i (((Ar h 170) (78 + m5)).toNatClampNeg)).2) m5 (((Ar h 170) (78 + m5)).toNatClampNeg)).2) m5 (((Ar h 170) (78 + i)).toNatClampNeg)).2) i (((Ar h 170) (78 + i)).toNatClampNeg)).1)))], [], (v201 q cc gc ((v201 q cc gc ((v201 q cc gc ((v201 q cc gc h i (((Ar h 170) (78 + m5)).toNatClampNeg)).2) m5 (((Ar h 170) (78 + m5)).toNatClampNeg)).2) m5 (((Ar h 170) (78 + i)).toNatClampNeg)).2) i (((Ar h 170) (78 + i)).toNatClampNeg)).2, 198, sl) = some R := hh
              exact ⟨n, hh⟩) (fun z19 => by
              have hh := en_f z19 hh
              have hh : pm_run PT n fr lo 236 (136, [some (.ref 162), some (.int x1), some (.int x2), some (.int x3), some (.int x4), some (.int (nI m5)), some (.int (nI i)), some (.int (nI (((Ar h 170) (78 + m5)).toNatClampNeg))), some (.int (nI (((Ar h 170) (78 + i)).toNatClampNeg))), some (.int (((v201 q cc gc h i (((Ar h 170) (78 + m5)).toNatClampNeg)).1) - ((v201 q cc gc ((v201 q cc gc h i (((Ar h 170) (78 + m5)).toNatClampNeg)).2) m5 (((Ar h 170) (78 + m5)).toNatClampNeg)).1))), some (.int (((v201 q cc gc ((v201 q cc gc ((v201 q cc gc h i (((Ar h 170) (78 + m5)).toNatClampNeg)).2) m5 (((Ar h 170) (78 + m5)).toNatClampNeg)).2) m5 (((Ar h 170) (78 + i)).toNatClampNeg)).1) - ((v201 q cc gc ((v201 q cc gc ((v201 q cc gc ((v201 q cc gc h i (((Ar h 170) (78 + m5)).toNatClampNeg)).2) m5 (((Ar h 170) (78 + m5)).toNatClampNeg)).2) m5 (((Ar h 170) (78 + i)).toNatClampNeg)).2) i (((Ar h 170) (78 + i)).toNatClampNeg)).1)))], [], (v201 q cc gc ((v201 q cc gc ((v201 q cc gc ((v201 q cc gc h i (((Ar h 170) (78 + m5)).toNatClampNeg)).2) m5 (((Ar h 170) (78 + m5)).toNatClampNeg)).2) m5 (((Ar h 170) (78 + i)).toNatClampNeg)).2) i (((Ar h 170) (78 + i)).toNatClampNeg)).2, 198, sl) = some R := hh
              obtain ⟨n, hh⟩ := rn_i rfl rfl rfl rfl hh
              obtain ⟨n, hh⟩ := rn_i rfl rfl rfl rfl hh
              obtain ⟨n, hh⟩ := rn_i rfl rfl rfl rfl hh
              obtain ⟨n, hh⟩ := rn_i rfl rfl rfl rfl hh
              obtain ⟨n, hh⟩ := rn_i rfl rfl rfl rfl hh
              have hh : pm_run PT n fr lo 236 (146, [some (.ref 162), some (.int (x1 + Int32.ofInt 1)), some (.int x2), some (.int x3), some (.int x4), some (.int (nI m5)), some (.int (nI i)), some (.int (nI (((Ar h 170) (78 + m5)).toNatClampNeg))), some (.int (nI (((Ar h 170) (78 + i)).toNatClampNeg))), some (.int (((v201 q cc gc h i (((Ar h 170) (78 + m5)).toNatClampNeg)).1) - ((v201 q cc gc ((v201 q cc gc h i (((Ar h 170) (78 + m5)).toNatClampNeg)).2) m5 (((Ar h 170) (78 + m5)).toNatClampNeg)).1))), some (.int (((v201 q cc gc ((v201 q cc gc ((v201 q cc gc h i (((Ar h 170) (78 + m5)).toNatClampNeg)).2) m5 (((Ar h 170) (78 + m5)).toNatClampNeg)).2) m5 (((Ar h 170) (78 + i)).toNatClampNeg)).1) - ((v201 q cc gc ((v201 q cc gc ((v201 q cc gc ((v201 q cc gc h i (((Ar h 170) (78 + m5)).toNatClampNeg)).2) m5 (((Ar h 170) (78 + m5)).toNatClampNeg)).2) m5 (((Ar h 170) (78 + i)).toNatClampNeg)).2) i (((Ar h 170) (78 + i)).toNatClampNeg)).1)))], [.int x4, .int ((((v201 q cc gc h i (((Ar h 170) (78 + m5)).toNatClampNeg)).1) - ((v201 q cc gc ((v201 q cc gc h i (((Ar h 170) (78 + m5)).toNatClampNeg)).2) m5 (((Ar h 170) (78 + m5)).toNatClampNeg)).1)) + (((v201 q cc gc ((v201 q cc gc ((v201 q cc gc h i (((Ar h 170) (78 + m5)).toNatClampNeg)).2) m5 (((Ar h 170) (78 + m5)).toNatClampNeg)).2) m5 (((Ar h 170) (78 + i)).toNatClampNeg)).1) - ((v201 q cc gc ((v201 q cc gc ((v201 q cc gc ((v201 q cc gc h i (((Ar h 170) (78 + m5)).toNatClampNeg)).2) m5 (((Ar h 170) (78 + m5)).toNatClampNeg)).2) m5 (((Ar h 170) (78 + i)).toNatClampNeg)).2) i (((Ar h 170) (78 + i)).toNatClampNeg)).1)))], (v201 q cc gc ((v201 q cc gc ((v201 q cc gc ((v201 q cc gc h i (((Ar h 170) (78 + m5)).toNatClampNeg)).2) m5 (((Ar h 170) (78 + m5)).toNatClampNeg)).2) m5 (((Ar h 170) (78 + i)).toNatClampNeg)).2) i (((Ar h 170) (78 + i)).toNatClampNeg)).2, 198, sl) = some R := hh
              obtain ⟨n, hh⟩ := en_cn (cc := .le) (off := 16) (t := 162) (b := pm_cmp .le ((((v201 q cc gc h i (((Ar h 170) (78 + m5)).toNatClampNeg)).1) - ((v201 q cc gc ((v201 q cc gc h i (((Ar h 170) (78 + m5)).toNatClampNeg)).2) m5 (((Ar h 170) (78 + m5)).toNatClampNeg)).1)) + (((v201 q cc gc ((v201 q cc gc ((v201 q cc gc h i (((Ar h 170) (78 + m5)).toNatClampNeg)).2) m5 (((Ar h 170) (78 + m5)).toNatClampNeg)).2) m5 (((Ar h 170) (78 + i)).toNatClampNeg)).1) - ((v201 q cc gc ((v201 q cc gc ((v201 q cc gc ((v201 q cc gc h i (((Ar h 170) (78 + m5)).toNatClampNeg)).2) m5 (((Ar h 170) (78 + m5)).toNatClampNeg)).2) m5 (((Ar h 170) (78 + i)).toNatClampNeg)).2) i (((Ar h 170) (78 + i)).toNatClampNeg)).1))) x4) rfl rfl rfl hh
              have hj21 : ∃ mJ, pm_run PT mJ fr lo 236 (cond (pm_cmp .le ((((v201 q cc gc h i (((Ar h 170) (78 + m5)).toNatClampNeg)).1) - ((v201 q cc gc ((v201 q cc gc h i (((Ar h 170) (78 + m5)).toNatClampNeg)).2) m5 (((Ar h 170) (78 + m5)).toNatClampNeg)).1)) + (((v201 q cc gc ((v201 q cc gc ((v201 q cc gc h i (((Ar h 170) (78 + m5)).toNatClampNeg)).2) m5 (((Ar h 170) (78 + m5)).toNatClampNeg)).2) m5 (((Ar h 170) (78 + i)).toNatClampNeg)).1) - ((v201 q cc gc ((v201 q cc gc ((v201 q cc gc ((v201 q cc gc h i (((Ar h 170) (78 + m5)).toNatClampNeg)).2) m5 (((Ar h 170) (78 + m5)).toNatClampNeg)).2) m5 (((Ar h 170) (78 + i)).toNatClampNeg)).2) i (((Ar h 170) (78 + i)).toNatClampNeg)).1))) x4) (162, [some (.ref 162), some (.int (x1 + Int32.ofInt 1)), some (.int x2), some (.int x3), some (.int x4), some (.int (nI m5)), some (.int (nI i)), some (.int (nI (((Ar h 170) (78 + m5)).toNatClampNeg))), some (.int (nI (((Ar h 170) (78 + i)).toNatClampNeg))), some (.int (((v201 q cc gc h i (((Ar h 170) (78 + m5)).toNatClampNeg)).1) - ((v201 q cc gc ((v201 q cc gc h i (((Ar h 170) (78 + m5)).toNatClampNeg)).2) m5 (((Ar h 170) (78 + m5)).toNatClampNeg)).1))), some (.int (((v201 q cc gc ((v201 q cc gc ((v201 q cc gc h i (((Ar h 170) (78 + m5)).toNatClampNeg)).2) m5 (((Ar h 170) (78 + m5)).toNatClampNeg)).2) m5 (((Ar h 170) (78 + i)).toNatClampNeg)).1) - ((v201 q cc gc ((v201 q cc gc ((v201 q cc gc ((v201 q cc gc h i (((Ar h 170) (78 + m5)).toNatClampNeg)).2) m5 (((Ar h 170) (78 + m5)).toNatClampNeg)).2) m5 (((Ar h 170) (78 + i)).toNatClampNeg)).2) i (((Ar h 170) (78 + i)).toNatClampNeg)).1)))], [], (v201 q cc gc ((v201 q cc gc ((v201 q cc gc ((v201 q cc gc h i (((Ar h 170) (78 + m5)).toNatClampNeg)).2) m5 (((Ar h 170) (78 + m5)).toNatClampNeg)).2) m5 (((Ar h 170) (78 + i)).toNatClampNeg)).2) i (((Ar h 170) (78 + i)).toNatClampNeg)).2, 198, sl) (162, [some (.ref 162), some (.int (x1 + Int32.ofInt 1)), some (.int (nI m5)), some (.int (nI i)), some (.int ((((v201 q cc gc h i (((Ar h 170) (78 + m5)).toNatClampNeg)).1) - ((v201 q cc gc ((v201 q cc gc h i (((Ar h 170) (78 + m5)).toNatClampNeg)).2) m5 (((Ar h 170) (78 + m5)).toNatClampNeg)).1)) + (((v201 q cc gc ((v201 q cc gc ((v201 q cc gc h i (((Ar h 170) (78 + m5)).toNatClampNeg)).2) m5 (((Ar h 170) (78 + m5)).toNatClampNeg)).2) m5 (((Ar h 170) (78 + i)).toNatClampNeg)).1) - ((v201 q cc gc ((v201 q cc gc ((v201 q cc gc ((v201 q cc gc h i (((Ar h 170) (78 + m5)).toNatClampNeg)).2) m5 (((Ar h 170) (78 + m5)).toNatClampNeg)).2) m5 (((Ar h 170) (78 + i)).toNatClampNeg)).2) i (((Ar h 170) (78 + i)).toNatClampNeg)).1)))), some (.int (nI m5)), some (.int (nI i)), some (.int (nI (((Ar h 170) (78 + m5)).toNatClampNeg))), some (.int (nI (((Ar h 170) (78 + i)).toNatClampNeg))), some (.int (((v201 q cc gc h i (((Ar h 170) (78 + m5)).toNatClampNeg)).1) - ((v201 q cc gc ((v201 q cc gc h i (((Ar h 170) (78 + m5)).toNatClampNeg)).2) m5 (((Ar h 170) (78 + m5)).toNatClampNeg)).1))), some (.int (((v201 q cc gc ((v201 q cc gc ((v201 q cc gc h i (((Ar h 170) (78 + m5)).toNatClampNeg)).2) m5 (((Ar h 170) (78 + m5)).toNatClampNeg)).2) m5 (((Ar h 170) (78 + i)).toNatClampNeg)).1) - ((v201 q cc gc ((v201 q cc gc ((v201 q cc gc ((v201 q cc gc h i (((Ar h 170) (78 + m5)).toNatClampNeg)).2) m5 (((Ar h 170) (78 + m5)).toNatClampNeg)).2) m5 (((Ar h 170) (78 + i)).toNatClampNeg)).2) i (((Ar h 170) (78 + i)).toNatClampNeg)).1)))], [], (v201 q cc gc ((v201 q cc gc ((v201 q cc gc ((v201 q cc gc h i (((Ar h 170) (78 + m5)).toNatClampNeg)).2) m5 (((Ar h 170) (78 + m5)).toNatClampNeg)).2) m5 (((Ar h 170) (78 + i)).toNatClampNeg)).2) i (((Ar h 170) (78 + i)).toNatClampNeg)).2, 198, sl)) = some R := en_J (fun z20 => by
                  have hh := en_t z20 hh
                  have hh : pm_run PT n fr lo 236 (162, [some (.ref 162), some (.int (x1 + Int32.ofInt 1)), some (.int x2), some (.int x3), some (.int x4), some (.int (nI m5)), some (.int (nI i)), some (.int (nI (((Ar h 170) (78 + m5)).toNatClampNeg))), some (.int (nI (((Ar h 170) (78 + i)).toNatClampNeg))), some (.int (((v201 q cc gc h i (((Ar h 170) (78 + m5)).toNatClampNeg)).1) - ((v201 q cc gc ((v201 q cc gc h i (((Ar h 170) (78 + m5)).toNatClampNeg)).2) m5 (((Ar h 170) (78 + m5)).toNatClampNeg)).1))), some (.int (((v201 q cc gc ((v201 q cc gc ((v201 q cc gc h i (((Ar h 170) (78 + m5)).toNatClampNeg)).2) m5 (((Ar h 170) (78 + m5)).toNatClampNeg)).2) m5 (((Ar h 170) (78 + i)).toNatClampNeg)).1) - ((v201 q cc gc ((v201 q cc gc ((v201 q cc gc ((v201 q cc gc h i (((Ar h 170) (78 + m5)).toNatClampNeg)).2) m5 (((Ar h 170) (78 + m5)).toNatClampNeg)).2) m5 (((Ar h 170) (78 + i)).toNatClampNeg)).2) i (((Ar h 170) (78 + i)).toNatClampNeg)).1)))], [], (v201 q cc gc ((v201 q cc gc ((v201 q cc gc ((v201 q cc gc h i (((Ar h 170) (78 + m5)).toNatClampNeg)).2) m5 (((Ar h 170) (78 + m5)).toNatClampNeg)).2) m5 (((Ar h 170) (78 + i)).toNatClampNeg)).2) i (((Ar h 170) (78 + i)).toNatClampNeg)).2, 198, sl) = some R := hh
                  exact ⟨n, hh⟩) (fun z20 => by
                  have hh := en_f z20 hh
                  have hh : pm_run PT n fr lo 236 (149, [some (.ref 162), some (.int (x1 + Int32.ofInt 1)), some (.int x2), some (.int x3), some (.int x4), some (.int (nI m5)), some (.int (nI i)), some (.int (nI (((Ar h 170) (78 + m5)).toNatClampNeg))), some (.int (nI (((Ar h 170) (78 + i)).toNatClampNeg))), some (.int (((v201 q cc gc h i (((Ar h 170) (78 + m5)).toNatClampNeg)).1) - ((v201 q cc gc ((v201 q cc gc h i (((Ar h 170) (78 + m5)).toNatClampNeg)).2) m5 (((Ar h 170) (78 + m5)).toNatClampNeg)).1))), some (.int (((v201 q cc gc ((v201 q cc gc ((v201 q cc gc h i (((Ar h 170) (78 + m5)).toNatClampNeg)).2) m5 (((Ar h 170) (78 + m5)).toNatClampNeg)).2) m5 (((Ar h 170) (78 + i)).toNatClampNeg)).1) - ((v201 q cc gc ((v201 q cc gc ((v201 q cc gc ((v201 q cc gc h i (((Ar h 170) (78 + m5)).toNatClampNeg)).2) m5 (((Ar h 170) (78 + m5)).toNatClampNeg)).2) m5 (((Ar h 170) (78 + i)).toNatClampNeg)).2) i (((Ar h 170) (78 + i)).toNatClampNeg)).1)))], [], (v201 q cc gc ((v201 q cc gc ((v201 q cc gc ((v201 q cc gc h i (((Ar h 170) (78 + m5)).toNatClampNeg)).2) m5 (((Ar h 170) (78 + m5)).toNatClampNeg)).2) m5 (((Ar h 170) (78 + i)).toNatClampNeg)).2) i (((Ar h 170) (78 + i)).toNatClampNeg)).2, 198, sl) = some R := hh
                  obtain ⟨n, hh⟩ := rn_i rfl rfl rfl rfl hh
                  obtain ⟨n, hh⟩ := rn_i rfl rfl rfl rfl hh
                  obtain ⟨n, hh⟩ := rn_i rfl rfl rfl rfl hh
                  obtain ⟨n, hh⟩ := rn_i rfl rfl rfl rfl hh
                  obtain ⟨n, hh⟩ := rn_i rfl rfl rfl rfl hh
                  obtain ⟨n, hh⟩ := rn_i rfl rfl rfl rfl hh
                  obtain ⟨n, hh⟩ := rn_i rfl rfl rfl rfl hh
                  obtain ⟨n, hh⟩ := rn_i rfl rfl rfl rfl hh
                  exact ⟨n, hh⟩)
              obtain ⟨n, hh⟩ := hj21
              rw [show (cond (pm_cmp .le ((((v201 q cc gc h i (((Ar h 170) (78 + m5)).toNatClampNeg)).1) - ((v201 q cc gc ((v201 q cc gc h i (((Ar h 170) (78 + m5)).toNatClampNeg)).2) m5 (((Ar h 170) (78 + m5)).toNatClampNeg)).1)) + (((v201 q cc gc ((v201 q cc gc ((v201 q cc gc h i (((Ar h 170) (78 + m5)).toNatClampNeg)).2) m5 (((Ar h 170) (78 + m5)).toNatClampNeg)).2) m5 (((Ar h 170) (78 + i)).toNatClampNeg)).1) - ((v201 q cc gc ((v201 q cc gc ((v201 q cc gc ((v201 q cc gc h i (((Ar h 170) (78 + m5)).toNatClampNeg)).2) m5 (((Ar h 170) (78 + m5)).toNatClampNeg)).2) m5 (((Ar h 170) (78 + i)).toNatClampNeg)).2) i (((Ar h 170) (78 + i)).toNatClampNeg)).1))) x4) (162, [some (.ref 162), some (.int (x1 + Int32.ofInt 1)), some (.int x2), some (.int x3), some (.int x4), some (.int (nI m5)), some (.int (nI i)), some (.int (nI (((Ar h 170) (78 + m5)).toNatClampNeg))), some (.int (nI (((Ar h 170) (78 + i)).toNatClampNeg))), some (.int (((v201 q cc gc h i (((Ar h 170) (78 + m5)).toNatClampNeg)).1) - ((v201 q cc gc ((v201 q cc gc h i (((Ar h 170) (78 + m5)).toNatClampNeg)).2) m5 (((Ar h 170) (78 + m5)).toNatClampNeg)).1))), some (.int (((v201 q cc gc ((v201 q cc gc ((v201 q cc gc h i (((Ar h 170) (78 + m5)).toNatClampNeg)).2) m5 (((Ar h 170) (78 + m5)).toNatClampNeg)).2) m5 (((Ar h 170) (78 + i)).toNatClampNeg)).1) - ((v201 q cc gc ((v201 q cc gc ((v201 q cc gc ((v201 q cc gc h i (((Ar h 170) (78 + m5)).toNatClampNeg)).2) m5 (((Ar h 170) (78 + m5)).toNatClampNeg)).2) m5 (((Ar h 170) (78 + i)).toNatClampNeg)).2) i (((Ar h 170) (78 + i)).toNatClampNeg)).1)))], [], (v201 q cc gc ((v201 q cc gc ((v201 q cc gc ((v201 q cc gc h i (((Ar h 170) (78 + m5)).toNatClampNeg)).2) m5 (((Ar h 170) (78 + m5)).toNatClampNeg)).2) m5 (((Ar h 170) (78 + i)).toNatClampNeg)).2) i (((Ar h 170) (78 + i)).toNatClampNeg)).2, 198, sl) (162, [some (.ref 162), some (.int (x1 + Int32.ofInt 1)), some (.int (nI m5)), some (.int (nI i)), some (.int ((((v201 q cc gc h i (((Ar h 170) (78 + m5)).toNatClampNeg)).1) - ((v201 q cc gc ((v201 q cc gc h i (((Ar h 170) (78 + m5)).toNatClampNeg)).2) m5 (((Ar h 170) (78 + m5)).toNatClampNeg)).1)) + (((v201 q cc gc ((v201 q cc gc ((v201 q cc gc h i (((Ar h 170) (78 + m5)).toNatClampNeg)).2) m5 (((Ar h 170) (78 + m5)).toNatClampNeg)).2) m5 (((Ar h 170) (78 + i)).toNatClampNeg)).1) - ((v201 q cc gc ((v201 q cc gc ((v201 q cc gc ((v201 q cc gc h i (((Ar h 170) (78 + m5)).toNatClampNeg)).2) m5 (((Ar h 170) (78 + m5)).toNatClampNeg)).2) m5 (((Ar h 170) (78 + i)).toNatClampNeg)).2) i (((Ar h 170) (78 + i)).toNatClampNeg)).1)))), some (.int (nI m5)), some (.int (nI i)), some (.int (nI (((Ar h 170) (78 + m5)).toNatClampNeg))), some (.int (nI (((Ar h 170) (78 + i)).toNatClampNeg))), some (.int (((v201 q cc gc h i (((Ar h 170) (78 + m5)).toNatClampNeg)).1) - ((v201 q cc gc ((v201 q cc gc h i (((Ar h 170) (78 + m5)).toNatClampNeg)).2) m5 (((Ar h 170) (78 + m5)).toNatClampNeg)).1))), some (.int (((v201 q cc gc ((v201 q cc gc ((v201 q cc gc h i (((Ar h 170) (78 + m5)).toNatClampNeg)).2) m5 (((Ar h 170) (78 + m5)).toNatClampNeg)).2) m5 (((Ar h 170) (78 + i)).toNatClampNeg)).1) - ((v201 q cc gc ((v201 q cc gc ((v201 q cc gc ((v201 q cc gc h i (((Ar h 170) (78 + m5)).toNatClampNeg)).2) m5 (((Ar h 170) (78 + m5)).toNatClampNeg)).2) m5 (((Ar h 170) (78 + i)).toNatClampNeg)).2) i (((Ar h 170) (78 + i)).toNatClampNeg)).1)))], [], (v201 q cc gc ((v201 q cc gc ((v201 q cc gc ((v201 q cc gc h i (((Ar h 170) (78 + m5)).toNatClampNeg)).2) m5 (((Ar h 170) (78 + m5)).toNatClampNeg)).2) m5 (((Ar h 170) (78 + i)).toNatClampNeg)).2) i (((Ar h 170) (78 + i)).toNatClampNeg)).2, 198, sl) : pm_St) = (162, [some (.ref 162), some (.int (x1 + Int32.ofInt 1)), some (.int (cond (pm_cmp .le ((((v201 q cc gc h i (((Ar h 170) (78 + m5)).toNatClampNeg)).1) - ((v201 q cc gc ((v201 q cc gc h i (((Ar h 170) (78 + m5)).toNatClampNeg)).2) m5 (((Ar h 170) (78 + m5)).toNatClampNeg)).1)) + (((v201 q cc gc ((v201 q cc gc ((v201 q cc gc h i (((Ar h 170) (78 + m5)).toNatClampNeg)).2) m5 (((Ar h 170) (78 + m5)).toNatClampNeg)).2) m5 (((Ar h 170) (78 + i)).toNatClampNeg)).1) - ((v201 q cc gc ((v201 q cc gc ((v201 q cc gc ((v201 q cc gc h i (((Ar h 170) (78 + m5)).toNatClampNeg)).2) m5 (((Ar h 170) (78 + m5)).toNatClampNeg)).2) m5 (((Ar h 170) (78 + i)).toNatClampNeg)).2) i (((Ar h 170) (78 + i)).toNatClampNeg)).1))) x4) x2 (nI m5))), some (.int (cond (pm_cmp .le ((((v201 q cc gc h i (((Ar h 170) (78 + m5)).toNatClampNeg)).1) - ((v201 q cc gc ((v201 q cc gc h i (((Ar h 170) (78 + m5)).toNatClampNeg)).2) m5 (((Ar h 170) (78 + m5)).toNatClampNeg)).1)) + (((v201 q cc gc ((v201 q cc gc ((v201 q cc gc h i (((Ar h 170) (78 + m5)).toNatClampNeg)).2) m5 (((Ar h 170) (78 + m5)).toNatClampNeg)).2) m5 (((Ar h 170) (78 + i)).toNatClampNeg)).1) - ((v201 q cc gc ((v201 q cc gc ((v201 q cc gc ((v201 q cc gc h i (((Ar h 170) (78 + m5)).toNatClampNeg)).2) m5 (((Ar h 170) (78 + m5)).toNatClampNeg)).2) m5 (((Ar h 170) (78 + i)).toNatClampNeg)).2) i (((Ar h 170) (78 + i)).toNatClampNeg)).1))) x4) x3 (nI i))), some (.int (cond (pm_cmp .le ((((v201 q cc gc h i (((Ar h 170) (78 + m5)).toNatClampNeg)).1) - ((v201 q cc gc ((v201 q cc gc h i (((Ar h 170) (78 + m5)).toNatClampNeg)).2) m5 (((Ar h 170) (78 + m5)).toNatClampNeg)).1)) + (((v201 q cc gc ((v201 q cc gc ((v201 q cc gc h i (((Ar h 170) (78 + m5)).toNatClampNeg)).2) m5 (((Ar h 170) (78 + m5)).toNatClampNeg)).2) m5 (((Ar h 170) (78 + i)).toNatClampNeg)).1) - ((v201 q cc gc ((v201 q cc gc ((v201 q cc gc ((v201 q cc gc h i (((Ar h 170) (78 + m5)).toNatClampNeg)).2) m5 (((Ar h 170) (78 + m5)).toNatClampNeg)).2) m5 (((Ar h 170) (78 + i)).toNatClampNeg)).2) i (((Ar h 170) (78 + i)).toNatClampNeg)).1))) x4) x4 ((((v201 q cc gc h i (((Ar h 170) (78 + m5)).toNatClampNeg)).1) - ((v201 q cc gc ((v201 q cc gc h i (((Ar h 170) (78 + m5)).toNatClampNeg)).2) m5 (((Ar h 170) (78 + m5)).toNatClampNeg)).1)) + (((v201 q cc gc ((v201 q cc gc ((v201 q cc gc h i (((Ar h 170) (78 + m5)).toNatClampNeg)).2) m5 (((Ar h 170) (78 + m5)).toNatClampNeg)).2) m5 (((Ar h 170) (78 + i)).toNatClampNeg)).1) - ((v201 q cc gc ((v201 q cc gc ((v201 q cc gc ((v201 q cc gc h i (((Ar h 170) (78 + m5)).toNatClampNeg)).2) m5 (((Ar h 170) (78 + m5)).toNatClampNeg)).2) m5 (((Ar h 170) (78 + i)).toNatClampNeg)).2) i (((Ar h 170) (78 + i)).toNatClampNeg)).1))))), some (.int (nI m5)), some (.int (nI i)), some (.int (nI (((Ar h 170) (78 + m5)).toNatClampNeg))), some (.int (nI (((Ar h 170) (78 + i)).toNatClampNeg))), some (.int (((v201 q cc gc h i (((Ar h 170) (78 + m5)).toNatClampNeg)).1) - ((v201 q cc gc ((v201 q cc gc h i (((Ar h 170) (78 + m5)).toNatClampNeg)).2) m5 (((Ar h 170) (78 + m5)).toNatClampNeg)).1))), some (.int (((v201 q cc gc ((v201 q cc gc ((v201 q cc gc h i (((Ar h 170) (78 + m5)).toNatClampNeg)).2) m5 (((Ar h 170) (78 + m5)).toNatClampNeg)).2) m5 (((Ar h 170) (78 + i)).toNatClampNeg)).1) - ((v201 q cc gc ((v201 q cc gc ((v201 q cc gc ((v201 q cc gc h i (((Ar h 170) (78 + m5)).toNatClampNeg)).2) m5 (((Ar h 170) (78 + m5)).toNatClampNeg)).2) m5 (((Ar h 170) (78 + i)).toNatClampNeg)).2) i (((Ar h 170) (78 + i)).toNatClampNeg)).1)))], [], (v201 q cc gc ((v201 q cc gc ((v201 q cc gc ((v201 q cc gc h i (((Ar h 170) (78 + m5)).toNatClampNeg)).2) m5 (((Ar h 170) (78 + m5)).toNatClampNeg)).2) m5 (((Ar h 170) (78 + i)).toNatClampNeg)).2) i (((Ar h 170) (78 + i)).toNatClampNeg)).2, 198, sl) from by cases (pm_cmp .le ((((v201 q cc gc h i (((Ar h 170) (78 + m5)).toNatClampNeg)).1) - ((v201 q cc gc ((v201 q cc gc h i (((Ar h 170) (78 + m5)).toNatClampNeg)).2) m5 (((Ar h 170) (78 + m5)).toNatClampNeg)).1)) + (((v201 q cc gc ((v201 q cc gc ((v201 q cc gc h i (((Ar h 170) (78 + m5)).toNatClampNeg)).2) m5 (((Ar h 170) (78 + m5)).toNatClampNeg)).2) m5 (((Ar h 170) (78 + i)).toNatClampNeg)).1) - ((v201 q cc gc ((v201 q cc gc ((v201 q cc gc ((v201 q cc gc h i (((Ar h 170) (78 + m5)).toNatClampNeg)).2) m5 (((Ar h 170) (78 + m5)).toNatClampNeg)).2) m5 (((Ar h 170) (78 + i)).toNatClampNeg)).2) i (((Ar h 170) (78 + i)).toNatClampNeg)).1))) x4) <;> rfl] at hh
              exact ⟨n, hh⟩)
          obtain ⟨n, hh⟩ := hj22
          rw [show (cond (pm_cmp .le (((v201 q cc gc ((v201 q cc gc ((v201 q cc gc h i (((Ar h 170) (78 + m5)).toNatClampNeg)).2) m5 (((Ar h 170) (78 + m5)).toNatClampNeg)).2) m5 (((Ar h 170) (78 + i)).toNatClampNeg)).1) - ((v201 q cc gc ((v201 q cc gc ((v201 q cc gc ((v201 q cc gc h i (((Ar h 170) (78 + m5)).toNatClampNeg)).2) m5 (((Ar h 170) (78 + m5)).toNatClampNeg)).2) m5 (((Ar h 170) (78 + i)).toNatClampNeg)).2) i (((Ar h 170) (78 + i)).toNatClampNeg)).1)) 0) (162, [some (.ref 162), some (.int x1), some (.int x2), some (.int x3), some (.int x4), some (.int (nI m5)), some (.int (nI i)), some (.int (nI (((Ar h 170) (78 + m5)).toNatClampNeg))), some (.int (nI (((Ar h 170) (78 + i)).toNatClampNeg))), some (.int (((v201 q cc gc h i (((Ar h 170) (78 + m5)).toNatClampNeg)).1) - ((v201 q cc gc ((v201 q cc gc h i (((Ar h 170) (78 + m5)).toNatClampNeg)).2) m5 (((Ar h 170) (78 + m5)).toNatClampNeg)).1))), some (.int (((v201 q cc gc ((v201 q cc gc ((v201 q cc gc h i (((Ar h 170) (78 + m5)).toNatClampNeg)).2) m5 (((Ar h 170) (78 + m5)).toNatClampNeg)).2) m5 (((Ar h 170) (78 + i)).toNatClampNeg)).1) - ((v201 q cc gc ((v201 q cc gc ((v201 q cc gc ((v201 q cc gc h i (((Ar h 170) (78 + m5)).toNatClampNeg)).2) m5 (((Ar h 170) (78 + m5)).toNatClampNeg)).2) m5 (((Ar h 170) (78 + i)).toNatClampNeg)).2) i (((Ar h 170) (78 + i)).toNatClampNeg)).1)))], [], (v201 q cc gc ((v201 q cc gc ((v201 q cc gc ((v201 q cc gc h i (((Ar h 170) (78 + m5)).toNatClampNeg)).2) m5 (((Ar h 170) (78 + m5)).toNatClampNeg)).2) m5 (((Ar h 170) (78 + i)).toNatClampNeg)).2) i (((Ar h 170) (78 + i)).toNatClampNeg)).2, 198, sl) (162, [some (.ref 162), some (.int (x1 + Int32.ofInt 1)), some (.int (cond (pm_cmp .le ((((v201 q cc gc h i (((Ar h 170) (78 + m5)).toNatClampNeg)).1) - ((v201 q cc gc ((v201 q cc gc h i (((Ar h 170) (78 + m5)).toNatClampNeg)).2) m5 (((Ar h 170) (78 + m5)).toNatClampNeg)).1)) + (((v201 q cc gc ((v201 q cc gc ((v201 q cc gc h i (((Ar h 170) (78 + m5)).toNatClampNeg)).2) m5 (((Ar h 170) (78 + m5)).toNatClampNeg)).2) m5 (((Ar h 170) (78 + i)).toNatClampNeg)).1) - ((v201 q cc gc ((v201 q cc gc ((v201 q cc gc ((v201 q cc gc h i (((Ar h 170) (78 + m5)).toNatClampNeg)).2) m5 (((Ar h 170) (78 + m5)).toNatClampNeg)).2) m5 (((Ar h 170) (78 + i)).toNatClampNeg)).2) i (((Ar h 170) (78 + i)).toNatClampNeg)).1))) x4) x2 (nI m5))), some (.int (cond (pm_cmp .le ((((v201 q cc gc h i (((Ar h 170) (78 + m5)).toNatClampNeg)).1) - ((v201 q cc gc ((v201 q cc gc h i (((Ar h 170) (78 + m5)).toNatClampNeg)).2) m5 (((Ar h 170) (78 + m5)).toNatClampNeg)).1)) + (((v201 q cc gc ((v201 q cc gc ((v201 q cc gc h i (((Ar h 170) (78 + m5)).toNatClampNeg)).2) m5 (((Ar h 170) (78 + m5)).toNatClampNeg)).2) m5 (((Ar h 170) (78 + i)).toNatClampNeg)).1) - ((v201 q cc gc ((v201 q cc gc ((v201 q cc gc ((v201 q cc gc h i (((Ar h 170) (78 + m5)).toNatClampNeg)).2) m5 (((Ar h 170) (78 + m5)).toNatClampNeg)).2) m5 (((Ar h 170) (78 + i)).toNatClampNeg)).2) i (((Ar h 170) (78 + i)).toNatClampNeg)).1))) x4) x3 (nI i))), some (.int (cond (pm_cmp .le ((((v201 q cc gc h i (((Ar h 170) (78 + m5)).toNatClampNeg)).1) - ((v201 q cc gc ((v201 q cc gc h i (((Ar h 170) (78 + m5)).toNatClampNeg)).2) m5 (((Ar h 170) (78 + m5)).toNatClampNeg)).1)) + (((v201 q cc gc ((v201 q cc gc ((v201 q cc gc h i (((Ar h 170) (78 + m5)).toNatClampNeg)).2) m5 (((Ar h 170) (78 + m5)).toNatClampNeg)).2) m5 (((Ar h 170) (78 + i)).toNatClampNeg)).1) - ((v201 q cc gc ((v201 q cc gc ((v201 q cc gc ((v201 q cc gc h i (((Ar h 170) (78 + m5)).toNatClampNeg)).2) m5 (((Ar h 170) (78 + m5)).toNatClampNeg)).2) m5 (((Ar h 170) (78 + i)).toNatClampNeg)).2) i (((Ar h 170) (78 + i)).toNatClampNeg)).1))) x4) x4 ((((v201 q cc gc h i (((Ar h 170) (78 + m5)).toNatClampNeg)).1) - ((v201 q cc gc ((v201 q cc gc h i (((Ar h 170) (78 + m5)).toNatClampNeg)).2) m5 (((Ar h 170) (78 + m5)).toNatClampNeg)).1)) + (((v201 q cc gc ((v201 q cc gc ((v201 q cc gc h i (((Ar h 170) (78 + m5)).toNatClampNeg)).2) m5 (((Ar h 170) (78 + m5)).toNatClampNeg)).2) m5 (((Ar h 170) (78 + i)).toNatClampNeg)).1) - ((v201 q cc gc ((v201 q cc gc ((v201 q cc gc ((v201 q cc gc h i (((Ar h 170) (78 + m5)).toNatClampNeg)).2) m5 (((Ar h 170) (78 + m5)).toNatClampNeg)).2) m5 (((Ar h 170) (78 + i)).toNatClampNeg)).2) i (((Ar h 170) (78 + i)).toNatClampNeg)).1))))), some (.int (nI m5)), some (.int (nI i)), some (.int (nI (((Ar h 170) (78 + m5)).toNatClampNeg))), some (.int (nI (((Ar h 170) (78 + i)).toNatClampNeg))), some (.int (((v201 q cc gc h i (((Ar h 170) (78 + m5)).toNatClampNeg)).1) - ((v201 q cc gc ((v201 q cc gc h i (((Ar h 170) (78 + m5)).toNatClampNeg)).2) m5 (((Ar h 170) (78 + m5)).toNatClampNeg)).1))), some (.int (((v201 q cc gc ((v201 q cc gc ((v201 q cc gc h i (((Ar h 170) (78 + m5)).toNatClampNeg)).2) m5 (((Ar h 170) (78 + m5)).toNatClampNeg)).2) m5 (((Ar h 170) (78 + i)).toNatClampNeg)).1) - ((v201 q cc gc ((v201 q cc gc ((v201 q cc gc ((v201 q cc gc h i (((Ar h 170) (78 + m5)).toNatClampNeg)).2) m5 (((Ar h 170) (78 + m5)).toNatClampNeg)).2) m5 (((Ar h 170) (78 + i)).toNatClampNeg)).2) i (((Ar h 170) (78 + i)).toNatClampNeg)).1)))], [], (v201 q cc gc ((v201 q cc gc ((v201 q cc gc ((v201 q cc gc h i (((Ar h 170) (78 + m5)).toNatClampNeg)).2) m5 (((Ar h 170) (78 + m5)).toNatClampNeg)).2) m5 (((Ar h 170) (78 + i)).toNatClampNeg)).2) i (((Ar h 170) (78 + i)).toNatClampNeg)).2, 198, sl) : pm_St) = (162, [some (.ref 162), some (.int (cond (pm_cmp .le (((v201 q cc gc ((v201 q cc gc ((v201 q cc gc h i (((Ar h 170) (78 + m5)).toNatClampNeg)).2) m5 (((Ar h 170) (78 + m5)).toNatClampNeg)).2) m5 (((Ar h 170) (78 + i)).toNatClampNeg)).1) - ((v201 q cc gc ((v201 q cc gc ((v201 q cc gc ((v201 q cc gc h i (((Ar h 170) (78 + m5)).toNatClampNeg)).2) m5 (((Ar h 170) (78 + m5)).toNatClampNeg)).2) m5 (((Ar h 170) (78 + i)).toNatClampNeg)).2) i (((Ar h 170) (78 + i)).toNatClampNeg)).1)) 0) x1 (x1 + Int32.ofInt 1))), some (.int (cond (pm_cmp .le (((v201 q cc gc ((v201 q cc gc ((v201 q cc gc h i (((Ar h 170) (78 + m5)).toNatClampNeg)).2) m5 (((Ar h 170) (78 + m5)).toNatClampNeg)).2) m5 (((Ar h 170) (78 + i)).toNatClampNeg)).1) - ((v201 q cc gc ((v201 q cc gc ((v201 q cc gc ((v201 q cc gc h i (((Ar h 170) (78 + m5)).toNatClampNeg)).2) m5 (((Ar h 170) (78 + m5)).toNatClampNeg)).2) m5 (((Ar h 170) (78 + i)).toNatClampNeg)).2) i (((Ar h 170) (78 + i)).toNatClampNeg)).1)) 0) x2 (cond (pm_cmp .le ((((v201 q cc gc h i (((Ar h 170) (78 + m5)).toNatClampNeg)).1) - ((v201 q cc gc ((v201 q cc gc h i (((Ar h 170) (78 + m5)).toNatClampNeg)).2) m5 (((Ar h 170) (78 + m5)).toNatClampNeg)).1)) + (((v201 q cc gc ((v201 q cc gc ((v201 q cc gc h i (((Ar h 170) (78 + m5)).toNatClampNeg)).2) m5 (((Ar h 170) (78 + m5)).toNatClampNeg)).2) m5 (((Ar h 170) (78 + i)).toNatClampNeg)).1) - ((v201 q cc gc ((v201 q cc gc ((v201 q cc gc ((v201 q cc gc h i (((Ar h 170) (78 + m5)).toNatClampNeg)).2) m5 (((Ar h 170) (78 + m5)).toNatClampNeg)).2) m5 (((Ar h 170) (78 + i)).toNatClampNeg)).2) i (((Ar h 170) (78 + i)).toNatClampNeg)).1))) x4) x2 (nI m5)))), some (.int (cond (pm_cmp .le (((v201 q cc gc ((v201 q cc gc ((v201 q cc gc h i (((Ar h 170) (78 + m5)).toNatClampNeg)).2) m5 (((Ar h 170) (78 + m5)).toNatClampNeg)).2) m5 (((Ar h 170) (78 + i)).toNatClampNeg)).1) - ((v201 q cc gc ((v201 q cc gc ((v201 q cc gc ((v201 q cc gc h i (((Ar h 170) (78 + m5)).toNatClampNeg)).2) m5 (((Ar h 170) (78 + m5)).toNatClampNeg)).2) m5 (((Ar h 170) (78 + i)).toNatClampNeg)).2) i (((Ar h 170) (78 + i)).toNatClampNeg)).1)) 0) x3 (cond (pm_cmp .le ((((v201 q cc gc h i (((Ar h 170) (78 + m5)).toNatClampNeg)).1) - ((v201 q cc gc ((v201 q cc gc h i (((Ar h 170) (78 + m5)).toNatClampNeg)).2) m5 (((Ar h 170) (78 + m5)).toNatClampNeg)).1)) + (((v201 q cc gc ((v201 q cc gc ((v201 q cc gc h i (((Ar h 170) (78 + m5)).toNatClampNeg)).2) m5 (((Ar h 170) (78 + m5)).toNatClampNeg)).2) m5 (((Ar h 170) (78 + i)).toNatClampNeg)).1) - ((v201 q cc gc ((v201 q cc gc ((v201 q cc gc ((v201 q cc gc h i (((Ar h 170) (78 + m5)).toNatClampNeg)).2) m5 (((Ar h 170) (78 + m5)).toNatClampNeg)).2) m5 (((Ar h 170) (78 + i)).toNatClampNeg)).2) i (((Ar h 170) (78 + i)).toNatClampNeg)).1))) x4) x3 (nI i)))), some (.int (cond (pm_cmp .le (((v201 q cc gc ((v201 q cc gc ((v201 q cc gc h i (((Ar h 170) (78 + m5)).toNatClampNeg)).2) m5 (((Ar h 170) (78 + m5)).toNatClampNeg)).2) m5 (((Ar h 170) (78 + i)).toNatClampNeg)).1) - ((v201 q cc gc ((v201 q cc gc ((v201 q cc gc ((v201 q cc gc h i (((Ar h 170) (78 + m5)).toNatClampNeg)).2) m5 (((Ar h 170) (78 + m5)).toNatClampNeg)).2) m5 (((Ar h 170) (78 + i)).toNatClampNeg)).2) i (((Ar h 170) (78 + i)).toNatClampNeg)).1)) 0) x4 (cond (pm_cmp .le ((((v201 q cc gc h i (((Ar h 170) (78 + m5)).toNatClampNeg)).1) - ((v201 q cc gc ((v201 q cc gc h i (((Ar h 170) (78 + m5)).toNatClampNeg)).2) m5 (((Ar h 170) (78 + m5)).toNatClampNeg)).1)) + (((v201 q cc gc ((v201 q cc gc ((v201 q cc gc h i (((Ar h 170) (78 + m5)).toNatClampNeg)).2) m5 (((Ar h 170) (78 + m5)).toNatClampNeg)).2) m5 (((Ar h 170) (78 + i)).toNatClampNeg)).1) - ((v201 q cc gc ((v201 q cc gc ((v201 q cc gc ((v201 q cc gc h i (((Ar h 170) (78 + m5)).toNatClampNeg)).2) m5 (((Ar h 170) (78 + m5)).toNatClampNeg)).2) m5 (((Ar h 170) (78 + i)).toNatClampNeg)).2) i (((Ar h 170) (78 + i)).toNatClampNeg)).1))) x4) x4 ((((v201 q cc gc h i (((Ar h 170) (78 + m5)).toNatClampNeg)).1) - ((v201 q cc gc ((v201 q cc gc h i (((Ar h 170) (78 + m5)).toNatClampNeg)).2) m5 (((Ar h 170) (78 + m5)).toNatClampNeg)).1)) + (((v201 q cc gc ((v201 q cc gc ((v201 q cc gc h i (((Ar h 170) (78 + m5)).toNatClampNeg)).2) m5 (((Ar h 170) (78 + m5)).toNatClampNeg)).2) m5 (((Ar h 170) (78 + i)).toNatClampNeg)).1) - ((v201 q cc gc ((v201 q cc gc ((v201 q cc gc ((v201 q cc gc h i (((Ar h 170) (78 + m5)).toNatClampNeg)).2) m5 (((Ar h 170) (78 + m5)).toNatClampNeg)).2) m5 (((Ar h 170) (78 + i)).toNatClampNeg)).2) i (((Ar h 170) (78 + i)).toNatClampNeg)).1)))))), some (.int (nI m5)), some (.int (nI i)), some (.int (nI (((Ar h 170) (78 + m5)).toNatClampNeg))), some (.int (nI (((Ar h 170) (78 + i)).toNatClampNeg))), some (.int (((v201 q cc gc h i (((Ar h 170) (78 + m5)).toNatClampNeg)).1) - ((v201 q cc gc ((v201 q cc gc h i (((Ar h 170) (78 + m5)).toNatClampNeg)).2) m5 (((Ar h 170) (78 + m5)).toNatClampNeg)).1))), some (.int (((v201 q cc gc ((v201 q cc gc ((v201 q cc gc h i (((Ar h 170) (78 + m5)).toNatClampNeg)).2) m5 (((Ar h 170) (78 + m5)).toNatClampNeg)).2) m5 (((Ar h 170) (78 + i)).toNatClampNeg)).1) - ((v201 q cc gc ((v201 q cc gc ((v201 q cc gc ((v201 q cc gc h i (((Ar h 170) (78 + m5)).toNatClampNeg)).2) m5 (((Ar h 170) (78 + m5)).toNatClampNeg)).2) m5 (((Ar h 170) (78 + i)).toNatClampNeg)).2) i (((Ar h 170) (78 + i)).toNatClampNeg)).1)))], [], (v201 q cc gc ((v201 q cc gc ((v201 q cc gc ((v201 q cc gc h i (((Ar h 170) (78 + m5)).toNatClampNeg)).2) m5 (((Ar h 170) (78 + m5)).toNatClampNeg)).2) m5 (((Ar h 170) (78 + i)).toNatClampNeg)).2) i (((Ar h 170) (78 + i)).toNatClampNeg)).2, 198, sl) from by cases (pm_cmp .le (((v201 q cc gc ((v201 q cc gc ((v201 q cc gc h i (((Ar h 170) (78 + m5)).toNatClampNeg)).2) m5 (((Ar h 170) (78 + m5)).toNatClampNeg)).2) m5 (((Ar h 170) (78 + i)).toNatClampNeg)).1) - ((v201 q cc gc ((v201 q cc gc ((v201 q cc gc ((v201 q cc gc h i (((Ar h 170) (78 + m5)).toNatClampNeg)).2) m5 (((Ar h 170) (78 + m5)).toNatClampNeg)).2) m5 (((Ar h 170) (78 + i)).toNatClampNeg)).2) i (((Ar h 170) (78 + i)).toNatClampNeg)).1)) 0) <;> rfl] at hh
          exact ⟨n, hh⟩)
      obtain ⟨n, hh⟩ := hj23
      rw [show (cond (pm_cmp .le (((v201 q cc gc h i (((Ar h 170) (78 + m5)).toNatClampNeg)).1) - ((v201 q cc gc ((v201 q cc gc h i (((Ar h 170) (78 + m5)).toNatClampNeg)).2) m5 (((Ar h 170) (78 + m5)).toNatClampNeg)).1)) 0) (162, [some (.ref 162), some (.int x1), some (.int x2), some (.int x3), some (.int x4), some (.int (nI m5)), some (.int (nI i)), some (.int (nI (((Ar h 170) (78 + m5)).toNatClampNeg))), some (.int (nI (((Ar h 170) (78 + i)).toNatClampNeg))), some (.int (((v201 q cc gc h i (((Ar h 170) (78 + m5)).toNatClampNeg)).1) - ((v201 q cc gc ((v201 q cc gc h i (((Ar h 170) (78 + m5)).toNatClampNeg)).2) m5 (((Ar h 170) (78 + m5)).toNatClampNeg)).1))), some (.int (((v201 q cc gc ((v201 q cc gc ((v201 q cc gc h i (((Ar h 170) (78 + m5)).toNatClampNeg)).2) m5 (((Ar h 170) (78 + m5)).toNatClampNeg)).2) m5 (((Ar h 170) (78 + i)).toNatClampNeg)).1) - ((v201 q cc gc ((v201 q cc gc ((v201 q cc gc ((v201 q cc gc h i (((Ar h 170) (78 + m5)).toNatClampNeg)).2) m5 (((Ar h 170) (78 + m5)).toNatClampNeg)).2) m5 (((Ar h 170) (78 + i)).toNatClampNeg)).2) i (((Ar h 170) (78 + i)).toNatClampNeg)).1)))], [], (v201 q cc gc ((v201 q cc gc ((v201 q cc gc ((v201 q cc gc h i (((Ar h 170) (78 + m5)).toNatClampNeg)).2) m5 (((Ar h 170) (78 + m5)).toNatClampNeg)).2) m5 (((Ar h 170) (78 + i)).toNatClampNeg)).2) i (((Ar h 170) (78 + i)).toNatClampNeg)).2, 198, sl) (162, [some (.ref 162), some (.int (cond (pm_cmp .le (((v201 q cc gc ((v201 q cc gc ((v201 q cc gc h i (((Ar h 170) (78 + m5)).toNatClampNeg)).2) m5 (((Ar h 170) (78 + m5)).toNatClampNeg)).2) m5 (((Ar h 170) (78 + i)).toNatClampNeg)).1) - ((v201 q cc gc ((v201 q cc gc ((v201 q cc gc ((v201 q cc gc h i (((Ar h 170) (78 + m5)).toNatClampNeg)).2) m5 (((Ar h 170) (78 + m5)).toNatClampNeg)).2) m5 (((Ar h 170) (78 + i)).toNatClampNeg)).2) i (((Ar h 170) (78 + i)).toNatClampNeg)).1)) 0) x1 (x1 + Int32.ofInt 1))), some (.int (cond (pm_cmp .le (((v201 q cc gc ((v201 q cc gc ((v201 q cc gc h i (((Ar h 170) (78 + m5)).toNatClampNeg)).2) m5 (((Ar h 170) (78 + m5)).toNatClampNeg)).2) m5 (((Ar h 170) (78 + i)).toNatClampNeg)).1) - ((v201 q cc gc ((v201 q cc gc ((v201 q cc gc ((v201 q cc gc h i (((Ar h 170) (78 + m5)).toNatClampNeg)).2) m5 (((Ar h 170) (78 + m5)).toNatClampNeg)).2) m5 (((Ar h 170) (78 + i)).toNatClampNeg)).2) i (((Ar h 170) (78 + i)).toNatClampNeg)).1)) 0) x2 (cond (pm_cmp .le ((((v201 q cc gc h i (((Ar h 170) (78 + m5)).toNatClampNeg)).1) - ((v201 q cc gc ((v201 q cc gc h i (((Ar h 170) (78 + m5)).toNatClampNeg)).2) m5 (((Ar h 170) (78 + m5)).toNatClampNeg)).1)) + (((v201 q cc gc ((v201 q cc gc ((v201 q cc gc h i (((Ar h 170) (78 + m5)).toNatClampNeg)).2) m5 (((Ar h 170) (78 + m5)).toNatClampNeg)).2) m5 (((Ar h 170) (78 + i)).toNatClampNeg)).1) - ((v201 q cc gc ((v201 q cc gc ((v201 q cc gc ((v201 q cc gc h i (((Ar h 170) (78 + m5)).toNatClampNeg)).2) m5 (((Ar h 170) (78 + m5)).toNatClampNeg)).2) m5 (((Ar h 170) (78 + i)).toNatClampNeg)).2) i (((Ar h 170) (78 + i)).toNatClampNeg)).1))) x4) x2 (nI m5)))), some (.int (cond (pm_cmp .le (((v201 q cc gc ((v201 q cc gc ((v201 q cc gc h i (((Ar h 170) (78 + m5)).toNatClampNeg)).2) m5 (((Ar h 170) (78 + m5)).toNatClampNeg)).2) m5 (((Ar h 170) (78 + i)).toNatClampNeg)).1) - ((v201 q cc gc ((v201 q cc gc ((v201 q cc gc ((v201 q cc gc h i (((Ar h 170) (78 + m5)).toNatClampNeg)).2) m5 (((Ar h 170) (78 + m5)).toNatClampNeg)).2) m5 (((Ar h 170) (78 + i)).toNatClampNeg)).2) i (((Ar h 170) (78 + i)).toNatClampNeg)).1)) 0) x3 (cond (pm_cmp .le ((((v201 q cc gc h i (((Ar h 170) (78 + m5)).toNatClampNeg)).1) - ((v201 q cc gc ((v201 q cc gc h i (((Ar h 170) (78 + m5)).toNatClampNeg)).2) m5 (((Ar h 170) (78 + m5)).toNatClampNeg)).1)) + (((v201 q cc gc ((v201 q cc gc ((v201 q cc gc h i (((Ar h 170) (78 + m5)).toNatClampNeg)).2) m5 (((Ar h 170) (78 + m5)).toNatClampNeg)).2) m5 (((Ar h 170) (78 + i)).toNatClampNeg)).1) - ((v201 q cc gc ((v201 q cc gc ((v201 q cc gc ((v201 q cc gc h i (((Ar h 170) (78 + m5)).toNatClampNeg)).2) m5 (((Ar h 170) (78 + m5)).toNatClampNeg)).2) m5 (((Ar h 170) (78 + i)).toNatClampNeg)).2) i (((Ar h 170) (78 + i)).toNatClampNeg)).1))) x4) x3 (nI i)))), some (.int (cond (pm_cmp .le (((v201 q cc gc ((v201 q cc gc ((v201 q cc gc h i (((Ar h 170) (78 + m5)).toNatClampNeg)).2) m5 (((Ar h 170) (78 + m5)).toNatClampNeg)).2) m5 (((Ar h 170) (78 + i)).toNatClampNeg)).1) - ((v201 q cc gc ((v201 q cc gc ((v201 q cc gc ((v201 q cc gc h i (((Ar h 170) (78 + m5)).toNatClampNeg)).2) m5 (((Ar h 170) (78 + m5)).toNatClampNeg)).2) m5 (((Ar h 170) (78 + i)).toNatClampNeg)).2) i (((Ar h 170) (78 + i)).toNatClampNeg)).1)) 0) x4 (cond (pm_cmp .le ((((v201 q cc gc h i (((Ar h 170) (78 + m5)).toNatClampNeg)).1) - ((v201 q cc gc ((v201 q cc gc h i (((Ar h 170) (78 + m5)).toNatClampNeg)).2) m5 (((Ar h 170) (78 + m5)).toNatClampNeg)).1)) + (((v201 q cc gc ((v201 q cc gc ((v201 q cc gc h i (((Ar h 170) (78 + m5)).toNatClampNeg)).2) m5 (((Ar h 170) (78 + m5)).toNatClampNeg)).2) m5 (((Ar h 170) (78 + i)).toNatClampNeg)).1) - ((v201 q cc gc ((v201 q cc gc ((v201 q cc gc ((v201 q cc gc h i (((Ar h 170) (78 + m5)).toNatClampNeg)).2) m5 (((Ar h 170) (78 + m5)).toNatClampNeg)).2) m5 (((Ar h 170) (78 + i)).toNatClampNeg)).2) i (((Ar h 170) (78 + i)).toNatClampNeg)).1))) x4) x4 ((((v201 q cc gc h i (((Ar h 170) (78 + m5)).toNatClampNeg)).1) - ((v201 q cc gc ((v201 q cc gc h i (((Ar h 170) (78 + m5)).toNatClampNeg)).2) m5 (((Ar h 170) (78 + m5)).toNatClampNeg)).1)) + (((v201 q cc gc ((v201 q cc gc ((v201 q cc gc h i (((Ar h 170) (78 + m5)).toNatClampNeg)).2) m5 (((Ar h 170) (78 + m5)).toNatClampNeg)).2) m5 (((Ar h 170) (78 + i)).toNatClampNeg)).1) - ((v201 q cc gc ((v201 q cc gc ((v201 q cc gc ((v201 q cc gc h i (((Ar h 170) (78 + m5)).toNatClampNeg)).2) m5 (((Ar h 170) (78 + m5)).toNatClampNeg)).2) m5 (((Ar h 170) (78 + i)).toNatClampNeg)).2) i (((Ar h 170) (78 + i)).toNatClampNeg)).1)))))), some (.int (nI m5)), some (.int (nI i)), some (.int (nI (((Ar h 170) (78 + m5)).toNatClampNeg))), some (.int (nI (((Ar h 170) (78 + i)).toNatClampNeg))), some (.int (((v201 q cc gc h i (((Ar h 170) (78 + m5)).toNatClampNeg)).1) - ((v201 q cc gc ((v201 q cc gc h i (((Ar h 170) (78 + m5)).toNatClampNeg)).2) m5 (((Ar h 170) (78 + m5)).toNatClampNeg)).1))), some (.int (((v201 q cc gc ((v201 q cc gc ((v201 q cc gc h i (((Ar h 170) (78 + m5)).toNatClampNeg)).2) m5 (((Ar h 170) (78 + m5)).toNatClampNeg)).2) m5 (((Ar h 170) (78 + i)).toNatClampNeg)).1) - ((v201 q cc gc ((v201 q cc gc ((v201 q cc gc ((v201 q cc gc h i (((Ar h 170) (78 + m5)).toNatClampNeg)).2) m5 (((Ar h 170) (78 + m5)).toNatClampNeg)).2) m5 (((Ar h 170) (78 + i)).toNatClampNeg)).2) i (((Ar h 170) (78 + i)).toNatClampNeg)).1)))], [], (v201 q cc gc ((v201 q cc gc ((v201 q cc gc ((v201 q cc gc h i (((Ar h 170) (78 + m5)).toNatClampNeg)).2) m5 (((Ar h 170) (78 + m5)).toNatClampNeg)).2) m5 (((Ar h 170) (78 + i)).toNatClampNeg)).2) i (((Ar h 170) (78 + i)).toNatClampNeg)).2, 198, sl) : pm_St) = (162, [some (.ref 162), some (.int (cond (pm_cmp .le (((v201 q cc gc h i (((Ar h 170) (78 + m5)).toNatClampNeg)).1) - ((v201 q cc gc ((v201 q cc gc h i (((Ar h 170) (78 + m5)).toNatClampNeg)).2) m5 (((Ar h 170) (78 + m5)).toNatClampNeg)).1)) 0) x1 (cond (pm_cmp .le (((v201 q cc gc ((v201 q cc gc ((v201 q cc gc h i (((Ar h 170) (78 + m5)).toNatClampNeg)).2) m5 (((Ar h 170) (78 + m5)).toNatClampNeg)).2) m5 (((Ar h 170) (78 + i)).toNatClampNeg)).1) - ((v201 q cc gc ((v201 q cc gc ((v201 q cc gc ((v201 q cc gc h i (((Ar h 170) (78 + m5)).toNatClampNeg)).2) m5 (((Ar h 170) (78 + m5)).toNatClampNeg)).2) m5 (((Ar h 170) (78 + i)).toNatClampNeg)).2) i (((Ar h 170) (78 + i)).toNatClampNeg)).1)) 0) x1 (x1 + Int32.ofInt 1)))), some (.int (cond (pm_cmp .le (((v201 q cc gc h i (((Ar h 170) (78 + m5)).toNatClampNeg)).1) - ((v201 q cc gc ((v201 q cc gc h i (((Ar h 170) (78 + m5)).toNatClampNeg)).2) m5 (((Ar h 170) (78 + m5)).toNatClampNeg)).1)) 0) x2 (cond (pm_cmp .le (((v201 q cc gc ((v201 q cc gc ((v201 q cc gc h i (((Ar h 170) (78 + m5)).toNatClampNeg)).2) m5 (((Ar h 170) (78 + m5)).toNatClampNeg)).2) m5 (((Ar h 170) (78 + i)).toNatClampNeg)).1) - ((v201 q cc gc ((v201 q cc gc ((v201 q cc gc ((v201 q cc gc h i (((Ar h 170) (78 + m5)).toNatClampNeg)).2) m5 (((Ar h 170) (78 + m5)).toNatClampNeg)).2) m5 (((Ar h 170) (78 + i)).toNatClampNeg)).2) i (((Ar h 170) (78 + i)).toNatClampNeg)).1)) 0) x2 (cond (pm_cmp .le ((((v201 q cc gc h i (((Ar h 170) (78 + m5)).toNatClampNeg)).1) - ((v201 q cc gc ((v201 q cc gc h i (((Ar h 170) (78 + m5)).toNatClampNeg)).2) m5 (((Ar h 170) (78 + m5)).toNatClampNeg)).1)) + (((v201 q cc gc ((v201 q cc gc ((v201 q cc gc h i (((Ar h 170) (78 + m5)).toNatClampNeg)).2) m5 (((Ar h 170) (78 + m5)).toNatClampNeg)).2) m5 (((Ar h 170) (78 + i)).toNatClampNeg)).1) - ((v201 q cc gc ((v201 q cc gc ((v201 q cc gc ((v201 q cc gc h i (((Ar h 170) (78 + m5)).toNatClampNeg)).2) m5 (((Ar h 170) (78 + m5)).toNatClampNeg)).2) m5 (((Ar h 170) (78 + i)).toNatClampNeg)).2) i (((Ar h 170) (78 + i)).toNatClampNeg)).1))) x4) x2 (nI m5))))), some (.int (cond (pm_cmp .le (((v201 q cc gc h i (((Ar h 170) (78 + m5)).toNatClampNeg)).1) - ((v201 q cc gc ((v201 q cc gc h i (((Ar h 170) (78 + m5)).toNatClampNeg)).2) m5 (((Ar h 170) (78 + m5)).toNatClampNeg)).1)) 0) x3 (cond (pm_cmp .le (((v201 q cc gc ((v201 q cc gc ((v201 q cc gc h i (((Ar h 170) (78 + m5)).toNatClampNeg)).2) m5 (((Ar h 170) (78 + m5)).toNatClampNeg)).2) m5 (((Ar h 170) (78 + i)).toNatClampNeg)).1) - ((v201 q cc gc ((v201 q cc gc ((v201 q cc gc ((v201 q cc gc h i (((Ar h 170) (78 + m5)).toNatClampNeg)).2) m5 (((Ar h 170) (78 + m5)).toNatClampNeg)).2) m5 (((Ar h 170) (78 + i)).toNatClampNeg)).2) i (((Ar h 170) (78 + i)).toNatClampNeg)).1)) 0) x3 (cond (pm_cmp .le ((((v201 q cc gc h i (((Ar h 170) (78 + m5)).toNatClampNeg)).1) - ((v201 q cc gc ((v201 q cc gc h i (((Ar h 170) (78 + m5)).toNatClampNeg)).2) m5 (((Ar h 170) (78 + m5)).toNatClampNeg)).1)) + (((v201 q cc gc ((v201 q cc gc ((v201 q cc gc h i (((Ar h 170) (78 + m5)).toNatClampNeg)).2) m5 (((Ar h 170) (78 + m5)).toNatClampNeg)).2) m5 (((Ar h 170) (78 + i)).toNatClampNeg)).1) - ((v201 q cc gc ((v201 q cc gc ((v201 q cc gc ((v201 q cc gc h i (((Ar h 170) (78 + m5)).toNatClampNeg)).2) m5 (((Ar h 170) (78 + m5)).toNatClampNeg)).2) m5 (((Ar h 170) (78 + i)).toNatClampNeg)).2) i (((Ar h 170) (78 + i)).toNatClampNeg)).1))) x4) x3 (nI i))))), some (.int (cond (pm_cmp .le (((v201 q cc gc h i (((Ar h 170) (78 + m5)).toNatClampNeg)).1) - ((v201 q cc gc ((v201 q cc gc h i (((Ar h 170) (78 + m5)).toNatClampNeg)).2) m5 (((Ar h 170) (78 + m5)).toNatClampNeg)).1)) 0) x4 (cond (pm_cmp .le (((v201 q cc gc ((v201 q cc gc ((v201 q cc gc h i (((Ar h 170) (78 + m5)).toNatClampNeg)).2) m5 (((Ar h 170) (78 + m5)).toNatClampNeg)).2) m5 (((Ar h 170) (78 + i)).toNatClampNeg)).1) - ((v201 q cc gc ((v201 q cc gc ((v201 q cc gc ((v201 q cc gc h i (((Ar h 170) (78 + m5)).toNatClampNeg)).2) m5 (((Ar h 170) (78 + m5)).toNatClampNeg)).2) m5 (((Ar h 170) (78 + i)).toNatClampNeg)).2) i (((Ar h 170) (78 + i)).toNatClampNeg)).1)) 0) x4 (cond (pm_cmp .le ((((v201 q cc gc h i (((Ar h 170) (78 + m5)).toNatClampNeg)).1) - ((v201 q cc gc ((v201 q cc gc h i (((Ar h 170) (78 + m5)).toNatClampNeg)).2) m5 (((Ar h 170) (78 + m5)).toNatClampNeg)).1)) + (((v201 q cc gc ((v201 q cc gc ((v201 q cc gc h i (((Ar h 170) (78 + m5)).toNatClampNeg)).2) m5 (((Ar h 170) (78 + m5)).toNatClampNeg)).2) m5 (((Ar h 170) (78 + i)).toNatClampNeg)).1) - ((v201 q cc gc ((v201 q cc gc ((v201 q cc gc ((v201 q cc gc h i (((Ar h 170) (78 + m5)).toNatClampNeg)).2) m5 (((Ar h 170) (78 + m5)).toNatClampNeg)).2) m5 (((Ar h 170) (78 + i)).toNatClampNeg)).2) i (((Ar h 170) (78 + i)).toNatClampNeg)).1))) x4) x4 ((((v201 q cc gc h i (((Ar h 170) (78 + m5)).toNatClampNeg)).1) - ((v201 q cc gc ((v201 q cc gc h i (((Ar h 170) (78 + m5)).toNatClampNeg)).2) m5 (((Ar h 170) (78 + m5)).toNatClampNeg)).1)) + (((v201 q cc gc ((v201 q cc gc ((v201 q cc gc h i (((Ar h 170) (78 + m5)).toNatClampNeg)).2) m5 (((Ar h 170) (78 + m5)).toNatClampNeg)).2) m5 (((Ar h 170) (78 + i)).toNatClampNeg)).1) - ((v201 q cc gc ((v201 q cc gc ((v201 q cc gc ((v201 q cc gc h i (((Ar h 170) (78 + m5)).toNatClampNeg)).2) m5 (((Ar h 170) (78 + m5)).toNatClampNeg)).2) m5 (((Ar h 170) (78 + i)).toNatClampNeg)).2) i (((Ar h 170) (78 + i)).toNatClampNeg)).1))))))), some (.int (nI m5)), some (.int (nI i)), some (.int (nI (((Ar h 170) (78 + m5)).toNatClampNeg))), some (.int (nI (((Ar h 170) (78 + i)).toNatClampNeg))), some (.int (((v201 q cc gc h i (((Ar h 170) (78 + m5)).toNatClampNeg)).1) - ((v201 q cc gc ((v201 q cc gc h i (((Ar h 170) (78 + m5)).toNatClampNeg)).2) m5 (((Ar h 170) (78 + m5)).toNatClampNeg)).1))), some (.int (((v201 q cc gc ((v201 q cc gc ((v201 q cc gc h i (((Ar h 170) (78 + m5)).toNatClampNeg)).2) m5 (((Ar h 170) (78 + m5)).toNatClampNeg)).2) m5 (((Ar h 170) (78 + i)).toNatClampNeg)).1) - ((v201 q cc gc ((v201 q cc gc ((v201 q cc gc ((v201 q cc gc h i (((Ar h 170) (78 + m5)).toNatClampNeg)).2) m5 (((Ar h 170) (78 + m5)).toNatClampNeg)).2) m5 (((Ar h 170) (78 + i)).toNatClampNeg)).2) i (((Ar h 170) (78 + i)).toNatClampNeg)).1)))], [], (v201 q cc gc ((v201 q cc gc ((v201 q cc gc ((v201 q cc gc h i (((Ar h 170) (78 + m5)).toNatClampNeg)).2) m5 (((Ar h 170) (78 + m5)).toNatClampNeg)).2) m5 (((Ar h 170) (78 + i)).toNatClampNeg)).2) i (((Ar h 170) (78 + i)).toNatClampNeg)).2, 198, sl) from by cases (pm_cmp .le (((v201 q cc gc h i (((Ar h 170) (78 + m5)).toNatClampNeg)).1) - ((v201 q cc gc ((v201 q cc gc h i (((Ar h 170) (78 + m5)).toNatClampNeg)).2) m5 (((Ar h 170) (78 + m5)).toNatClampNeg)).1)) 0) <;> rfl] at hh
      exact ⟨n, hh⟩)
  obtain ⟨n, hh⟩ := hj24
  rw [show (cond (decide ((((Ar h 170) (78 + m5)).toNatClampNeg) = (((Ar h 170) (78 + i)).toNatClampNeg))) (162, [some (.ref 162), some (.int x1), some (.int x2), some (.int x3), some (.int x4), some (.int (nI m5)), some (.int (nI i)), some (.int (nI (((Ar h 170) (78 + m5)).toNatClampNeg))), some (.int (nI (((Ar h 170) (78 + i)).toNatClampNeg))), some (.int (((v201 q cc gc h i (((Ar h 170) (78 + m5)).toNatClampNeg)).1) - ((v201 q cc gc ((v201 q cc gc h i (((Ar h 170) (78 + m5)).toNatClampNeg)).2) m5 (((Ar h 170) (78 + m5)).toNatClampNeg)).1))), some (.int (((v201 q cc gc ((v201 q cc gc ((v201 q cc gc h i (((Ar h 170) (78 + m5)).toNatClampNeg)).2) m5 (((Ar h 170) (78 + m5)).toNatClampNeg)).2) m5 (((Ar h 170) (78 + i)).toNatClampNeg)).1) - ((v201 q cc gc ((v201 q cc gc ((v201 q cc gc ((v201 q cc gc h i (((Ar h 170) (78 + m5)).toNatClampNeg)).2) m5 (((Ar h 170) (78 + m5)).toNatClampNeg)).2) m5 (((Ar h 170) (78 + i)).toNatClampNeg)).2) i (((Ar h 170) (78 + i)).toNatClampNeg)).1)))], [], (v201 q cc gc ((v201 q cc gc ((v201 q cc gc ((v201 q cc gc h i (((Ar h 170) (78 + m5)).toNatClampNeg)).2) m5 (((Ar h 170) (78 + m5)).toNatClampNeg)).2) m5 (((Ar h 170) (78 + i)).toNatClampNeg)).2) i (((Ar h 170) (78 + i)).toNatClampNeg)).2, 198, sl) (162, [some (.ref 162), some (.int (cond (pm_cmp .le (((v201 q cc gc h i (((Ar h 170) (78 + m5)).toNatClampNeg)).1) - ((v201 q cc gc ((v201 q cc gc h i (((Ar h 170) (78 + m5)).toNatClampNeg)).2) m5 (((Ar h 170) (78 + m5)).toNatClampNeg)).1)) 0) x1 (cond (pm_cmp .le (((v201 q cc gc ((v201 q cc gc ((v201 q cc gc h i (((Ar h 170) (78 + m5)).toNatClampNeg)).2) m5 (((Ar h 170) (78 + m5)).toNatClampNeg)).2) m5 (((Ar h 170) (78 + i)).toNatClampNeg)).1) - ((v201 q cc gc ((v201 q cc gc ((v201 q cc gc ((v201 q cc gc h i (((Ar h 170) (78 + m5)).toNatClampNeg)).2) m5 (((Ar h 170) (78 + m5)).toNatClampNeg)).2) m5 (((Ar h 170) (78 + i)).toNatClampNeg)).2) i (((Ar h 170) (78 + i)).toNatClampNeg)).1)) 0) x1 (x1 + Int32.ofInt 1)))), some (.int (cond (pm_cmp .le (((v201 q cc gc h i (((Ar h 170) (78 + m5)).toNatClampNeg)).1) - ((v201 q cc gc ((v201 q cc gc h i (((Ar h 170) (78 + m5)).toNatClampNeg)).2) m5 (((Ar h 170) (78 + m5)).toNatClampNeg)).1)) 0) x2 (cond (pm_cmp .le (((v201 q cc gc ((v201 q cc gc ((v201 q cc gc h i (((Ar h 170) (78 + m5)).toNatClampNeg)).2) m5 (((Ar h 170) (78 + m5)).toNatClampNeg)).2) m5 (((Ar h 170) (78 + i)).toNatClampNeg)).1) - ((v201 q cc gc ((v201 q cc gc ((v201 q cc gc ((v201 q cc gc h i (((Ar h 170) (78 + m5)).toNatClampNeg)).2) m5 (((Ar h 170) (78 + m5)).toNatClampNeg)).2) m5 (((Ar h 170) (78 + i)).toNatClampNeg)).2) i (((Ar h 170) (78 + i)).toNatClampNeg)).1)) 0) x2 (cond (pm_cmp .le ((((v201 q cc gc h i (((Ar h 170) (78 + m5)).toNatClampNeg)).1) - ((v201 q cc gc ((v201 q cc gc h i (((Ar h 170) (78 + m5)).toNatClampNeg)).2) m5 (((Ar h 170) (78 + m5)).toNatClampNeg)).1)) + (((v201 q cc gc ((v201 q cc gc ((v201 q cc gc h i (((Ar h 170) (78 + m5)).toNatClampNeg)).2) m5 (((Ar h 170) (78 + m5)).toNatClampNeg)).2) m5 (((Ar h 170) (78 + i)).toNatClampNeg)).1) - ((v201 q cc gc ((v201 q cc gc ((v201 q cc gc ((v201 q cc gc h i (((Ar h 170) (78 + m5)).toNatClampNeg)).2) m5 (((Ar h 170) (78 + m5)).toNatClampNeg)).2) m5 (((Ar h 170) (78 + i)).toNatClampNeg)).2) i (((Ar h 170) (78 + i)).toNatClampNeg)).1))) x4) x2 (nI m5))))), some (.int (cond (pm_cmp .le (((v201 q cc gc h i (((Ar h 170) (78 + m5)).toNatClampNeg)).1) - ((v201 q cc gc ((v201 q cc gc h i (((Ar h 170) (78 + m5)).toNatClampNeg)).2) m5 (((Ar h 170) (78 + m5)).toNatClampNeg)).1)) 0) x3 (cond (pm_cmp .le (((v201 q cc gc ((v201 q cc gc ((v201 q cc gc h i (((Ar h 170) (78 + m5)).toNatClampNeg)).2) m5 (((Ar h 170) (78 + m5)).toNatClampNeg)).2) m5 (((Ar h 170) (78 + i)).toNatClampNeg)).1) - ((v201 q cc gc ((v201 q cc gc ((v201 q cc gc ((v201 q cc gc h i (((Ar h 170) (78 + m5)).toNatClampNeg)).2) m5 (((Ar h 170) (78 + m5)).toNatClampNeg)).2) m5 (((Ar h 170) (78 + i)).toNatClampNeg)).2) i (((Ar h 170) (78 + i)).toNatClampNeg)).1)) 0) x3 (cond (pm_cmp .le ((((v201 q cc gc h i (((Ar h 170) (78 + m5)).toNatClampNeg)).1) - ((v201 q cc gc ((v201 q cc gc h i (((Ar h 170) (78 + m5)).toNatClampNeg)).2) m5 (((Ar h 170) (78 + m5)).toNatClampNeg)).1)) + (((v201 q cc gc ((v201 q cc gc ((v201 q cc gc h i (((Ar h 170) (78 + m5)).toNatClampNeg)).2) m5 (((Ar h 170) (78 + m5)).toNatClampNeg)).2) m5 (((Ar h 170) (78 + i)).toNatClampNeg)).1) - ((v201 q cc gc ((v201 q cc gc ((v201 q cc gc ((v201 q cc gc h i (((Ar h 170) (78 + m5)).toNatClampNeg)).2) m5 (((Ar h 170) (78 + m5)).toNatClampNeg)).2) m5 (((Ar h 170) (78 + i)).toNatClampNeg)).2) i (((Ar h 170) (78 + i)).toNatClampNeg)).1))) x4) x3 (nI i))))), some (.int (cond (pm_cmp .le (((v201 q cc gc h i (((Ar h 170) (78 + m5)).toNatClampNeg)).1) - ((v201 q cc gc ((v201 q cc gc h i (((Ar h 170) (78 + m5)).toNatClampNeg)).2) m5 (((Ar h 170) (78 + m5)).toNatClampNeg)).1)) 0) x4 (cond (pm_cmp .le (((v201 q cc gc ((v201 q cc gc ((v201 q cc gc h i (((Ar h 170) (78 + m5)).toNatClampNeg)).2) m5 (((Ar h 170) (78 + m5)).toNatClampNeg)).2) m5 (((Ar h 170) (78 + i)).toNatClampNeg)).1) - ((v201 q cc gc ((v201 q cc gc ((v201 q cc gc ((v201 q cc gc h i (((Ar h 170) (78 + m5)).toNatClampNeg)).2) m5 (((Ar h 170) (78 + m5)).toNatClampNeg)).2) m5 (((Ar h 170) (78 + i)).toNatClampNeg)).2) i (((Ar h 170) (78 + i)).toNatClampNeg)).1)) 0) x4 (cond (pm_cmp .le ((((v201 q cc gc h i (((Ar h 170) (78 + m5)).toNatClampNeg)).1) - ((v201 q cc gc ((v201 q cc gc h i (((Ar h 170) (78 + m5)).toNatClampNeg)).2) m5 (((Ar h 170) (78 + m5)).toNatClampNeg)).1)) + (((v201 q cc gc ((v201 q cc gc ((v201 q cc gc h i (((Ar h 170) (78 + m5)).toNatClampNeg)).2) m5 (((Ar h 170) (78 + m5)).toNatClampNeg)).2) m5 (((Ar h 170) (78 + i)).toNatClampNeg)).1) - ((v201 q cc gc ((v201 q cc gc ((v201 q cc gc ((v201 q cc gc h i (((Ar h 170) (78 + m5)).toNatClampNeg)).2) m5 (((Ar h 170) (78 + m5)).toNatClampNeg)).2) m5 (((Ar h 170) (78 + i)).toNatClampNeg)).2) i (((Ar h 170) (78 + i)).toNatClampNeg)).1))) x4) x4 ((((v201 q cc gc h i (((Ar h 170) (78 + m5)).toNatClampNeg)).1) - ((v201 q cc gc ((v201 q cc gc h i (((Ar h 170) (78 + m5)).toNatClampNeg)).2) m5 (((Ar h 170) (78 + m5)).toNatClampNeg)).1)) + (((v201 q cc gc ((v201 q cc gc ((v201 q cc gc h i (((Ar h 170) (78 + m5)).toNatClampNeg)).2) m5 (((Ar h 170) (78 + m5)).toNatClampNeg)).2) m5 (((Ar h 170) (78 + i)).toNatClampNeg)).1) - ((v201 q cc gc ((v201 q cc gc ((v201 q cc gc ((v201 q cc gc h i (((Ar h 170) (78 + m5)).toNatClampNeg)).2) m5 (((Ar h 170) (78 + m5)).toNatClampNeg)).2) m5 (((Ar h 170) (78 + i)).toNatClampNeg)).2) i (((Ar h 170) (78 + i)).toNatClampNeg)).1))))))), some (.int (nI m5)), some (.int (nI i)), some (.int (nI (((Ar h 170) (78 + m5)).toNatClampNeg))), some (.int (nI (((Ar h 170) (78 + i)).toNatClampNeg))), some (.int (((v201 q cc gc h i (((Ar h 170) (78 + m5)).toNatClampNeg)).1) - ((v201 q cc gc ((v201 q cc gc h i (((Ar h 170) (78 + m5)).toNatClampNeg)).2) m5 (((Ar h 170) (78 + m5)).toNatClampNeg)).1))), some (.int (((v201 q cc gc ((v201 q cc gc ((v201 q cc gc h i (((Ar h 170) (78 + m5)).toNatClampNeg)).2) m5 (((Ar h 170) (78 + m5)).toNatClampNeg)).2) m5 (((Ar h 170) (78 + i)).toNatClampNeg)).1) - ((v201 q cc gc ((v201 q cc gc ((v201 q cc gc ((v201 q cc gc h i (((Ar h 170) (78 + m5)).toNatClampNeg)).2) m5 (((Ar h 170) (78 + m5)).toNatClampNeg)).2) m5 (((Ar h 170) (78 + i)).toNatClampNeg)).2) i (((Ar h 170) (78 + i)).toNatClampNeg)).1)))], [], (v201 q cc gc ((v201 q cc gc ((v201 q cc gc ((v201 q cc gc h i (((Ar h 170) (78 + m5)).toNatClampNeg)).2) m5 (((Ar h 170) (78 + m5)).toNatClampNeg)).2) m5 (((Ar h 170) (78 + i)).toNatClampNeg)).2) i (((Ar h 170) (78 + i)).toNatClampNeg)).2, 198, sl) : pm_St) = (162, [some (.ref 162), some (.int (cond (decide ((((Ar h 170) (78 + m5)).toNatClampNeg) = (((Ar h 170) (78 + i)).toNatClampNeg))) x1 (cond (pm_cmp .le (((v201 q cc gc h i (((Ar h 170) (78 + m5)).toNatClampNeg)).1) - ((v201 q cc gc ((v201 q cc gc h i (((Ar h 170) (78 + m5)).toNatClampNeg)).2) m5 (((Ar h 170) (78 + m5)).toNatClampNeg)).1)) 0) x1 (cond (pm_cmp .le (((v201 q cc gc ((v201 q cc gc ((v201 q cc gc h i (((Ar h 170) (78 + m5)).toNatClampNeg)).2) m5 (((Ar h 170) (78 + m5)).toNatClampNeg)).2) m5 (((Ar h 170) (78 + i)).toNatClampNeg)).1) - ((v201 q cc gc ((v201 q cc gc ((v201 q cc gc ((v201 q cc gc h i (((Ar h 170) (78 + m5)).toNatClampNeg)).2) m5 (((Ar h 170) (78 + m5)).toNatClampNeg)).2) m5 (((Ar h 170) (78 + i)).toNatClampNeg)).2) i (((Ar h 170) (78 + i)).toNatClampNeg)).1)) 0) x1 (x1 + Int32.ofInt 1))))), some (.int (cond (decide ((((Ar h 170) (78 + m5)).toNatClampNeg) = (((Ar h 170) (78 + i)).toNatClampNeg))) x2 (cond (pm_cmp .le (((v201 q cc gc h i (((Ar h 170) (78 + m5)).toNatClampNeg)).1) - ((v201 q cc gc ((v201 q cc gc h i (((Ar h 170) (78 + m5)).toNatClampNeg)).2) m5 (((Ar h 170) (78 + m5)).toNatClampNeg)).1)) 0) x2 (cond (pm_cmp .le (((v201 q cc gc ((v201 q cc gc ((v201 q cc gc h i (((Ar h 170) (78 + m5)).toNatClampNeg)).2) m5 (((Ar h 170) (78 + m5)).toNatClampNeg)).2) m5 (((Ar h 170) (78 + i)).toNatClampNeg)).1) - ((v201 q cc gc ((v201 q cc gc ((v201 q cc gc ((v201 q cc gc h i (((Ar h 170) (78 + m5)).toNatClampNeg)).2) m5 (((Ar h 170) (78 + m5)).toNatClampNeg)).2) m5 (((Ar h 170) (78 + i)).toNatClampNeg)).2) i (((Ar h 170) (78 + i)).toNatClampNeg)).1)) 0) x2 (cond (pm_cmp .le ((((v201 q cc gc h i (((Ar h 170) (78 + m5)).toNatClampNeg)).1) - ((v201 q cc gc ((v201 q cc gc h i (((Ar h 170) (78 + m5)).toNatClampNeg)).2) m5 (((Ar h 170) (78 + m5)).toNatClampNeg)).1)) + (((v201 q cc gc ((v201 q cc gc ((v201 q cc gc h i (((Ar h 170) (78 + m5)).toNatClampNeg)).2) m5 (((Ar h 170) (78 + m5)).toNatClampNeg)).2) m5 (((Ar h 170) (78 + i)).toNatClampNeg)).1) - ((v201 q cc gc ((v201 q cc gc ((v201 q cc gc ((v201 q cc gc h i (((Ar h 170) (78 + m5)).toNatClampNeg)).2) m5 (((Ar h 170) (78 + m5)).toNatClampNeg)).2) m5 (((Ar h 170) (78 + i)).toNatClampNeg)).2) i (((Ar h 170) (78 + i)).toNatClampNeg)).1))) x4) x2 (nI m5)))))), some (.int (cond (decide ((((Ar h 170) (78 + m5)).toNatClampNeg) = (((Ar h 170) (78 + i)).toNatClampNeg))) x3 (cond (pm_cmp .le (((v201 q cc gc h i (((Ar h 170) (78 + m5)).toNatClampNeg)).1) - ((v201 q cc gc ((v201 q cc gc h i (((Ar h 170) (78 + m5)).toNatClampNeg)).2) m5 (((Ar h 170) (78 + m5)).toNatClampNeg)).1)) 0) x3 (cond (pm_cmp .le (((v201 q cc gc ((v201 q cc gc ((v201 q cc gc h i (((Ar h 170) (78 + m5)).toNatClampNeg)).2) m5 (((Ar h 170) (78 + m5)).toNatClampNeg)).2) m5 (((Ar h 170) (78 + i)).toNatClampNeg)).1) - ((v201 q cc gc ((v201 q cc gc ((v201 q cc gc ((v201 q cc gc h i (((Ar h 170) (78 + m5)).toNatClampNeg)).2) m5 (((Ar h 170) (78 + m5)).toNatClampNeg)).2) m5 (((Ar h 170) (78 + i)).toNatClampNeg)).2) i (((Ar h 170) (78 + i)).toNatClampNeg)).1)) 0) x3 (cond (pm_cmp .le ((((v201 q cc gc h i (((Ar h 170) (78 + m5)).toNatClampNeg)).1) - ((v201 q cc gc ((v201 q cc gc h i (((Ar h 170) (78 + m5)).toNatClampNeg)).2) m5 (((Ar h 170) (78 + m5)).toNatClampNeg)).1)) + (((v201 q cc gc ((v201 q cc gc ((v201 q cc gc h i (((Ar h 170) (78 + m5)).toNatClampNeg)).2) m5 (((Ar h 170) (78 + m5)).toNatClampNeg)).2) m5 (((Ar h 170) (78 + i)).toNatClampNeg)).1) - ((v201 q cc gc ((v201 q cc gc ((v201 q cc gc ((v201 q cc gc h i (((Ar h 170) (78 + m5)).toNatClampNeg)).2) m5 (((Ar h 170) (78 + m5)).toNatClampNeg)).2) m5 (((Ar h 170) (78 + i)).toNatClampNeg)).2) i (((Ar h 170) (78 + i)).toNatClampNeg)).1))) x4) x3 (nI i)))))), some (.int (cond (decide ((((Ar h 170) (78 + m5)).toNatClampNeg) = (((Ar h 170) (78 + i)).toNatClampNeg))) x4 (cond (pm_cmp .le (((v201 q cc gc h i (((Ar h 170) (78 + m5)).toNatClampNeg)).1) - ((v201 q cc gc ((v201 q cc gc h i (((Ar h 170) (78 + m5)).toNatClampNeg)).2) m5 (((Ar h 170) (78 + m5)).toNatClampNeg)).1)) 0) x4 (cond (pm_cmp .le (((v201 q cc gc ((v201 q cc gc ((v201 q cc gc h i (((Ar h 170) (78 + m5)).toNatClampNeg)).2) m5 (((Ar h 170) (78 + m5)).toNatClampNeg)).2) m5 (((Ar h 170) (78 + i)).toNatClampNeg)).1) - ((v201 q cc gc ((v201 q cc gc ((v201 q cc gc ((v201 q cc gc h i (((Ar h 170) (78 + m5)).toNatClampNeg)).2) m5 (((Ar h 170) (78 + m5)).toNatClampNeg)).2) m5 (((Ar h 170) (78 + i)).toNatClampNeg)).2) i (((Ar h 170) (78 + i)).toNatClampNeg)).1)) 0) x4 (cond (pm_cmp .le ((((v201 q cc gc h i (((Ar h 170) (78 + m5)).toNatClampNeg)).1) - ((v201 q cc gc ((v201 q cc gc h i (((Ar h 170) (78 + m5)).toNatClampNeg)).2) m5 (((Ar h 170) (78 + m5)).toNatClampNeg)).1)) + (((v201 q cc gc ((v201 q cc gc ((v201 q cc gc h i (((Ar h 170) (78 + m5)).toNatClampNeg)).2) m5 (((Ar h 170) (78 + m5)).toNatClampNeg)).2) m5 (((Ar h 170) (78 + i)).toNatClampNeg)).1) - ((v201 q cc gc ((v201 q cc gc ((v201 q cc gc ((v201 q cc gc h i (((Ar h 170) (78 + m5)).toNatClampNeg)).2) m5 (((Ar h 170) (78 + m5)).toNatClampNeg)).2) m5 (((Ar h 170) (78 + i)).toNatClampNeg)).2) i (((Ar h 170) (78 + i)).toNatClampNeg)).1))) x4) x4 ((((v201 q cc gc h i (((Ar h 170) (78 + m5)).toNatClampNeg)).1) - ((v201 q cc gc ((v201 q cc gc h i (((Ar h 170) (78 + m5)).toNatClampNeg)).2) m5 (((Ar h 170) (78 + m5)).toNatClampNeg)).1)) + (((v201 q cc gc ((v201 q cc gc ((v201 q cc gc h i (((Ar h 170) (78 + m5)).toNatClampNeg)).2) m5 (((Ar h 170) (78 + m5)).toNatClampNeg)).2) m5 (((Ar h 170) (78 + i)).toNatClampNeg)).1) - ((v201 q cc gc ((v201 q cc gc ((v201 q cc gc ((v201 q cc gc h i (((Ar h 170) (78 + m5)).toNatClampNeg)).2) m5 (((Ar h 170) (78 + m5)).toNatClampNeg)).2) m5 (((Ar h 170) (78 + i)).toNatClampNeg)).2) i (((Ar h 170) (78 + i)).toNatClampNeg)).1)))))))), some (.int (nI m5)), some (.int (nI i)), some (.int (nI (((Ar h 170) (78 + m5)).toNatClampNeg))), some (.int (nI (((Ar h 170) (78 + i)).toNatClampNeg))), some (.int (((v201 q cc gc h i (((Ar h 170) (78 + m5)).toNatClampNeg)).1) - ((v201 q cc gc ((v201 q cc gc h i (((Ar h 170) (78 + m5)).toNatClampNeg)).2) m5 (((Ar h 170) (78 + m5)).toNatClampNeg)).1))), some (.int (((v201 q cc gc ((v201 q cc gc ((v201 q cc gc h i (((Ar h 170) (78 + m5)).toNatClampNeg)).2) m5 (((Ar h 170) (78 + m5)).toNatClampNeg)).2) m5 (((Ar h 170) (78 + i)).toNatClampNeg)).1) - ((v201 q cc gc ((v201 q cc gc ((v201 q cc gc ((v201 q cc gc h i (((Ar h 170) (78 + m5)).toNatClampNeg)).2) m5 (((Ar h 170) (78 + m5)).toNatClampNeg)).2) m5 (((Ar h 170) (78 + i)).toNatClampNeg)).2) i (((Ar h 170) (78 + i)).toNatClampNeg)).1)))], [], (v201 q cc gc ((v201 q cc gc ((v201 q cc gc ((v201 q cc gc h i (((Ar h 170) (78 + m5)).toNatClampNeg)).2) m5 (((Ar h 170) (78 + m5)).toNatClampNeg)).2) m5 (((Ar h 170) (78 + i)).toNatClampNeg)).2) i (((Ar h 170) (78 + i)).toNatClampNeg)).2, 198, sl) from by cases (decide ((((Ar h 170) (78 + m5)).toNatClampNeg) = (((Ar h 170) (78 + i)).toNatClampNeg))) <;> rfl] at hh
  have hh : pm_run PT n fr lo 236 (162, [some (.ref 162), some (.int (cond (decide ((((Ar h 170) (78 + m5)).toNatClampNeg) = (((Ar h 170) (78 + i)).toNatClampNeg))) x1 (cond (pm_cmp .le (((v201 q cc gc h i (((Ar h 170) (78 + m5)).toNatClampNeg)).1) - ((v201 q cc gc ((v201 q cc gc h i (((Ar h 170) (78 + m5)).toNatClampNeg)).2) m5 (((Ar h 170) (78 + m5)).toNatClampNeg)).1)) 0) x1 (cond (pm_cmp .le (((v201 q cc gc ((v201 q cc gc ((v201 q cc gc h i (((Ar h 170) (78 + m5)).toNatClampNeg)).2) m5 (((Ar h 170) (78 + m5)).toNatClampNeg)).2) m5 (((Ar h 170) (78 + i)).toNatClampNeg)).1) - ((v201 q cc gc ((v201 q cc gc ((v201 q cc gc ((v201 q cc gc h i (((Ar h 170) (78 + m5)).toNatClampNeg)).2) m5 (((Ar h 170) (78 + m5)).toNatClampNeg)).2) m5 (((Ar h 170) (78 + i)).toNatClampNeg)).2) i (((Ar h 170) (78 + i)).toNatClampNeg)).1)) 0) x1 (x1 + Int32.ofInt 1))))), some (.int (cond (decide ((((Ar h 170) (78 + m5)).toNatClampNeg) = (((Ar h 170) (78 + i)).toNatClampNeg))) x2 (cond (pm_cmp .le (((v201 q cc gc h i (((Ar h 170) (78 + m5)).toNatClampNeg)).1) - ((v201 q cc gc ((v201 q cc gc h i (((Ar h 170) (78 + m5)).toNatClampNeg)).2) m5 (((Ar h 170) (78 + m5)).toNatClampNeg)).1)) 0) x2 (cond (pm_cmp .le (((v201 q cc gc ((v201 q cc gc ((v201 q cc gc h i (((Ar h 170) (78 + m5)).toNatClampNeg)).2) m5 (((Ar h 170) (78 + m5)).toNatClampNeg)).2) m5 (((Ar h 170) (78 + i)).toNatClampNeg)).1) - ((v201 q cc gc ((v201 q cc gc ((v201 q cc gc ((v201 q cc gc h i (((Ar h 170) (78 + m5)).toNatClampNeg)).2) m5 (((Ar h 170) (78 + m5)).toNatClampNeg)).2) m5 (((Ar h 170) (78 + i)).toNatClampNeg)).2) i (((Ar h 170) (78 + i)).toNatClampNeg)).1)) 0) x2 (cond (pm_cmp .le ((((v201 q cc gc h i (((Ar h 170) (78 + m5)).toNatClampNeg)).1) - ((v201 q cc gc ((v201 q cc gc h i (((Ar h 170) (78 + m5)).toNatClampNeg)).2) m5 (((Ar h 170) (78 + m5)).toNatClampNeg)).1)) + (((v201 q cc gc ((v201 q cc gc ((v201 q cc gc h i (((Ar h 170) (78 + m5)).toNatClampNeg)).2) m5 (((Ar h 170) (78 + m5)).toNatClampNeg)).2) m5 (((Ar h 170) (78 + i)).toNatClampNeg)).1) - ((v201 q cc gc ((v201 q cc gc ((v201 q cc gc ((v201 q cc gc h i (((Ar h 170) (78 + m5)).toNatClampNeg)).2) m5 (((Ar h 170) (78 + m5)).toNatClampNeg)).2) m5 (((Ar h 170) (78 + i)).toNatClampNeg)).2) i (((Ar h 170) (78 + i)).toNatClampNeg)).1))) x4) x2 (nI m5)))))), some (.int (cond (decide ((((Ar h 170) (78 + m5)).toNatClampNeg) = (((Ar h 170) (78 + i)).toNatClampNeg))) x3 (cond (pm_cmp .le (((v201 q cc gc h i (((Ar h 170) (78 + m5)).toNatClampNeg)).1) - ((v201 q cc gc ((v201 q cc gc h i (((Ar h 170) (78 + m5)).toNatClampNeg)).2) m5 (((Ar h 170) (78 + m5)).toNatClampNeg)).1)) 0) x3 (cond (pm_cmp .le (((v201 q cc gc ((v201 q cc gc ((v201 q cc gc h i (((Ar h 170) (78 + m5)).toNatClampNeg)).2) m5 (((Ar h 170) (78 + m5)).toNatClampNeg)).2) m5 (((Ar h 170) (78 + i)).toNatClampNeg)).1) - ((v201 q cc gc ((v201 q cc gc ((v201 q cc gc ((v201 q cc gc h i (((Ar h 170) (78 + m5)).toNatClampNeg)).2) m5 (((Ar h 170) (78 + m5)).toNatClampNeg)).2) m5 (((Ar h 170) (78 + i)).toNatClampNeg)).2) i (((Ar h 170) (78 + i)).toNatClampNeg)).1)) 0) x3 (cond (pm_cmp .le ((((v201 q cc gc h i (((Ar h 170) (78 + m5)).toNatClampNeg)).1) - ((v201 q cc gc ((v201 q cc gc h i (((Ar h 170) (78 + m5)).toNatClampNeg)).2) m5 (((Ar h 170) (78 + m5)).toNatClampNeg)).1)) + (((v201 q cc gc ((v201 q cc gc ((v201 q cc gc h i (((Ar h 170) (78 + m5)).toNatClampNeg)).2) m5 (((Ar h 170) (78 + m5)).toNatClampNeg)).2) m5 (((Ar h 170) (78 + i)).toNatClampNeg)).1) - ((v201 q cc gc ((v201 q cc gc ((v201 q cc gc ((v201 q cc gc h i (((Ar h 170) (78 + m5)).toNatClampNeg)).2) m5 (((Ar h 170) (78 + m5)).toNatClampNeg)).2) m5 (((Ar h 170) (78 + i)).toNatClampNeg)).2) i (((Ar h 170) (78 + i)).toNatClampNeg)).1))) x4) x3 (nI i)))))), some (.int (cond (decide ((((Ar h 170) (78 + m5)).toNatClampNeg) = (((Ar h 170) (78 + i)).toNatClampNeg))) x4 (cond (pm_cmp .le (((v201 q cc gc h i (((Ar h 170) (78 + m5)).toNatClampNeg)).1) - ((v201 q cc gc ((v201 q cc gc h i (((Ar h 170) (78 + m5)).toNatClampNeg)).2) m5 (((Ar h 170) (78 + m5)).toNatClampNeg)).1)) 0) x4 (cond (pm_cmp .le (((v201 q cc gc ((v201 q cc gc ((v201 q cc gc h i (((Ar h 170) (78 + m5)).toNatClampNeg)).2) m5 (((Ar h 170) (78 + m5)).toNatClampNeg)).2) m5 (((Ar h 170) (78 + i)).toNatClampNeg)).1) - ((v201 q cc gc ((v201 q cc gc ((v201 q cc gc ((v201 q cc gc h i (((Ar h 170) (78 + m5)).toNatClampNeg)).2) m5 (((Ar h 170) (78 + m5)).toNatClampNeg)).2) m5 (((Ar h 170) (78 + i)).toNatClampNeg)).2) i (((Ar h 170) (78 + i)).toNatClampNeg)).1)) 0) x4 (cond (pm_cmp .le ((((v201 q cc gc h i (((Ar h 170) (78 + m5)).toNatClampNeg)).1) - ((v201 q cc gc ((v201 q cc gc h i (((Ar h 170) (78 + m5)).toNatClampNeg)).2) m5 (((Ar h 170) (78 + m5)).toNatClampNeg)).1)) + (((v201 q cc gc ((v201 q cc gc ((v201 q cc gc h i (((Ar h 170) (78 + m5)).toNatClampNeg)).2) m5 (((Ar h 170) (78 + m5)).toNatClampNeg)).2) m5 (((Ar h 170) (78 + i)).toNatClampNeg)).1) - ((v201 q cc gc ((v201 q cc gc ((v201 q cc gc ((v201 q cc gc h i (((Ar h 170) (78 + m5)).toNatClampNeg)).2) m5 (((Ar h 170) (78 + m5)).toNatClampNeg)).2) m5 (((Ar h 170) (78 + i)).toNatClampNeg)).2) i (((Ar h 170) (78 + i)).toNatClampNeg)).1))) x4) x4 ((((v201 q cc gc h i (((Ar h 170) (78 + m5)).toNatClampNeg)).1) - ((v201 q cc gc ((v201 q cc gc h i (((Ar h 170) (78 + m5)).toNatClampNeg)).2) m5 (((Ar h 170) (78 + m5)).toNatClampNeg)).1)) + (((v201 q cc gc ((v201 q cc gc ((v201 q cc gc h i (((Ar h 170) (78 + m5)).toNatClampNeg)).2) m5 (((Ar h 170) (78 + m5)).toNatClampNeg)).2) m5 (((Ar h 170) (78 + i)).toNatClampNeg)).1) - ((v201 q cc gc ((v201 q cc gc ((v201 q cc gc ((v201 q cc gc h i (((Ar h 170) (78 + m5)).toNatClampNeg)).2) m5 (((Ar h 170) (78 + m5)).toNatClampNeg)).2) m5 (((Ar h 170) (78 + i)).toNatClampNeg)).2) i (((Ar h 170) (78 + i)).toNatClampNeg)).1)))))))), some (.int (nI m5)), some (.int (nI i)), some (.int (nI (((Ar h 170) (78 + m5)).toNatClampNeg))), some (.int (nI (((Ar h 170) (78 + i)).toNatClampNeg))), some (.int (((v201 q cc gc h i (((Ar h 170) (78 + m5)).toNatClampNeg)).1) - ((v201 q cc gc ((v201 q cc gc h i (((Ar h 170) (78 + m5)).toNatClampNeg)).2) m5 (((Ar h 170) (78 + m5)).toNatClampNeg)).1))), some (.int (((v201 q cc gc ((v201 q cc gc ((v201 q cc gc h i (((Ar h 170) (78 + m5)).toNatClampNeg)).2) m5 (((Ar h 170) (78 + m5)).toNatClampNeg)).2) m5 (((Ar h 170) (78 + i)).toNatClampNeg)).1) - ((v201 q cc gc ((v201 q cc gc ((v201 q cc gc ((v201 q cc gc h i (((Ar h 170) (78 + m5)).toNatClampNeg)).2) m5 (((Ar h 170) (78 + m5)).toNatClampNeg)).2) m5 (((Ar h 170) (78 + i)).toNatClampNeg)).2) i (((Ar h 170) (78 + i)).toNatClampNeg)).1)))], [], (v201 q cc gc ((v201 q cc gc ((v201 q cc gc ((v201 q cc gc h i (((Ar h 170) (78 + m5)).toNatClampNeg)).2) m5 (((Ar h 170) (78 + m5)).toNatClampNeg)).2) m5 (((Ar h 170) (78 + i)).toNatClampNeg)).2) i (((Ar h 170) (78 + i)).toNatClampNeg)).2, 198, sl) = some R := hh
  obtain ⟨n, hh⟩ := en_inc (x := i) (c := 1) (j := 6) rfl rfl (by decide) hh
  have hh : pm_run PT n fr lo 236 (165, [some (.ref 162), some (.int (cond (decide ((((Ar h 170) (78 + m5)).toNatClampNeg) = (((Ar h 170) (78 + i)).toNatClampNeg))) x1 (cond (pm_cmp .le (((v201 q cc gc h i (((Ar h 170) (78 + m5)).toNatClampNeg)).1) - ((v201 q cc gc ((v201 q cc gc h i (((Ar h 170) (78 + m5)).toNatClampNeg)).2) m5 (((Ar h 170) (78 + m5)).toNatClampNeg)).1)) 0) x1 (cond (pm_cmp .le (((v201 q cc gc ((v201 q cc gc ((v201 q cc gc h i (((Ar h 170) (78 + m5)).toNatClampNeg)).2) m5 (((Ar h 170) (78 + m5)).toNatClampNeg)).2) m5 (((Ar h 170) (78 + i)).toNatClampNeg)).1) - ((v201 q cc gc ((v201 q cc gc ((v201 q cc gc ((v201 q cc gc h i (((Ar h 170) (78 + m5)).toNatClampNeg)).2) m5 (((Ar h 170) (78 + m5)).toNatClampNeg)).2) m5 (((Ar h 170) (78 + i)).toNatClampNeg)).2) i (((Ar h 170) (78 + i)).toNatClampNeg)).1)) 0) x1 (x1 + Int32.ofInt 1))))), some (.int (cond (decide ((((Ar h 170) (78 + m5)).toNatClampNeg) = (((Ar h 170) (78 + i)).toNatClampNeg))) x2 (cond (pm_cmp .le (((v201 q cc gc h i (((Ar h 170) (78 + m5)).toNatClampNeg)).1) - ((v201 q cc gc ((v201 q cc gc h i (((Ar h 170) (78 + m5)).toNatClampNeg)).2) m5 (((Ar h 170) (78 + m5)).toNatClampNeg)).1)) 0) x2 (cond (pm_cmp .le (((v201 q cc gc ((v201 q cc gc ((v201 q cc gc h i (((Ar h 170) (78 + m5)).toNatClampNeg)).2) m5 (((Ar h 170) (78 + m5)).toNatClampNeg)).2) m5 (((Ar h 170) (78 + i)).toNatClampNeg)).1) - ((v201 q cc gc ((v201 q cc gc ((v201 q cc gc ((v201 q cc gc h i (((Ar h 170) (78 + m5)).toNatClampNeg)).2) m5 (((Ar h 170) (78 + m5)).toNatClampNeg)).2) m5 (((Ar h 170) (78 + i)).toNatClampNeg)).2) i (((Ar h 170) (78 + i)).toNatClampNeg)).1)) 0) x2 (cond (pm_cmp .le ((((v201 q cc gc h i (((Ar h 170) (78 + m5)).toNatClampNeg)).1) - ((v201 q cc gc ((v201 q cc gc h i (((Ar h 170) (78 + m5)).toNatClampNeg)).2) m5 (((Ar h 170) (78 + m5)).toNatClampNeg)).1)) + (((v201 q cc gc ((v201 q cc gc ((v201 q cc gc h i (((Ar h 170) (78 + m5)).toNatClampNeg)).2) m5 (((Ar h 170) (78 + m5)).toNatClampNeg)).2) m5 (((Ar h 170) (78 + i)).toNatClampNeg)).1) - ((v201 q cc gc ((v201 q cc gc ((v201 q cc gc ((v201 q cc gc h i (((Ar h 170) (78 + m5)).toNatClampNeg)).2) m5 (((Ar h 170) (78 + m5)).toNatClampNeg)).2) m5 (((Ar h 170) (78 + i)).toNatClampNeg)).2) i (((Ar h 170) (78 + i)).toNatClampNeg)).1))) x4) x2 (nI m5)))))), some (.int (cond (decide ((((Ar h 170) (78 + m5)).toNatClampNeg) = (((Ar h 170) (78 + i)).toNatClampNeg))) x3 (cond (pm_cmp .le (((v201 q cc gc h i (((Ar h 170) (78 + m5)).toNatClampNeg)).1) - ((v201 q cc gc ((v201 q cc gc h i (((Ar h 170) (78 + m5)).toNatClampNeg)).2) m5 (((Ar h 170) (78 + m5)).toNatClampNeg)).1)) 0) x3 (cond (pm_cmp .le (((v201 q cc gc ((v201 q cc gc ((v201 q cc gc h i (((Ar h 170) (78 + m5)).toNatClampNeg)).2) m5 (((Ar h 170) (78 + m5)).toNatClampNeg)).2) m5 (((Ar h 170) (78 + i)).toNatClampNeg)).1) - ((v201 q cc gc ((v201 q cc gc ((v201 q cc gc ((v201 q cc gc h i (((Ar h 170) (78 + m5)).toNatClampNeg)).2) m5 (((Ar h 170) (78 + m5)).toNatClampNeg)).2) m5 (((Ar h 170) (78 + i)).toNatClampNeg)).2) i (((Ar h 170) (78 + i)).toNatClampNeg)).1)) 0) x3 (cond (pm_cmp .le ((((v201 q cc gc h i (((Ar h 170) (78 + m5)).toNatClampNeg)).1) - ((v201 q cc gc ((v201 q cc gc h i (((Ar h 170) (78 + m5)).toNatClampNeg)).2) m5 (((Ar h 170) (78 + m5)).toNatClampNeg)).1)) + (((v201 q cc gc ((v201 q cc gc ((v201 q cc gc h i (((Ar h 170) (78 + m5)).toNatClampNeg)).2) m5 (((Ar h 170) (78 + m5)).toNatClampNeg)).2) m5 (((Ar h 170) (78 + i)).toNatClampNeg)).1) - ((v201 q cc gc ((v201 q cc gc ((v201 q cc gc ((v201 q cc gc h i (((Ar h 170) (78 + m5)).toNatClampNeg)).2) m5 (((Ar h 170) (78 + m5)).toNatClampNeg)).2) m5 (((Ar h 170) (78 + i)).toNatClampNeg)).2) i (((Ar h 170) (78 + i)).toNatClampNeg)).1))) x4) x3 (nI i)))))), some (.int (cond (decide ((((Ar h 170) (78 + m5)).toNatClampNeg) = (((Ar h 170) (78 + i)).toNatClampNeg))) x4 (cond (pm_cmp .le (((v201 q cc gc h i (((Ar h 170) (78 + m5)).toNatClampNeg)).1) - ((v201 q cc gc ((v201 q cc gc h i (((Ar h 170) (78 + m5)).toNatClampNeg)).2) m5 (((Ar h 170) (78 + m5)).toNatClampNeg)).1)) 0) x4 (cond (pm_cmp .le (((v201 q cc gc ((v201 q cc gc ((v201 q cc gc h i (((Ar h 170) (78 + m5)).toNatClampNeg)).2) m5 (((Ar h 170) (78 + m5)).toNatClampNeg)).2) m5 (((Ar h 170) (78 + i)).toNatClampNeg)).1) - ((v201 q cc gc ((v201 q cc gc ((v201 q cc gc ((v201 q cc gc h i (((Ar h 170) (78 + m5)).toNatClampNeg)).2) m5 (((Ar h 170) (78 + m5)).toNatClampNeg)).2) m5 (((Ar h 170) (78 + i)).toNatClampNeg)).2) i (((Ar h 170) (78 + i)).toNatClampNeg)).1)) 0) x4 (cond (pm_cmp .le ((((v201 q cc gc h i (((Ar h 170) (78 + m5)).toNatClampNeg)).1) - ((v201 q cc gc ((v201 q cc gc h i (((Ar h 170) (78 + m5)).toNatClampNeg)).2) m5 (((Ar h 170) (78 + m5)).toNatClampNeg)).1)) + (((v201 q cc gc ((v201 q cc gc ((v201 q cc gc h i (((Ar h 170) (78 + m5)).toNatClampNeg)).2) m5 (((Ar h 170) (78 + m5)).toNatClampNeg)).2) m5 (((Ar h 170) (78 + i)).toNatClampNeg)).1) - ((v201 q cc gc ((v201 q cc gc ((v201 q cc gc ((v201 q cc gc h i (((Ar h 170) (78 + m5)).toNatClampNeg)).2) m5 (((Ar h 170) (78 + m5)).toNatClampNeg)).2) m5 (((Ar h 170) (78 + i)).toNatClampNeg)).2) i (((Ar h 170) (78 + i)).toNatClampNeg)).1))) x4) x4 ((((v201 q cc gc h i (((Ar h 170) (78 + m5)).toNatClampNeg)).1) - ((v201 q cc gc ((v201 q cc gc h i (((Ar h 170) (78 + m5)).toNatClampNeg)).2) m5 (((Ar h 170) (78 + m5)).toNatClampNeg)).1)) + (((v201 q cc gc ((v201 q cc gc ((v201 q cc gc h i (((Ar h 170) (78 + m5)).toNatClampNeg)).2) m5 (((Ar h 170) (78 + m5)).toNatClampNeg)).2) m5 (((Ar h 170) (78 + i)).toNatClampNeg)).1) - ((v201 q cc gc ((v201 q cc gc ((v201 q cc gc ((v201 q cc gc h i (((Ar h 170) (78 + m5)).toNatClampNeg)).2) m5 (((Ar h 170) (78 + m5)).toNatClampNeg)).2) m5 (((Ar h 170) (78 + i)).toNatClampNeg)).2) i (((Ar h 170) (78 + i)).toNatClampNeg)).1)))))))), some (.int (nI m5)), some (.int (nI (i + 1))), some (.int (nI (((Ar h 170) (78 + m5)).toNatClampNeg))), some (.int (nI (((Ar h 170) (78 + i)).toNatClampNeg))), some (.int (((v201 q cc gc h i (((Ar h 170) (78 + m5)).toNatClampNeg)).1) - ((v201 q cc gc ((v201 q cc gc h i (((Ar h 170) (78 + m5)).toNatClampNeg)).2) m5 (((Ar h 170) (78 + m5)).toNatClampNeg)).1))), some (.int (((v201 q cc gc ((v201 q cc gc ((v201 q cc gc h i (((Ar h 170) (78 + m5)).toNatClampNeg)).2) m5 (((Ar h 170) (78 + m5)).toNatClampNeg)).2) m5 (((Ar h 170) (78 + i)).toNatClampNeg)).1) - ((v201 q cc gc ((v201 q cc gc ((v201 q cc gc ((v201 q cc gc h i (((Ar h 170) (78 + m5)).toNatClampNeg)).2) m5 (((Ar h 170) (78 + m5)).toNatClampNeg)).2) m5 (((Ar h 170) (78 + i)).toNatClampNeg)).2) i (((Ar h 170) (78 + i)).toNatClampNeg)).1)))], [], (v201 q cc gc ((v201 q cc gc ((v201 q cc gc ((v201 q cc gc h i (((Ar h 170) (78 + m5)).toNatClampNeg)).2) m5 (((Ar h 170) (78 + m5)).toNatClampNeg)).2) m5 (((Ar h 170) (78 + i)).toNatClampNeg)).2) i (((Ar h 170) (78 + i)).toNatClampNeg)).2, 198, sl) = some R := hh
  obtain ⟨n, hh⟩ := rn_i rfl rfl rfl rfl hh
  have ed : v236_32b q cc gc h m5 i x1 x2 x3 x4 = (cond (decide ((((Ar h 170) (78 + m5)).toNatClampNeg) = (((Ar h 170) (78 + i)).toNatClampNeg))) x1 (cond (pm_cmp .le (((v201 q cc gc h i (((Ar h 170) (78 + m5)).toNatClampNeg)).1) - ((v201 q cc gc ((v201 q cc gc h i (((Ar h 170) (78 + m5)).toNatClampNeg)).2) m5 (((Ar h 170) (78 + m5)).toNatClampNeg)).1)) 0) x1 (cond (pm_cmp .le (((v201 q cc gc ((v201 q cc gc ((v201 q cc gc h i (((Ar h 170) (78 + m5)).toNatClampNeg)).2) m5 (((Ar h 170) (78 + m5)).toNatClampNeg)).2) m5 (((Ar h 170) (78 + i)).toNatClampNeg)).1) - ((v201 q cc gc ((v201 q cc gc ((v201 q cc gc ((v201 q cc gc h i (((Ar h 170) (78 + m5)).toNatClampNeg)).2) m5 (((Ar h 170) (78 + m5)).toNatClampNeg)).2) m5 (((Ar h 170) (78 + i)).toNatClampNeg)).2) i (((Ar h 170) (78 + i)).toNatClampNeg)).1)) 0) x1 (x1 + Int32.ofInt 1))), cond (decide ((((Ar h 170) (78 + m5)).toNatClampNeg) = (((Ar h 170) (78 + i)).toNatClampNeg))) x2 (cond (pm_cmp .le (((v201 q cc gc h i (((Ar h 170) (78 + m5)).toNatClampNeg)).1) - ((v201 q cc gc ((v201 q cc gc h i (((Ar h 170) (78 + m5)).toNatClampNeg)).2) m5 (((Ar h 170) (78 + m5)).toNatClampNeg)).1)) 0) x2 (cond (pm_cmp .le (((v201 q cc gc ((v201 q cc gc ((v201 q cc gc h i (((Ar h 170) (78 + m5)).toNatClampNeg)).2) m5 (((Ar h 170) (78 + m5)).toNatClampNeg)).2) m5 (((Ar h 170) (78 + i)).toNatClampNeg)).1) - ((v201 q cc gc ((v201 q cc gc ((v201 q cc gc ((v201 q cc gc h i (((Ar h 170) (78 + m5)).toNatClampNeg)).2) m5 (((Ar h 170) (78 + m5)).toNatClampNeg)).2) m5 (((Ar h 170) (78 + i)).toNatClampNeg)).2) i (((Ar h 170) (78 + i)).toNatClampNeg)).1)) 0) x2 (cond (pm_cmp .le ((((v201 q cc gc h i (((Ar h 170) (78 + m5)).toNatClampNeg)).1) - ((v201 q cc gc ((v201 q cc gc h i (((Ar h 170) (78 + m5)).toNatClampNeg)).2) m5 (((Ar h 170) (78 + m5)).toNatClampNeg)).1)) + (((v201 q cc gc ((v201 q cc gc ((v201 q cc gc h i (((Ar h 170) (78 + m5)).toNatClampNeg)).2) m5 (((Ar h 170) (78 + m5)).toNatClampNeg)).2) m5 (((Ar h 170) (78 + i)).toNatClampNeg)).1) - ((v201 q cc gc ((v201 q cc gc ((v201 q cc gc ((v201 q cc gc h i (((Ar h 170) (78 + m5)).toNatClampNeg)).2) m5 (((Ar h 170) (78 + m5)).toNatClampNeg)).2) m5 (((Ar h 170) (78 + i)).toNatClampNeg)).2) i (((Ar h 170) (78 + i)).toNatClampNeg)).1))) x4) x2 (nI m5)))), cond (decide ((((Ar h 170) (78 + m5)).toNatClampNeg) = (((Ar h 170) (78 + i)).toNatClampNeg))) x3 (cond (pm_cmp .le (((v201 q cc gc h i (((Ar h 170) (78 + m5)).toNatClampNeg)).1) - ((v201 q cc gc ((v201 q cc gc h i (((Ar h 170) (78 + m5)).toNatClampNeg)).2) m5 (((Ar h 170) (78 + m5)).toNatClampNeg)).1)) 0) x3 (cond (pm_cmp .le (((v201 q cc gc ((v201 q cc gc ((v201 q cc gc h i (((Ar h 170) (78 + m5)).toNatClampNeg)).2) m5 (((Ar h 170) (78 + m5)).toNatClampNeg)).2) m5 (((Ar h 170) (78 + i)).toNatClampNeg)).1) - ((v201 q cc gc ((v201 q cc gc ((v201 q cc gc ((v201 q cc gc h i (((Ar h 170) (78 + m5)).toNatClampNeg)).2) m5 (((Ar h 170) (78 + m5)).toNatClampNeg)).2) m5 (((Ar h 170) (78 + i)).toNatClampNeg)).2) i (((Ar h 170) (78 + i)).toNatClampNeg)).1)) 0) x3 (cond (pm_cmp .le ((((v201 q cc gc h i (((Ar h 170) (78 + m5)).toNatClampNeg)).1) - ((v201 q cc gc ((v201 q cc gc h i (((Ar h 170) (78 + m5)).toNatClampNeg)).2) m5 (((Ar h 170) (78 + m5)).toNatClampNeg)).1)) + (((v201 q cc gc ((v201 q cc gc ((v201 q cc gc h i (((Ar h 170) (78 + m5)).toNatClampNeg)).2) m5 (((Ar h 170) (78 + m5)).toNatClampNeg)).2) m5 (((Ar h 170) (78 + i)).toNatClampNeg)).1) - ((v201 q cc gc ((v201 q cc gc ((v201 q cc gc ((v201 q cc gc h i (((Ar h 170) (78 + m5)).toNatClampNeg)).2) m5 (((Ar h 170) (78 + m5)).toNatClampNeg)).2) m5 (((Ar h 170) (78 + i)).toNatClampNeg)).2) i (((Ar h 170) (78 + i)).toNatClampNeg)).1))) x4) x3 (nI i)))), cond (decide ((((Ar h 170) (78 + m5)).toNatClampNeg) = (((Ar h 170) (78 + i)).toNatClampNeg))) x4 (cond (pm_cmp .le (((v201 q cc gc h i (((Ar h 170) (78 + m5)).toNatClampNeg)).1) - ((v201 q cc gc ((v201 q cc gc h i (((Ar h 170) (78 + m5)).toNatClampNeg)).2) m5 (((Ar h 170) (78 + m5)).toNatClampNeg)).1)) 0) x4 (cond (pm_cmp .le (((v201 q cc gc ((v201 q cc gc ((v201 q cc gc h i (((Ar h 170) (78 + m5)).toNatClampNeg)).2) m5 (((Ar h 170) (78 + m5)).toNatClampNeg)).2) m5 (((Ar h 170) (78 + i)).toNatClampNeg)).1) - ((v201 q cc gc ((v201 q cc gc ((v201 q cc gc ((v201 q cc gc h i (((Ar h 170) (78 + m5)).toNatClampNeg)).2) m5 (((Ar h 170) (78 + m5)).toNatClampNeg)).2) m5 (((Ar h 170) (78 + i)).toNatClampNeg)).2) i (((Ar h 170) (78 + i)).toNatClampNeg)).1)) 0) x4 (cond (pm_cmp .le ((((v201 q cc gc h i (((Ar h 170) (78 + m5)).toNatClampNeg)).1) - ((v201 q cc gc ((v201 q cc gc h i (((Ar h 170) (78 + m5)).toNatClampNeg)).2) m5 (((Ar h 170) (78 + m5)).toNatClampNeg)).1)) + (((v201 q cc gc ((v201 q cc gc ((v201 q cc gc h i (((Ar h 170) (78 + m5)).toNatClampNeg)).2) m5 (((Ar h 170) (78 + m5)).toNatClampNeg)).2) m5 (((Ar h 170) (78 + i)).toNatClampNeg)).1) - ((v201 q cc gc ((v201 q cc gc ((v201 q cc gc ((v201 q cc gc h i (((Ar h 170) (78 + m5)).toNatClampNeg)).2) m5 (((Ar h 170) (78 + m5)).toNatClampNeg)).2) m5 (((Ar h 170) (78 + i)).toNatClampNeg)).2) i (((Ar h 170) (78 + i)).toNatClampNeg)).1))) x4) x4 ((((v201 q cc gc h i (((Ar h 170) (78 + m5)).toNatClampNeg)).1) - ((v201 q cc gc ((v201 q cc gc h i (((Ar h 170) (78 + m5)).toNatClampNeg)).2) m5 (((Ar h 170) (78 + m5)).toNatClampNeg)).1)) + (((v201 q cc gc ((v201 q cc gc ((v201 q cc gc h i (((Ar h 170) (78 + m5)).toNatClampNeg)).2) m5 (((Ar h 170) (78 + m5)).toNatClampNeg)).2) m5 (((Ar h 170) (78 + i)).toNatClampNeg)).1) - ((v201 q cc gc ((v201 q cc gc ((v201 q cc gc ((v201 q cc gc h i (((Ar h 170) (78 + m5)).toNatClampNeg)).2) m5 (((Ar h 170) (78 + m5)).toNatClampNeg)).2) m5 (((Ar h 170) (78 + i)).toNatClampNeg)).2) i (((Ar h 170) (78 + i)).toNatClampNeg)).1)))))), (v201 q cc gc ((v201 q cc gc ((v201 q cc gc ((v201 q cc gc h i (((Ar h 170) (78 + m5)).toNatClampNeg)).2) m5 (((Ar h 170) (78 + m5)).toNatClampNeg)).2) m5 (((Ar h 170) (78 + i)).toNatClampNeg)).2) i (((Ar h 170) (78 + i)).toNatClampNeg)).2) := rfl
  rw [ed]
  exact ⟨n, some (.int (nI (((Ar h 170) (78 + m5)).toNatClampNeg))), some (.int (nI (((Ar h 170) (78 + i)).toNatClampNeg))), some (.int (((v201 q cc gc h i (((Ar h 170) (78 + m5)).toNatClampNeg)).1) - ((v201 q cc gc ((v201 q cc gc h i (((Ar h 170) (78 + m5)).toNatClampNeg)).2) m5 (((Ar h 170) (78 + m5)).toNatClampNeg)).1))), some (.int (((v201 q cc gc ((v201 q cc gc ((v201 q cc gc h i (((Ar h 170) (78 + m5)).toNatClampNeg)).2) m5 (((Ar h 170) (78 + m5)).toNatClampNeg)).2) m5 (((Ar h 170) (78 + i)).toNatClampNeg)).1) - ((v201 q cc gc ((v201 q cc gc ((v201 q cc gc ((v201 q cc gc h i (((Ar h 170) (78 + m5)).toNatClampNeg)).2) m5 (((Ar h 170) (78 + m5)).toNatClampNeg)).2) m5 (((Ar h 170) (78 + i)).toNatClampNeg)).2) i (((Ar h 170) (78 + i)).toNatClampNeg)).1))), hc15, (fr_g rfl rfl hf16 (fr_g rfl rfl hf13 (fr_g rfl rfl hf10 (fr_g rfl rfl hf7 fr_0)))), (NA_e ((Ar_e (hf16.1 170 rfl)).trans ((Ar_e (hf13.1 170 rfl)).trans ((Ar_e (hf10.1 170 rfl)).trans ((Ar_e (hf7.1 170 rfl)).trans rfl)))) hol), hh⟩
theorem v236_32_ok {fr lo sl cc gc : Nat} {q : QT} {R : pm_Rs} {m5 : Nat} : ∀ {j i : Nat} {x1 : Int32} {x2 : Int32} {x3 : Int32} {x4 : Int32} {o7 : Option Value} {o8 : Option Value} {o9 : Option Value} {o10 : Option Value} {h : pm_H} {n : Nat}, gc - i = j → i + j < 1000000 → HC q cc gc h → m5 < gc → NA h 170 78 86 6 → pm_run PT n fr lo 236 (32, [some (.ref 162), some (.int x1), some (.int x2), some (.int x3), some (.int x4), some (.int (nI m5)), some (.int (nI i)), o7, o8, o9, o10], [], h, 198, sl) = some R → ∃ m wc w7 w8 w9 w10, HC q cc gc ((v236_32 q cc gc m5 j i (x1, x2, x3, x4, h)).2.2.2.2) ∧ frm [176, 177] [] h ((v236_32 q cc gc m5 j i (x1, x2, x3, x4, h)).2.2.2.2) ∧ NA ((v236_32 q cc gc m5 j i (x1, x2, x3, x4, h)).2.2.2.2) 170 78 86 6 ∧ pm_run PT m fr lo 236 (168, [some (.ref 162), some (.int ((v236_32 q cc gc m5 j i (x1, x2, x3, x4, h)).1)), some (.int ((v236_32 q cc gc m5 j i (x1, x2, x3, x4, h)).2.1)), some (.int ((v236_32 q cc gc m5 j i (x1, x2, x3, x4, h)).2.2.1)), some (.int ((v236_32 q cc gc m5 j i (x1, x2, x3, x4, h)).2.2.2.1)), some (.int (nI m5)), wc, w7, w8, w9, w10], [], (v236_32 q cc gc m5 j i (x1, x2, x3, x4, h)).2.2.2.2, 198, sl) = some R := by
  intro j
  induction j with
  | zero =>
    intro i x1 x2 x3 x4 o7 o8 o9 o10 h n e eI hw h_m5 hol hh
    obtain ⟨n, hh⟩ := v236_32_e hw h_m5 hol (by omega) (by omega) hh
    exact ⟨n, _, o7, o8, o9, o10, hw, fr_0, hol, hh⟩
  | succ j ih =>
    intro i x1 x2 x3 x4 o7 o8 o9 o10 h n e eI hw h_m5 hol hh
    obtain ⟨n, w7, w8, w9, w10, hc, hf, hol', hh⟩ := v236_32_s hw h_m5 hol (by omega) (by omega) hh
    obtain ⟨n, wc, v7, v8, v9, v10, hc2, hf2, hol'', hh⟩ := ih (by omega) (by omega) hc h_m5 hol' hh
    exact ⟨n, wc, v7, v8, v9, v10, hc2, fr_t hf2 hf, hol'', hh⟩
def v236_17b (q : QT) (cc gc : Nat) (h : pm_H) (i : Nat) (x1 : Int32) (x2 : Int32) (x3 : Int32) (x4 : Int32) : Int32 × Int32 × Int32 × Int32 × pm_H := ((v236_32 q cc gc i (gc - (i + 1)) (i + 1) (x1, x2, x3, x4, h)).1, (v236_32 q cc gc i (gc - (i + 1)) (i + 1) (x1, x2, x3, x4, h)).2.1, (v236_32 q cc gc i (gc - (i + 1)) (i + 1) (x1, x2, x3, x4, h)).2.2.1, (v236_32 q cc gc i (gc - (i + 1)) (i + 1) (x1, x2, x3, x4, h)).2.2.2.1, (v236_32 q cc gc i (gc - (i + 1)) (i + 1) (x1, x2, x3, x4, h)).2.2.2.2)
def v236_17 (q : QT) (cc gc : Nat) (j i : Nat) (a : Int32 × Int32 × Int32 × Int32 × pm_H) : Int32 × Int32 × Int32 × Int32 × pm_H := lp (fun i a => v236_17b q cc gc a.2.2.2.2 i a.1 a.2.1 a.2.2.1 a.2.2.2.1) j i a
theorem v236_17_e {n fr lo sl cc gc : Nat} {q : QT} {h : pm_H} {R : pm_Rs} {i : Nat} {x1 : Int32} {x2 : Int32} {x3 : Int32} {x4 : Int32} {o6 : Option Value} {o7 : Option Value} {o8 : Option Value} {o9 : Option Value} {o10 : Option Value} (hw : HC q cc gc h) (hol : NA h 170 78 86 6) (hi : gc ≤ i) (hI : i < 1000000) (hh : pm_run PT n fr lo 236 (17, [some (.ref 162), some (.int x1), some (.int x2), some (.int x3), some (.int x4), some (.int (nI i)), o6, o7, o8, o9, o10], [], h, 198, sl) = some R) : ∃ m, pm_run PT m fr lo 236 (174, [some (.ref 162), some (.int x1), some (.int x2), some (.int x3), some (.int x4), some (.int (nI i)), o6, o7, o8, o9, o10], [], h, 198, sl) = some R := by
  have hcc := hw.cb
  have hgc := hw.gb
  have hzr := hw.zr
  obtain ⟨n, hh⟩ := rn_i rfl rfl rfl rfl hh
  obtain ⟨n, hh⟩ := rn_i rfl rfl rfl rfl hh
  have hh : pm_run PT n fr lo 236 (20, [some (.ref 162), some (.int x1), some (.int x2), some (.int x3), some (.int x4), some (.int (nI i)), o6, o7, o8, o9, o10], [.ref 162, .int (nI i)], h, 198, sl) = some R := hh
  obtain ⟨n, hh⟩ := rn_gi (x := nI gc) hw.wt rfl rfl (by decide) rfl (by decide) rfl hw.m4 hh
  have hh : pm_run PT n fr lo 236 (23, [some (.ref 162), some (.int x1), some (.int x2), some (.int x3), some (.int x4), some (.int (nI i)), o6, o7, o8, o9, o10], [.int (nI gc), .int (nI i)], h, 198, sl) = some R := hh
  obtain ⟨n, hh⟩ := en_cn (cc := .ge) (off := 151) (t := 174) (b := decide (gc ≤ i)) (hI_ge (by omega) (by omega)) rfl rfl hh
  have hh := en_t (show decide (gc ≤ i) = true from decide_eq_true (by omega)) hh
  have hh : pm_run PT n fr lo 236 (174, [some (.ref 162), some (.int x1), some (.int x2), some (.int x3), some (.int x4), some (.int (nI i)), o6, o7, o8, o9, o10], [], h, 198, sl) = some R := hh
  exact ⟨n, hh⟩
theorem v236_17_s {n fr lo sl cc gc : Nat} {q : QT} {h : pm_H} {R : pm_Rs} {i : Nat} {x1 : Int32} {x2 : Int32} {x3 : Int32} {x4 : Int32} {o6 : Option Value} {o7 : Option Value} {o8 : Option Value} {o9 : Option Value} {o10 : Option Value} (hw : HC q cc gc h) (hol : NA h 170 78 86 6) (hi : i < gc) (hI : i < 1000000) (hh : pm_run PT n fr lo 236 (17, [some (.ref 162), some (.int x1), some (.int x2), some (.int x3), some (.int x4), some (.int (nI i)), o6, o7, o8, o9, o10], [], h, 198, sl) = some R) : ∃ m w6 w7 w8 w9 w10, HC q cc gc ((v236_17b q cc gc h i x1 x2 x3 x4).2.2.2.2) ∧ frm [176, 177] [] h ((v236_17b q cc gc h i x1 x2 x3 x4).2.2.2.2) ∧ NA ((v236_17b q cc gc h i x1 x2 x3 x4).2.2.2.2) 170 78 86 6 ∧ pm_run PT m fr lo 236 (17, [some (.ref 162), some (.int ((v236_17b q cc gc h i x1 x2 x3 x4).1)), some (.int ((v236_17b q cc gc h i x1 x2 x3 x4).2.1)), some (.int ((v236_17b q cc gc h i x1 x2 x3 x4).2.2.1)), some (.int ((v236_17b q cc gc h i x1 x2 x3 x4).2.2.2.1)), some (.int (nI (i + 1))), w6, w7, w8, w9, w10], [], (v236_17b q cc gc h i x1 x2 x3 x4).2.2.2.2, 198, sl) = some R := by
  have hcc := hw.cb
  have hgc := hw.gb
  have hzr := hw.zr
  obtain ⟨n, hh⟩ := rn_i rfl rfl rfl rfl hh
  obtain ⟨n, hh⟩ := rn_i rfl rfl rfl rfl hh
  have hh : pm_run PT n fr lo 236 (20, [some (.ref 162), some (.int x1), some (.int x2), some (.int x3), some (.int x4), some (.int (nI i)), o6, o7, o8, o9, o10], [.ref 162, .int (nI i)], h, 198, sl) = some R := hh
  obtain ⟨n, hh⟩ := rn_gi (x := nI gc) hw.wt rfl rfl (by decide) rfl (by decide) rfl hw.m4 hh
  have hh : pm_run PT n fr lo 236 (23, [some (.ref 162), some (.int x1), some (.int x2), some (.int x3), some (.int x4), some (.int (nI i)), o6, o7, o8, o9, o10], [.int (nI gc), .int (nI i)], h, 198, sl) = some R := hh
  obtain ⟨n, hh⟩ := en_cn (cc := .ge) (off := 151) (t := 174) (b := decide (gc ≤ i)) (hI_ge (by omega) (by omega)) rfl rfl hh
  have hh := en_f (show decide (gc ≤ i) = false from decide_eq_false (by omega)) hh
  have hh : pm_run PT n fr lo 236 (26, [some (.ref 162), some (.int x1), some (.int x2), some (.int x3), some (.int x4), some (.int (nI i)), o6, o7, o8, o9, o10], [], h, 198, sl) = some R := hh
  obtain ⟨n, hh⟩ := rn_i rfl rfl rfl rfl hh
  obtain ⟨n, hh⟩ := rn_i rfl rfl rfl rfl hh
  have hh : pm_run PT n fr lo 236 (29, [some (.ref 162), some (.int x1), some (.int x2), some (.int x3), some (.int x4), some (.int (nI i)), o6, o7, o8, o9, o10], [.int (nI 1), .int (nI i)], h, 198, sl) = some R := hh
  obtain ⟨n, hh⟩ := en_add rfl hh
  have hh : pm_run PT n fr lo 236 (30, [some (.ref 162), some (.int x1), some (.int x2), some (.int x3), some (.int x4), some (.int (nI i)), o6, o7, o8, o9, o10], [.int (nI (i + 1))], h, 198, sl) = some R := hh
  obtain ⟨n, hh⟩ := rn_i rfl rfl rfl rfl hh
  have hh : pm_run PT n fr lo 236 (32, [some (.ref 162), some (.int x1), some (.int x2), some (.int x3), some (.int x4), some (.int (nI i)), some (.int (nI (i + 1))), o7, o8, o9, o10], [], h, 198, sl) = some R := hh
  obtain ⟨n, u5, u1, u2, u3, u4, hc7, hf8, hn6, hh⟩ := v236_32_ok (m5 := i)  (i := i + 1) (x1 := x1) (x2 := x2) (x3 := x3) (x4 := x4) (o7 := o7) (o8 := o8) (o9 := o9) (o10 := o10) (j := (gc - (i + 1))) (by omega) (by omega) hw (by omega) hol hh
  have hh : pm_run PT n fr lo 236 (168, [some (.ref 162), some (.int ((v236_32 q cc gc i (gc - (i + 1)) (i + 1) (x1, x2, x3, x4, h)).1)), some (.int ((v236_32 q cc gc i (gc - (i + 1)) (i + 1) (x1, x2, x3, x4, h)).2.1)), some (.int ((v236_32 q cc gc i (gc - (i + 1)) (i + 1) (x1, x2, x3, x4, h)).2.2.1)), some (.int ((v236_32 q cc gc i (gc - (i + 1)) (i + 1) (x1, x2, x3, x4, h)).2.2.2.1)), some (.int (nI i)), u5, u1, u2, u3, u4], [], (v236_32 q cc gc i (gc - (i + 1)) (i + 1) (x1, x2, x3, x4, h)).2.2.2.2, 198, sl) = some R := hh
  have hh : pm_run PT n fr lo 236 (168, [some (.ref 162), some (.int ((v236_32 q cc gc i (gc - (i + 1)) (i + 1) (x1, x2, x3, x4, h)).1)), some (.int ((v236_32 q cc gc i (gc - (i + 1)) (i + 1) (x1, x2, x3, x4, h)).2.1)), some (.int ((v236_32 q cc gc i (gc - (i + 1)) (i + 1) (x1, x2, x3, x4, h)).2.2.1)), some (.int ((v236_32 q cc gc i (gc - (i + 1)) (i + 1) (x1, x2, x3, x4, h)).2.2.2.1)), some (.int (nI i)), u5, u1, u2, u3, u4], [], (v236_32 q cc gc i (gc - (i + 1)) (i + 1) (x1, x2, x3, x4, h)).2.2.2.2, 198, sl) = some R := hh
  obtain ⟨n, hh⟩ := en_inc (x := i) (c := 1) (j := 5) rfl rfl (by decide) hh
  have hh : pm_run PT n fr lo 236 (171, [some (.ref 162), some (.int ((v236_32 q cc gc i (gc - (i + 1)) (i + 1) (x1, x2, x3, x4, h)).1)), some (.int ((v236_32 q cc gc i (gc - (i + 1)) (i + 1) (x1, x2, x3, x4, h)).2.1)), some (.int ((v236_32 q cc gc i (gc - (i + 1)) (i + 1) (x1, x2, x3, x4, h)).2.2.1)), some (.int ((v236_32 q cc gc i (gc - (i + 1)) (i + 1) (x1, x2, x3, x4, h)).2.2.2.1)), some (.int (nI (i + 1))), u5, u1, u2, u3, u4], [], (v236_32 q cc gc i (gc - (i + 1)) (i + 1) (x1, x2, x3, x4, h)).2.2.2.2, 198, sl) = some R := hh
  obtain ⟨n, hh⟩ := rn_i rfl rfl rfl rfl hh
  have ed : v236_17b q cc gc h i x1 x2 x3 x4 = ((v236_32 q cc gc i (gc - (i + 1)) (i + 1) (x1, x2, x3, x4, h)).1, (v236_32 q cc gc i (gc - (i + 1)) (i + 1) (x1, x2, x3, x4, h)).2.1, (v236_32 q cc gc i (gc - (i + 1)) (i + 1) (x1, x2, x3, x4, h)).2.2.1, (v236_32 q cc gc i (gc - (i + 1)) (i + 1) (x1, x2, x3, x4, h)).2.2.2.1, (v236_32 q cc gc i (gc - (i + 1)) (i + 1) (x1, x2, x3, x4, h)).2.2.2.2) := rfl
  rw [ed]
  exact ⟨n, u5, u1, u2, u3, u4, hc7, (fr_g rfl rfl hf8 fr_0), (NA_e ((Ar_e (hf8.1 170 rfl)).trans rfl) hol), hh⟩
theorem v236_17_ok {fr lo sl cc gc : Nat} {q : QT} {R : pm_Rs} : ∀ {j i : Nat} {x1 : Int32} {x2 : Int32} {x3 : Int32} {x4 : Int32} {o6 : Option Value} {o7 : Option Value} {o8 : Option Value} {o9 : Option Value} {o10 : Option Value} {h : pm_H} {n : Nat}, gc - i = j → i + j < 1000000 → HC q cc gc h → NA h 170 78 86 6 → pm_run PT n fr lo 236 (17, [some (.ref 162), some (.int x1), some (.int x2), some (.int x3), some (.int x4), some (.int (nI i)), o6, o7, o8, o9, o10], [], h, 198, sl) = some R → ∃ m wc w6 w7 w8 w9 w10, HC q cc gc ((v236_17 q cc gc j i (x1, x2, x3, x4, h)).2.2.2.2) ∧ frm [176, 177] [] h ((v236_17 q cc gc j i (x1, x2, x3, x4, h)).2.2.2.2) ∧ NA ((v236_17 q cc gc j i (x1, x2, x3, x4, h)).2.2.2.2) 170 78 86 6 ∧ pm_run PT m fr lo 236 (174, [some (.ref 162), some (.int ((v236_17 q cc gc j i (x1, x2, x3, x4, h)).1)), some (.int ((v236_17 q cc gc j i (x1, x2, x3, x4, h)).2.1)), some (.int ((v236_17 q cc gc j i (x1, x2, x3, x4, h)).2.2.1)), some (.int ((v236_17 q cc gc j i (x1, x2, x3, x4, h)).2.2.2.1)), wc, w6, w7, w8, w9, w10], [], (v236_17 q cc gc j i (x1, x2, x3, x4, h)).2.2.2.2, 198, sl) = some R := by
  intro j
  induction j with
  | zero =>
    intro i x1 x2 x3 x4 o6 o7 o8 o9 o10 h n e eI hw hol hh
    obtain ⟨n, hh⟩ := v236_17_e hw hol (by omega) (by omega) hh
    exact ⟨n, _, o6, o7, o8, o9, o10, hw, fr_0, hol, hh⟩
  | succ j ih =>
    intro i x1 x2 x3 x4 o6 o7 o8 o9 o10 h n e eI hw hol hh
    obtain ⟨n, w6, w7, w8, w9, w10, hc, hf, hol', hh⟩ := v236_17_s hw hol (by omega) (by omega) hh
    obtain ⟨n, wc, v6, v7, v8, v9, v10, hc2, hf2, hol'', hh⟩ := ih (by omega) (by omega) hc hol' hh
    exact ⟨n, wc, v6, v7, v8, v9, v10, hc2, fr_t hf2 hf, hol'', hh⟩
def v236 (q : QT) (cc gc : Nat) (h : pm_H) : Int32 × pm_H := cond (pm_cmp .le ((v236_17 q cc gc gc 0 ((nI 0), (nI 0), (nI 0), (nI 0), fset h 162 0 (.int (nI 0)))).1) 0) ((v236_17 q cc gc gc 0 ((nI 0), (nI 0), (nI 0), (nI 0), fset h 162 0 (.int (nI 0)))).1, fset ((v236_17 q cc gc gc 0 ((nI 0), (nI 0), (nI 0), (nI 0), fset h 162 0 (.int (nI 0)))).2.2.2.2) 162 1 (.int (nI 0))) ((v236_17 q cc gc gc 0 ((nI 0), (nI 0), (nI 0), (nI 0), fset h 162 0 (.int (nI 0)))).1, v167 q cc gc (v167 q cc gc (v167 q cc gc (fset ((v236_17 q cc gc gc 0 ((nI 0), (nI 0), (nI 0), (nI 0), fset h 162 0 (.int (nI 0)))).2.2.2.2) 162 1 (.int (nI 0))) (((v236_17 q cc gc gc 0 ((nI 0), (nI 0), (nI 0), (nI 0), fset h 162 0 (.int (nI 0)))).2.1).toInt64)) (((v236_17 q cc gc gc 0 ((nI 0), (nI 0), (nI 0), (nI 0), fset h 162 0 (.int (nI 0)))).2.2.1).toInt64)) (((v236_17 q cc gc gc 0 ((nI 0), (nI 0), (nI 0), (nI 0), fset h 162 0 (.int (nI 0)))).2.2.2.1).toInt64))
theorem v236_ok {n fr lo sl cc gc : Nat} {q : QT} {h : pm_H} {R : pm_Rs} (hw : HC q cc gc h) (hol : NA h 170 78 86 6) (hh : pm_run PT n fr lo 236 (0, pm_l0 [.ref 162] 11, [], h, 198, sl) = some R) : R = (some (.int ((v236 q cc gc h).1)), (v236 q cc gc h).2, 198, sl) ∧ HC q cc gc ((v236 q cc gc h).2) ∧ frm [162, 163, 176, 177] [(162, 0), (162, 1)] h ((v236 q cc gc h).2) := by
  have hcc := hw.cb
  have hgc := hw.gb
  have hzr := hw.zr
  obtain ⟨n, hh⟩ := rn_i rfl rfl rfl rfl hh
  obtain ⟨n, hh⟩ := rn_i rfl rfl rfl rfl hh
  have hh : pm_run PT n fr lo 236 (2, [some (.ref 162), none, none, none, none, none, none, none, none, none, none], [.int (nI 0), .ref 162], h, 198, sl) = some R := hh
  obtain ⟨n, hh⟩ := rn_pi hw.wt rfl rfl (by decide) rfl (by decide) rfl hh
  obtain ⟨n, hh⟩ := rn_i rfl rfl rfl rfl hh
  obtain ⟨n, hh⟩ := rn_i rfl rfl rfl rfl hh
  obtain ⟨n, hh⟩ := rn_i rfl rfl rfl rfl hh
  obtain ⟨n, hh⟩ := rn_i rfl rfl rfl rfl hh
  obtain ⟨n, hh⟩ := rn_i rfl rfl rfl rfl hh
  obtain ⟨n, hh⟩ := rn_i rfl rfl rfl rfl hh
  obtain ⟨n, hh⟩ := rn_i rfl rfl rfl rfl hh
  obtain ⟨n, hh⟩ := rn_i rfl rfl rfl rfl hh
  obtain ⟨n, hh⟩ := rn_i rfl rfl rfl rfl hh
  obtain ⟨n, hh⟩ := rn_i rfl rfl rfl rfl hh
  have hh : pm_run PT n fr lo 236 (17, [some (.ref 162), some (.int (nI 0)), some (.int (nI 0)), some (.int (nI 0)), some (.int (nI 0)), some (.int (nI 0)), none, none, none, none, none], [], fset h 162 0 (.int (nI 0)), 198, sl) = some R := hh
  obtain ⟨n, u6, u1, u2, u3, u4, u5, hc8, hf9, hn7, hh⟩ := v236_17_ok  (i := 0) (x1 := (nI 0)) (x2 := (nI 0)) (x3 := (nI 0)) (x4 := (nI 0)) (o6 := none) (o7 := none) (o8 := none) (o9 := none) (o10 := none) (j := gc) (by omega) (by omega) (hc_f rfl rfl (by decide) rfl hw) (NA_e (Ar_f.trans rfl) hol) hh
  have hh : pm_run PT n fr lo 236 (174, [some (.ref 162), some (.int ((v236_17 q cc gc gc 0 ((nI 0), (nI 0), (nI 0), (nI 0), fset h 162 0 (.int (nI 0)))).1)), some (.int ((v236_17 q cc gc gc 0 ((nI 0), (nI 0), (nI 0), (nI 0), fset h 162 0 (.int (nI 0)))).2.1)), some (.int ((v236_17 q cc gc gc 0 ((nI 0), (nI 0), (nI 0), (nI 0), fset h 162 0 (.int (nI 0)))).2.2.1)), some (.int ((v236_17 q cc gc gc 0 ((nI 0), (nI 0), (nI 0), (nI 0), fset h 162 0 (.int (nI 0)))).2.2.2.1)), u6, u1, u2, u3, u4, u5], [], (v236_17 q cc gc gc 0 ((nI 0), (nI 0), (nI 0), (nI 0), fset h 162 0 (.int (nI 0)))).2.2.2.2, 198, sl) = some R := hh
  obtain ⟨n, hh⟩ := rn_i rfl rfl rfl rfl hh
  obtain ⟨n, hh⟩ := rn_i rfl rfl rfl rfl hh
  have hh : pm_run PT n fr lo 236 (176, [some (.ref 162), some (.int ((v236_17 q cc gc gc 0 ((nI 0), (nI 0), (nI 0), (nI 0), fset h 162 0 (.int (nI 0)))).1)), some (.int ((v236_17 q cc gc gc 0 ((nI 0), (nI 0), (nI 0), (nI 0), fset h 162 0 (.int (nI 0)))).2.1)), some (.int ((v236_17 q cc gc gc 0 ((nI 0), (nI 0), (nI 0), (nI 0), fset h 162 0 (.int (nI 0)))).2.2.1)), some (.int ((v236_17 q cc gc gc 0 ((nI 0), (nI 0), (nI 0), (nI 0), fset h 162 0 (.int (nI 0)))).2.2.2.1)), u6, u1, u2, u3, u4, u5], [.int (nI 0), .ref 162], (v236_17 q cc gc gc 0 ((nI 0), (nI 0), (nI 0), (nI 0), fset h 162 0 (.int (nI 0)))).2.2.2.2, 198, sl) = some R := hh
  obtain ⟨n, hh⟩ := rn_pi hc8.wt rfl rfl (by decide) rfl (by decide) rfl hh
  obtain ⟨n, hh⟩ := rn_i rfl rfl rfl rfl hh
  have hh : pm_run PT n fr lo 236 (180, [some (.ref 162), some (.int ((v236_17 q cc gc gc 0 ((nI 0), (nI 0), (nI 0), (nI 0), fset h 162 0 (.int (nI 0)))).1)), some (.int ((v236_17 q cc gc gc 0 ((nI 0), (nI 0), (nI 0), (nI 0), fset h 162 0 (.int (nI 0)))).2.1)), some (.int ((v236_17 q cc gc gc 0 ((nI 0), (nI 0), (nI 0), (nI 0), fset h 162 0 (.int (nI 0)))).2.2.1)), some (.int ((v236_17 q cc gc gc 0 ((nI 0), (nI 0), (nI 0), (nI 0), fset h 162 0 (.int (nI 0)))).2.2.2.1)), u6, u1, u2, u3, u4, u5], [.int ((v236_17 q cc gc gc 0 ((nI 0), (nI 0), (nI 0), (nI 0), fset h 162 0 (.int (nI 0)))).1)], fset ((v236_17 q cc gc gc 0 ((nI 0), (nI 0), (nI 0), (nI 0), fset h 162 0 (.int (nI 0)))).2.2.2.2) 162 1 (.int (nI 0)), 198, sl) = some R := hh
  obtain ⟨n, hh⟩ := en_zn (cc := .le) (off := 22) (t := 202) (b := pm_cmp .le ((v236_17 q cc gc gc 0 ((nI 0), (nI 0), (nI 0), (nI 0), fset h 162 0 (.int (nI 0)))).1) 0) rfl rfl rfl hh
  cases z10 : pm_cmp .le ((v236_17 q cc gc gc 0 ((nI 0), (nI 0), (nI 0), (nI 0), fset h 162 0 (.int (nI 0)))).1) 0 with
  | true =>
    have hh := en_t z10 hh
    have hh : pm_run PT n fr lo 236 (202, [some (.ref 162), some (.int ((v236_17 q cc gc gc 0 ((nI 0), (nI 0), (nI 0), (nI 0), fset h 162 0 (.int (nI 0)))).1)), some (.int ((v236_17 q cc gc gc 0 ((nI 0), (nI 0), (nI 0), (nI 0), fset h 162 0 (.int (nI 0)))).2.1)), some (.int ((v236_17 q cc gc gc 0 ((nI 0), (nI 0), (nI 0), (nI 0), fset h 162 0 (.int (nI 0)))).2.2.1)), some (.int ((v236_17 q cc gc gc 0 ((nI 0), (nI 0), (nI 0), (nI 0), fset h 162 0 (.int (nI 0)))).2.2.2.1)), u6, u1, u2, u3, u4, u5], [], fset ((v236_17 q cc gc gc 0 ((nI 0), (nI 0), (nI 0), (nI 0), fset h 162 0 (.int (nI 0)))).2.2.2.2) 162 1 (.int (nI 0)), 198, sl) = some R := hh
    obtain ⟨n, hh⟩ := rn_i rfl rfl rfl rfl hh
    have hh : pm_run PT n fr lo 236 (203, [some (.ref 162), some (.int ((v236_17 q cc gc gc 0 ((nI 0), (nI 0), (nI 0), (nI 0), fset h 162 0 (.int (nI 0)))).1)), some (.int ((v236_17 q cc gc gc 0 ((nI 0), (nI 0), (nI 0), (nI 0), fset h 162 0 (.int (nI 0)))).2.1)), some (.int ((v236_17 q cc gc gc 0 ((nI 0), (nI 0), (nI 0), (nI 0), fset h 162 0 (.int (nI 0)))).2.2.1)), some (.int ((v236_17 q cc gc gc 0 ((nI 0), (nI 0), (nI 0), (nI 0), fset h 162 0 (.int (nI 0)))).2.2.2.1)), u6, u1, u2, u3, u4, u5], [.int ((v236_17 q cc gc gc 0 ((nI 0), (nI 0), (nI 0), (nI 0), fset h 162 0 (.int (nI 0)))).1)], fset ((v236_17 q cc gc gc 0 ((nI 0), (nI 0), (nI 0), (nI 0), fset h 162 0 (.int (nI 0)))).2.2.2.2) 162 1 (.int (nI 0)), 198, sl) = some R := hh
    have er11 : R = (some (.int ((v236_17 q cc gc gc 0 ((nI 0), (nI 0), (nI 0), (nI 0), fset h 162 0 (.int (nI 0)))).1)), fset ((v236_17 q cc gc gc 0 ((nI 0), (nI 0), (nI 0), (nI 0), fset h 162 0 (.int (nI 0)))).2.2.2.2) 162 1 (.int (nI 0)), 198, sl) := (rn_ret rfl (Or.inl rfl) hh).2
    have ed : v236 q cc gc h = ((v236_17 q cc gc gc 0 ((nI 0), (nI 0), (nI 0), (nI 0), fset h 162 0 (.int (nI 0)))).1, fset ((v236_17 q cc gc gc 0 ((nI 0), (nI 0), (nI 0), (nI 0), fset h 162 0 (.int (nI 0)))).2.2.2.2) 162 1 (.int (nI 0))) := (ct z10).trans rfl
    refine ⟨?_, ?_, ?_⟩ <;> rw [ed]
    · exact er11
    · exact (hc_f rfl rfl (by decide) rfl hc8)
    · exact (fr_f rfl rfl (fr_g rfl rfl hf9 (fr_f rfl rfl fr_0)))
  | false =>
    have hh := en_f z10 hh
    have hh : pm_run PT n fr lo 236 (183, [some (.ref 162), some (.int ((v236_17 q cc gc gc 0 ((nI 0), (nI 0), (nI 0), (nI 0), fset h 162 0 (.int (nI 0)))).1)), some (.int ((v236_17 q cc gc gc 0 ((nI 0), (nI 0), (nI 0), (nI 0), fset h 162 0 (.int (nI 0)))).2.1)), some (.int ((v236_17 q cc gc gc 0 ((nI 0), (nI 0), (nI 0), (nI 0), fset h 162 0 (.int (nI 0)))).2.2.1)), some (.int ((v236_17 q cc gc gc 0 ((nI 0), (nI 0), (nI 0), (nI 0), fset h 162 0 (.int (nI 0)))).2.2.2.1)), u6, u1, u2, u3, u4, u5], [], fset ((v236_17 q cc gc gc 0 ((nI 0), (nI 0), (nI 0), (nI 0), fset h 162 0 (.int (nI 0)))).2.2.2.2) 162 1 (.int (nI 0)), 198, sl) = some R := hh
    obtain ⟨n, hh⟩ := rn_i rfl rfl rfl rfl hh
    obtain ⟨n, hh⟩ := rn_i rfl rfl rfl rfl hh
    obtain ⟨n, hh⟩ := rn_i rfl rfl rfl rfl hh
    have hh : pm_run PT n fr lo 236 (186, [some (.ref 162), some (.int ((v236_17 q cc gc gc 0 ((nI 0), (nI 0), (nI 0), (nI 0), fset h 162 0 (.int (nI 0)))).1)), some (.int ((v236_17 q cc gc gc 0 ((nI 0), (nI 0), (nI 0), (nI 0), fset h 162 0 (.int (nI 0)))).2.1)), some (.int ((v236_17 q cc gc gc 0 ((nI 0), (nI 0), (nI 0), (nI 0), fset h 162 0 (.int (nI 0)))).2.2.1)), some (.int ((v236_17 q cc gc gc 0 ((nI 0), (nI 0), (nI 0), (nI 0), fset h 162 0 (.int (nI 0)))).2.2.2.1)), u6, u1, u2, u3, u4, u5], [.long (((v236_17 q cc gc gc 0 ((nI 0), (nI 0), (nI 0), (nI 0), fset h 162 0 (.int (nI 0)))).2.1).toInt64), .ref 162], fset ((v236_17 q cc gc gc 0 ((nI 0), (nI 0), (nI 0), (nI 0), fset h 162 0 (.int (nI 0)))).2.2.2.2) 162 1 (.int (nI 0)), 198, sl) = some R := hh
    obtain ⟨n, fr1, lo1, r1, hh1, hh⟩ := rn_call (w := 0) (t := 167) rfl rfl hh
    obtain ⟨er12, hc13, hf14⟩ := v167_ok (v := (((v236_17 q cc gc gc 0 ((nI 0), (nI 0), (nI 0), (nI 0), fset h 162 0 (.int (nI 0)))).2.1).toInt64)) (hc_f rfl rfl (by decide) rfl hc8) hh1
    subst er12
    obtain ⟨n, hh⟩ := rn_i rfl rfl rfl rfl hh
    obtain ⟨n, hh⟩ := rn_i rfl rfl rfl rfl hh
    obtain ⟨n, hh⟩ := rn_i rfl rfl rfl rfl hh
    have hh : pm_run PT n fr lo 236 (192, [some (.ref 162), some (.int ((v236_17 q cc gc gc 0 ((nI 0), (nI 0), (nI 0), (nI 0), fset h 162 0 (.int (nI 0)))).1)), some (.int ((v236_17 q cc gc gc 0 ((nI 0), (nI 0), (nI 0), (nI 0), fset h 162 0 (.int (nI 0)))).2.1)), some (.int ((v236_17 q cc gc gc 0 ((nI 0), (nI 0), (nI 0), (nI 0), fset h 162 0 (.int (nI 0)))).2.2.1)), some (.int ((v236_17 q cc gc gc 0 ((nI 0), (nI 0), (nI 0), (nI 0), fset h 162 0 (.int (nI 0)))).2.2.2.1)), u6, u1, u2, u3, u4, u5], [.long (((v236_17 q cc gc gc 0 ((nI 0), (nI 0), (nI 0), (nI 0), fset h 162 0 (.int (nI 0)))).2.2.1).toInt64), .ref 162], v167 q cc gc (fset ((v236_17 q cc gc gc 0 ((nI 0), (nI 0), (nI 0), (nI 0), fset h 162 0 (.int (nI 0)))).2.2.2.2) 162 1 (.int (nI 0))) (((v236_17 q cc gc gc 0 ((nI 0), (nI 0), (nI 0), (nI 0), fset h 162 0 (.int (nI 0)))).2.1).toInt64), 198, sl) = some R := hh
    obtain ⟨n, fr1, lo1, r1, hh1, hh⟩ := rn_call (w := 0) (t := 167) rfl rfl hh
    obtain ⟨er15, hc16, hf17⟩ := v167_ok (v := (((v236_17 q cc gc gc 0 ((nI 0), (nI 0), (nI 0), (nI 0), fset h 162 0 (.int (nI 0)))).2.2.1).toInt64)) hc13 hh1
    subst er15
    obtain ⟨n, hh⟩ := rn_i rfl rfl rfl rfl hh
    obtain ⟨n, hh⟩ := rn_i rfl rfl rfl rfl hh
    obtain ⟨n, hh⟩ := rn_i rfl rfl rfl rfl hh
    have hh : pm_run PT n fr lo 236 (199, [some (.ref 162), some (.int ((v236_17 q cc gc gc 0 ((nI 0), (nI 0), (nI 0), (nI 0), fset h 162 0 (.int (nI 0)))).1)), some (.int ((v236_17 q cc gc gc 0 ((nI 0), (nI 0), (nI 0), (nI 0), fset h 162 0 (.int (nI 0)))).2.1)), some (.int ((v236_17 q cc gc gc 0 ((nI 0), (nI 0), (nI 0), (nI 0), fset h 162 0 (.int (nI 0)))).2.2.1)), some (.int ((v236_17 q cc gc gc 0 ((nI 0), (nI 0), (nI 0), (nI 0), fset h 162 0 (.int (nI 0)))).2.2.2.1)), u6, u1, u2, u3, u4, u5], [.long (((v236_17 q cc gc gc 0 ((nI 0), (nI 0), (nI 0), (nI 0), fset h 162 0 (.int (nI 0)))).2.2.2.1).toInt64), .ref 162], v167 q cc gc (v167 q cc gc (fset ((v236_17 q cc gc gc 0 ((nI 0), (nI 0), (nI 0), (nI 0), fset h 162 0 (.int (nI 0)))).2.2.2.2) 162 1 (.int (nI 0))) (((v236_17 q cc gc gc 0 ((nI 0), (nI 0), (nI 0), (nI 0), fset h 162 0 (.int (nI 0)))).2.1).toInt64)) (((v236_17 q cc gc gc 0 ((nI 0), (nI 0), (nI 0), (nI 0), fset h 162 0 (.int (nI 0)))).2.2.1).toInt64), 198, sl) = some R := hh
    obtain ⟨n, fr1, lo1, r1, hh1, hh⟩ := rn_call (w := 0) (t := 167) rfl rfl hh
    obtain ⟨er18, hc19, hf20⟩ := v167_ok (v := (((v236_17 q cc gc gc 0 ((nI 0), (nI 0), (nI 0), (nI 0), fset h 162 0 (.int (nI 0)))).2.2.2.1).toInt64)) hc16 hh1
    subst er18
    obtain ⟨n, hh⟩ := rn_i rfl rfl rfl rfl hh
    have hh : pm_run PT n fr lo 236 (203, [some (.ref 162), some (.int ((v236_17 q cc gc gc 0 ((nI 0), (nI 0), (nI 0), (nI 0), fset h 162 0 (.int (nI 0)))).1)), some (.int ((v236_17 q cc gc gc 0 ((nI 0), (nI 0), (nI 0), (nI 0), fset h 162 0 (.int (nI 0)))).2.1)), some (.int ((v236_17 q cc gc gc 0 ((nI 0), (nI 0), (nI 0), (nI 0), fset h 162 0 (.int (nI 0)))).2.2.1)), some (.int ((v236_17 q cc gc gc 0 ((nI 0), (nI 0), (nI 0), (nI 0), fset h 162 0 (.int (nI 0)))).2.2.2.1)), u6, u1, u2, u3, u4, u5], [.int ((v236_17 q cc gc gc 0 ((nI 0), (nI 0), (nI 0), (nI 0), fset h 162 0 (.int (nI 0)))).1)], v167 q cc gc (v167 q cc gc (v167 q cc gc (fset ((v236_17 q cc gc gc 0 ((nI 0), (nI 0), (nI 0), (nI 0), fset h 162 0 (.int (nI 0)))).2.2.2.2) 162 1 (.int (nI 0))) (((v236_17 q cc gc gc 0 ((nI 0), (nI 0), (nI 0), (nI 0), fset h 162 0 (.int (nI 0)))).2.1).toInt64)) (((v236_17 q cc gc gc 0 ((nI 0), (nI 0), (nI 0), (nI 0), fset h 162 0 (.int (nI 0)))).2.2.1).toInt64)) (((v236_17 q cc gc gc 0 ((nI 0), (nI 0), (nI 0), (nI 0), fset h 162 0 (.int (nI 0)))).2.2.2.1).toInt64), 198, sl) = some R := hh
    have er21 : R = (some (.int ((v236_17 q cc gc gc 0 ((nI 0), (nI 0), (nI 0), (nI 0), fset h 162 0 (.int (nI 0)))).1)), v167 q cc gc (v167 q cc gc (v167 q cc gc (fset ((v236_17 q cc gc gc 0 ((nI 0), (nI 0), (nI 0), (nI 0), fset h 162 0 (.int (nI 0)))).2.2.2.2) 162 1 (.int (nI 0))) (((v236_17 q cc gc gc 0 ((nI 0), (nI 0), (nI 0), (nI 0), fset h 162 0 (.int (nI 0)))).2.1).toInt64)) (((v236_17 q cc gc gc 0 ((nI 0), (nI 0), (nI 0), (nI 0), fset h 162 0 (.int (nI 0)))).2.2.1).toInt64)) (((v236_17 q cc gc gc 0 ((nI 0), (nI 0), (nI 0), (nI 0), fset h 162 0 (.int (nI 0)))).2.2.2.1).toInt64), 198, sl) := (rn_ret rfl (Or.inl rfl) hh).2
    have ed : v236 q cc gc h = ((v236_17 q cc gc gc 0 ((nI 0), (nI 0), (nI 0), (nI 0), fset h 162 0 (.int (nI 0)))).1, v167 q cc gc (v167 q cc gc (v167 q cc gc (fset ((v236_17 q cc gc gc 0 ((nI 0), (nI 0), (nI 0), (nI 0), fset h 162 0 (.int (nI 0)))).2.2.2.2) 162 1 (.int (nI 0))) (((v236_17 q cc gc gc 0 ((nI 0), (nI 0), (nI 0), (nI 0), fset h 162 0 (.int (nI 0)))).2.1).toInt64)) (((v236_17 q cc gc gc 0 ((nI 0), (nI 0), (nI 0), (nI 0), fset h 162 0 (.int (nI 0)))).2.2.1).toInt64)) (((v236_17 q cc gc gc 0 ((nI 0), (nI 0), (nI 0), (nI 0), fset h 162 0 (.int (nI 0)))).2.2.2.1).toInt64)) := (cf z10).trans rfl
    refine ⟨?_, ?_, ?_⟩ <;> rw [ed]
    · exact er21
    · exact hc19
    · exact (fr_g rfl rfl hf20 (fr_g rfl rfl hf17 (fr_g rfl rfl hf14 (fr_f rfl rfl (fr_g rfl rfl hf9 (fr_f rfl rfl fr_0))))))
def v242 (q : QT) (cc gc : Nat) (h : pm_H) (c : Nat) : Int32 × pm_H := cond (decide (c < cc)) (cond (pm_cmp .ge ((v241 q cc gc (v229 q cc gc (fset h 162 0 (.int (nI 0)))) c).1) 0) ((v241 q cc gc (v229 q cc gc (fset h 162 0 (.int (nI 0)))) c).1, v167 q cc gc (v167 q cc gc (fset ((v241 q cc gc (v229 q cc gc (fset h 162 0 (.int (nI 0)))) c).2) 162 1 (.int (nI 0))) ((v269 q cc gc (Fi ((v241 q cc gc (v229 q cc gc (fset h 162 0 (.int (nI 0)))) c).2) 162 41)).toInt64)) (((Ar ((v241 q cc gc (v229 q cc gc (fset h 162 0 (.int (nI 0)))) c).2) 171) c).toInt64)) ((Int32.ofInt (-2)), (v241 q cc gc (v229 q cc gc (fset h 162 0 (.int (nI 0)))) c).2)) ((Int32.ofInt (-1)), fset h 162 0 (.int (nI 0)))
theorem v242_ok {n fr lo sl cc gc : Nat} {q : QT} {h : pm_H} {R : pm_Rs} {c : Nat} (hw : HC q cc gc h) (h_c : c < 10000) (hh : pm_run PT n fr lo 242 (0, pm_l0 [.ref 162, .int (nI c)] 3, [], h, 198, sl) = some R) : R = (some (.int ((v242 q cc gc h c).1)), (v242 q cc gc h c).2, 198, sl) ∧ HC q cc gc ((v242 q cc gc h c).2) ∧ frm [162, 163, 171] [(162, 0), (162, 1), (162, 41)] h ((v242 q cc gc h c).2) := by
  have hcc := hw.cb
  have hgc := hw.gb
  have hzr := hw.zr
  obtain ⟨n, hh⟩ := rn_i rfl rfl rfl rfl hh
  obtain ⟨n, hh⟩ := rn_i rfl rfl rfl rfl hh
  have hh : pm_run PT n fr lo 242 (2, [some (.ref 162), some (.int (nI c)), none], [.int (nI 0), .ref 162], h, 198, sl) = some R := hh
  obtain ⟨n, hh⟩ := rn_pi hw.wt rfl rfl (by decide) rfl (by decide) rfl hh
  obtain ⟨n, hh⟩ := rn_i rfl rfl rfl rfl hh
  obtain ⟨n, hh⟩ := rn_i rfl rfl rfl rfl hh
  have hh : pm_run PT n fr lo 242 (7, [some (.ref 162), some (.int (nI c)), none], [.int (nI c), .ref 162], fset h 162 0 (.int (nI 0)), 198, sl) = some R := hh
  obtain ⟨n, fr1, lo1, r1, hh1, hh⟩ := rn_call (w := 0) (t := 168) rfl rfl hh
  have er1 := mi_run hcc (hc_m3 (hc_f rfl rfl (by decide) rfl hw)) hh1
  rw [cB_n (by omega)] at er1
  subst er1
  have hh : pm_run PT n fr lo 242 (10, [some (.ref 162), some (.int (nI c)), none], [.int (cond (decide (c < cc)) 1 0)], fset h 162 0 (.int (nI 0)), 198, sl) = some R := hh
  obtain ⟨n, hh⟩ := en_zn (cc := .ne) (off := 5) (t := 15) (b := decide (c < cc)) eb_ne rfl rfl hh
  cases z2 : decide (c < cc) with
  | true =>
    have hh := en_t z2 hh
    have hh : pm_run PT n fr lo 242 (15, [some (.ref 162), some (.int (nI c)), none], [], fset h 162 0 (.int (nI 0)), 198, sl) = some R := hh
    have y3 := of_decide_eq_true z2
    obtain ⟨n, hh⟩ := rn_i rfl rfl rfl rfl hh
    have hh : pm_run PT n fr lo 242 (16, [some (.ref 162), some (.int (nI c)), none], [.ref 162], fset h 162 0 (.int (nI 0)), 198, sl) = some R := hh
    obtain ⟨n, fr1, lo1, r1, hh1, hh⟩ := rn_call (w := 0) (t := 229) rfl rfl hh
    obtain ⟨er4, hc5, hf6⟩ := v229_ok (hc_f rfl rfl (by decide) rfl hw) hh1
    subst er4
    obtain ⟨n, hh⟩ := rn_i rfl rfl rfl rfl hh
    obtain ⟨n, hh⟩ := rn_i rfl rfl rfl rfl hh
    have hh : pm_run PT n fr lo 242 (21, [some (.ref 162), some (.int (nI c)), none], [.int (nI c), .ref 162], v229 q cc gc (fset h 162 0 (.int (nI 0))), 198, sl) = some R := hh
    obtain ⟨n, fr1, lo1, r1, hh1, hh⟩ := rn_call (w := 0) (t := 241) rfl rfl hh
    obtain ⟨er7, hc8, hf9⟩ := v241_ok (c := c) hc5 (by omega) hh1
    subst er7
    obtain ⟨n, hh⟩ := rn_i rfl rfl rfl rfl hh
    obtain ⟨n, hh⟩ := rn_i rfl rfl rfl rfl hh
    have hh : pm_run PT n fr lo 242 (26, [some (.ref 162), some (.int (nI c)), some (.int ((v241 q cc gc (v229 q cc gc (fset h 162 0 (.int (nI 0)))) c).1))], [.int ((v241 q cc gc (v229 q cc gc (fset h 162 0 (.int (nI 0)))) c).1)], (v241 q cc gc (v229 q cc gc (fset h 162 0 (.int (nI 0)))) c).2, 198, sl) = some R := hh
    obtain ⟨n, hh⟩ := en_zn (cc := .ge) (off := 6) (t := 32) (b := pm_cmp .ge ((v241 q cc gc (v229 q cc gc (fset h 162 0 (.int (nI 0)))) c).1) 0) rfl rfl rfl hh
    cases z10 : pm_cmp .ge ((v241 q cc gc (v229 q cc gc (fset h 162 0 (.int (nI 0)))) c).1) 0 with
    | true =>
      have hh := en_t z10 hh
      have hh : pm_run PT n fr lo 242 (32, [some (.ref 162), some (.int (nI c)), some (.int ((v241 q cc gc (v229 q cc gc (fset h 162 0 (.int (nI 0)))) c).1))], [], (v241 q cc gc (v229 q cc gc (fset h 162 0 (.int (nI 0)))) c).2, 198, sl) = some R := hh
      obtain ⟨n, hh⟩ := rn_i rfl rfl rfl rfl hh
      obtain ⟨n, hh⟩ := rn_i rfl rfl rfl rfl hh
      have hh : pm_run PT n fr lo 242 (34, [some (.ref 162), some (.int (nI c)), some (.int ((v241 q cc gc (v229 q cc gc (fset h 162 0 (.int (nI 0)))) c).1))], [.int (nI 0), .ref 162], (v241 q cc gc (v229 q cc gc (fset h 162 0 (.int (nI 0)))) c).2, 198, sl) = some R := hh
      obtain ⟨n, hh⟩ := rn_pi hc8.wt rfl rfl (by decide) rfl (by decide) rfl hh
      obtain ⟨n, hh⟩ := rn_i rfl rfl rfl rfl hh
      obtain ⟨n, hh⟩ := rn_i rfl rfl rfl rfl hh
      have hh : pm_run PT n fr lo 242 (39, [some (.ref 162), some (.int (nI c)), some (.int ((v241 q cc gc (v229 q cc gc (fset h 162 0 (.int (nI 0)))) c).1))], [.ref 162, .ref 162], fset ((v241 q cc gc (v229 q cc gc (fset h 162 0 (.int (nI 0)))) c).2) 162 1 (.int (nI 0)), 198, sl) = some R := hh
      obtain ⟨n, hh⟩ := rn_gi (x := Fi ((v241 q cc gc (v229 q cc gc (fset h 162 0 (.int (nI 0)))) c).2) 162 41) (hc_f rfl rfl (by decide) rfl hc8).wt rfl rfl (by decide) rfl (by decide) rfl ((Fi_n (Or.inr (by decide))).trans rfl) hh
      have hh : pm_run PT n fr lo 242 (42, [some (.ref 162), some (.int (nI c)), some (.int ((v241 q cc gc (v229 q cc gc (fset h 162 0 (.int (nI 0)))) c).1))], [.int (Fi ((v241 q cc gc (v229 q cc gc (fset h 162 0 (.int (nI 0)))) c).2) 162 41), .ref 162], fset ((v241 q cc gc (v229 q cc gc (fset h 162 0 (.int (nI 0)))) c).2) 162 1 (.int (nI 0)), 198, sl) = some R := hh
      obtain ⟨n, fr1, lo1, r1, hh1, hh⟩ := rn_call (w := 2) (t := 269) rfl rfl hh
      have er11 := v269_ok (a := (Fi ((v241 q cc gc (v229 q cc gc (fset h 162 0 (.int (nI 0)))) c).2) 162 41)) (hc_f rfl rfl (by decide) rfl hc8) hh1
      subst er11
      obtain ⟨n, hh⟩ := rn_i rfl rfl rfl rfl hh
      have hh : pm_run PT n fr lo 242 (46, [some (.ref 162), some (.int (nI c)), some (.int ((v241 q cc gc (v229 q cc gc (fset h 162 0 (.int (nI 0)))) c).1))], [.long ((v269 q cc gc (Fi ((v241 q cc gc (v229 q cc gc (fset h 162 0 (.int (nI 0)))) c).2) 162 41)).toInt64), .ref 162], fset ((v241 q cc gc (v229 q cc gc (fset h 162 0 (.int (nI 0)))) c).2) 162 1 (.int (nI 0)), 198, sl) = some R := hh
      obtain ⟨n, fr1, lo1, r1, hh1, hh⟩ := rn_call (w := 0) (t := 167) rfl rfl hh
      obtain ⟨er12, hc13, hf14⟩ := v167_ok (v := ((v269 q cc gc (Fi ((v241 q cc gc (v229 q cc gc (fset h 162 0 (.int (nI 0)))) c).2) 162 41)).toInt64)) (hc_f rfl rfl (by decide) rfl hc8) hh1
      subst er12
      obtain ⟨n, hh⟩ := rn_i rfl rfl rfl rfl hh
      obtain ⟨n, hh⟩ := rn_i rfl rfl rfl rfl hh
      have hh : pm_run PT n fr lo 242 (51, [some (.ref 162), some (.int (nI c)), some (.int ((v241 q cc gc (v229 q cc gc (fset h 162 0 (.int (nI 0)))) c).1))], [.ref 162, .ref 162], v167 q cc gc (fset ((v241 q cc gc (v229 q cc gc (fset h 162 0 (.int (nI 0)))) c).2) 162 1 (.int (nI 0))) ((v269 q cc gc (Fi ((v241 q cc gc (v229 q cc gc (fset h 162 0 (.int (nI 0)))) c).2) 162 41)).toInt64), 198, sl) = some R := hh
      obtain ⟨n, hh⟩ := rn_gr hc13.wt rfl rfl (by decide) rfl (by decide) (show _ = some (2, ((171 : Nat) : Int), 1) from rfl) rfl hh
      obtain ⟨n, hh⟩ := rn_i rfl rfl rfl rfl hh
      have hh : pm_run PT n fr lo 242 (55, [some (.ref 162), some (.int (nI c)), some (.int ((v241 q cc gc (v229 q cc gc (fset h 162 0 (.int (nI 0)))) c).1))], [.int (nI c), .ref 171, .ref 162], v167 q cc gc (fset ((v241 q cc gc (v229 q cc gc (fset h 162 0 (.int (nI 0)))) c).2) 162 1 (.int (nI 0))) ((v269 q cc gc (Fi ((v241 q cc gc (v229 q cc gc (fset h 162 0 (.int (nI 0)))) c).2) 162 41)).toInt64), 198, sl) = some R := hh
      obtain ⟨n, hx15, hh⟩ := en_lu (t := c) (f := Ar ((v241 q cc gc (v229 q cc gc (fset h 162 0 (.int (nI 0)))) c).2) 171) (w := (Ar ((v241 q cc gc (v229 q cc gc (fset h 162 0 (.int (nI 0)))) c).2) 171) c) (nI_clamp (by omega)) hc13.wt rfl (by decide) rfl (by decide) ((Ar_e (hf14.1 171 rfl)).trans (Ar_f.trans rfl)) (fun _ => rfl) hh
      obtain ⟨n, hh⟩ := rn_i rfl rfl rfl rfl hh
      have hh : pm_run PT n fr lo 242 (57, [some (.ref 162), some (.int (nI c)), some (.int ((v241 q cc gc (v229 q cc gc (fset h 162 0 (.int (nI 0)))) c).1))], [.long (((Ar ((v241 q cc gc (v229 q cc gc (fset h 162 0 (.int (nI 0)))) c).2) 171) c).toInt64), .ref 162], v167 q cc gc (fset ((v241 q cc gc (v229 q cc gc (fset h 162 0 (.int (nI 0)))) c).2) 162 1 (.int (nI 0))) ((v269 q cc gc (Fi ((v241 q cc gc (v229 q cc gc (fset h 162 0 (.int (nI 0)))) c).2) 162 41)).toInt64), 198, sl) = some R := hh
      obtain ⟨n, fr1, lo1, r1, hh1, hh⟩ := rn_call (w := 0) (t := 167) rfl rfl hh
      obtain ⟨er16, hc17, hf18⟩ := v167_ok (v := (((Ar ((v241 q cc gc (v229 q cc gc (fset h 162 0 (.int (nI 0)))) c).2) 171) c).toInt64)) hc13 hh1
      subst er16
      obtain ⟨n, hh⟩ := rn_i rfl rfl rfl rfl hh
      have hh : pm_run PT n fr lo 242 (61, [some (.ref 162), some (.int (nI c)), some (.int ((v241 q cc gc (v229 q cc gc (fset h 162 0 (.int (nI 0)))) c).1))], [.int ((v241 q cc gc (v229 q cc gc (fset h 162 0 (.int (nI 0)))) c).1)], v167 q cc gc (v167 q cc gc (fset ((v241 q cc gc (v229 q cc gc (fset h 162 0 (.int (nI 0)))) c).2) 162 1 (.int (nI 0))) ((v269 q cc gc (Fi ((v241 q cc gc (v229 q cc gc (fset h 162 0 (.int (nI 0)))) c).2) 162 41)).toInt64)) (((Ar ((v241 q cc gc (v229 q cc gc (fset h 162 0 (.int (nI 0)))) c).2) 171) c).toInt64), 198, sl) = some R := hh
      have er19 : R = (some (.int ((v241 q cc gc (v229 q cc gc (fset h 162 0 (.int (nI 0)))) c).1)), v167 q cc gc (v167 q cc gc (fset ((v241 q cc gc (v229 q cc gc (fset h 162 0 (.int (nI 0)))) c).2) 162 1 (.int (nI 0))) ((v269 q cc gc (Fi ((v241 q cc gc (v229 q cc gc (fset h 162 0 (.int (nI 0)))) c).2) 162 41)).toInt64)) (((Ar ((v241 q cc gc (v229 q cc gc (fset h 162 0 (.int (nI 0)))) c).2) 171) c).toInt64), 198, sl) := (rn_ret rfl (Or.inl rfl) hh).2
      have ed : v242 q cc gc h c = ((v241 q cc gc (v229 q cc gc (fset h 162 0 (.int (nI 0)))) c).1, v167 q cc gc (v167 q cc gc (fset ((v241 q cc gc (v229 q cc gc (fset h 162 0 (.int (nI 0)))) c).2) 162 1 (.int (nI 0))) ((v269 q cc gc (Fi ((v241 q cc gc (v229 q cc gc (fset h 162 0 (.int (nI 0)))) c).2) 162 41)).toInt64)) (((Ar ((v241 q cc gc (v229 q cc gc (fset h 162 0 (.int (nI 0)))) c).2) 171) c).toInt64)) := (ct z2).trans ((ct z10).trans rfl)
      refine ⟨?_, ?_, ?_⟩ <;> rw [ed]
      · exact er19
      · exact hc17
      · exact (fr_g rfl rfl hf18 (fr_g rfl rfl hf14 (fr_f rfl rfl (fr_g rfl rfl hf9 (fr_g rfl rfl hf6 (fr_f rfl rfl fr_0))))))
    | false =>
      have hh := en_f z10 hh
      have hh : pm_run PT n fr lo 242 (29, [some (.ref 162), some (.int (nI c)), some (.int ((v241 q cc gc (v229 q cc gc (fset h 162 0 (.int (nI 0)))) c).1))], [], (v241 q cc gc (v229 q cc gc (fset h 162 0 (.int (nI 0)))) c).2, 198, sl) = some R := hh
      obtain ⟨n, hh⟩ := rn_i rfl rfl rfl rfl hh
      have hh : pm_run PT n fr lo 242 (31, [some (.ref 162), some (.int (nI c)), some (.int ((v241 q cc gc (v229 q cc gc (fset h 162 0 (.int (nI 0)))) c).1))], [.int (Int32.ofInt (-2))], (v241 q cc gc (v229 q cc gc (fset h 162 0 (.int (nI 0)))) c).2, 198, sl) = some R := hh
      have er20 : R = (some (.int (Int32.ofInt (-2))), (v241 q cc gc (v229 q cc gc (fset h 162 0 (.int (nI 0)))) c).2, 198, sl) := (rn_ret rfl (Or.inl rfl) hh).2
      have ed : v242 q cc gc h c = ((Int32.ofInt (-2)), (v241 q cc gc (v229 q cc gc (fset h 162 0 (.int (nI 0)))) c).2) := (ct z2).trans ((cf z10).trans rfl)
      refine ⟨?_, ?_, ?_⟩ <;> rw [ed]
      · exact er20
      · exact hc8
      · exact (fr_g rfl rfl hf9 (fr_g rfl rfl hf6 (fr_f rfl rfl fr_0)))
  | false =>
    have hh := en_f z2 hh
    have hh : pm_run PT n fr lo 242 (13, [some (.ref 162), some (.int (nI c)), none], [], fset h 162 0 (.int (nI 0)), 198, sl) = some R := hh
    have y21 := of_decide_eq_false z2
    obtain ⟨n, hh⟩ := rn_i rfl rfl rfl rfl hh
    have hh : pm_run PT n fr lo 242 (14, [some (.ref 162), some (.int (nI c)), none], [.int (Int32.ofInt (-1))], fset h 162 0 (.int (nI 0)), 198, sl) = some R := hh
    have er22 : R = (some (.int (Int32.ofInt (-1))), fset h 162 0 (.int (nI 0)), 198, sl) := (rn_ret rfl (Or.inl rfl) hh).2
    have ed : v242 q cc gc h c = ((Int32.ofInt (-1)), fset h 162 0 (.int (nI 0))) := (cf z2).trans rfl
    refine ⟨?_, ?_, ?_⟩ <;> rw [ed]
    · exact er22
    · exact (hc_f rfl rfl (by decide) rfl hw)
    · exact (fr_f rfl rfl fr_0)
def v243_27b (q : QT) (cc gc : Nat) (h : pm_H) (m1 : Nat) (m2 : Nat) (i : Nat) (x3 : Int32) (x4 : Int32) : Int32 × Int32 × pm_H := cond (pm_cmp .ne ((Ar h 170) (78 + i)) (nI m1)) (x3, x4, h) (cond (v218 q cc gc (Ar h 166) (Ar h 170) i) (cond (pm_cmp .le ((v241 q cc gc (aset (v229 q cc gc h) 171 96 (upd (Ar (v229 q cc gc h) 171) (78 + i) (nI m2))) m2).1) 0) x3 (cond (pm_cmp .ge ((v241 q cc gc (aset (v229 q cc gc h) 171 96 (upd (Ar (v229 q cc gc h) 171) (78 + i) (nI m2))) m2).1) x4) x3 (nI i)), cond (pm_cmp .le ((v241 q cc gc (aset (v229 q cc gc h) 171 96 (upd (Ar (v229 q cc gc h) 171) (78 + i) (nI m2))) m2).1) 0) x4 (cond (pm_cmp .ge ((v241 q cc gc (aset (v229 q cc gc h) 171 96 (upd (Ar (v229 q cc gc h) 171) (78 + i) (nI m2))) m2).1) x4) x4 ((v241 q cc gc (aset (v229 q cc gc h) 171 96 (upd (Ar (v229 q cc gc h) 171) (78 + i) (nI m2))) m2).1)), (v241 q cc gc (aset (v229 q cc gc h) 171 96 (upd (Ar (v229 q cc gc h) 171) (78 + i) (nI m2))) m2).2) (x3, x4, h))
def v243_27 (q : QT) (cc gc : Nat) (m1 : Nat) (m2 : Nat) (j i : Nat) (a : Int32 × Int32 × pm_H) : Int32 × Int32 × pm_H := lp (fun i a => v243_27b q cc gc a.2.2 m1 m2 i a.1 a.2.1) j i a
theorem v243_27_e {n fr lo sl cc gc : Nat} {q : QT} {h : pm_H} {R : pm_Rs} {m1 : Nat} {m2 : Nat} {i : Nat} {x3 : Int32} {x4 : Int32} {o6 : Option Value} (hw : HC q cc gc h) (h_m1 : m1 < 10000) (h_m2 : m2 < 10000) (hi : gc ≤ i) (hI : i < 1000000) (hh : pm_run PT n fr lo 243 (27, [some (.ref 162), some (.int (nI m1)), some (.int (nI m2)), some (.int x3), some (.int x4), some (.int (nI i)), o6], [], h, 198, sl) = some R) : ∃ m, pm_run PT m fr lo 243 (110, [some (.ref 162), some (.int (nI m1)), some (.int (nI m2)), some (.int x3), some (.int x4), some (.int (nI i)), o6], [], h, 198, sl) = some R := by
  have hcc := hw.cb
  have hgc := hw.gb
  have hzr := hw.zr
  obtain ⟨n, hh⟩ := rn_i rfl rfl rfl rfl hh
  obtain ⟨n, hh⟩ := rn_i rfl rfl rfl rfl hh
  have hh : pm_run PT n fr lo 243 (30, [some (.ref 162), some (.int (nI m1)), some (.int (nI m2)), some (.int x3), some (.int x4), some (.int (nI i)), o6], [.ref 162, .int (nI i)], h, 198, sl) = some R := hh
  obtain ⟨n, hh⟩ := rn_gi (x := nI gc) hw.wt rfl rfl (by decide) rfl (by decide) rfl hw.m4 hh
  have hh : pm_run PT n fr lo 243 (33, [some (.ref 162), some (.int (nI m1)), some (.int (nI m2)), some (.int x3), some (.int x4), some (.int (nI i)), o6], [.int (nI gc), .int (nI i)], h, 198, sl) = some R := hh
  obtain ⟨n, hh⟩ := en_cn (cc := .ge) (off := 77) (t := 110) (b := decide (gc ≤ i)) (hI_ge (by omega) (by omega)) rfl rfl hh
  have hh := en_t (show decide (gc ≤ i) = true from decide_eq_true (by omega)) hh
  have hh : pm_run PT n fr lo 243 (110, [some (.ref 162), some (.int (nI m1)), some (.int (nI m2)), some (.int x3), some (.int x4), some (.int (nI i)), o6], [], h, 198, sl) = some R := hh
  exact ⟨n, hh⟩
theorem v243_27_s {n fr lo sl cc gc : Nat} {q : QT} {h : pm_H} {R : pm_Rs} {m1 : Nat} {m2 : Nat} {i : Nat} {x3 : Int32} {x4 : Int32} {o6 : Option Value} (hw : HC q cc gc h) (h_m1 : m1 < 10000) (h_m2 : m2 < 10000) (hi : i < gc) (hI : i < 1000000) (hh : pm_run PT n fr lo 243 (27, [some (.ref 162), some (.int (nI m1)), some (.int (nI m2)), some (.int x3), some (.int x4), some (.int (nI i)), o6], [], h, 198, sl) = some R) : ∃ m w6, HC q cc gc ((v243_27b q cc gc h m1 m2 i x3 x4).2.2) ∧ frm [162, 171] [(162, 41)] h ((v243_27b q cc gc h m1 m2 i x3 x4).2.2) ∧ pm_run PT m fr lo 243 (27, [some (.ref 162), some (.int (nI m1)), some (.int (nI m2)), some (.int ((v243_27b q cc gc h m1 m2 i x3 x4).1)), some (.int ((v243_27b q cc gc h m1 m2 i x3 x4).2.1)), some (.int (nI (i + 1))), w6], [], (v243_27b q cc gc h m1 m2 i x3 x4).2.2, 198, sl) = some R := by
  have hcc := hw.cb
  have hgc := hw.gb
  have hzr := hw.zr
  obtain ⟨n, hh⟩ := rn_i rfl rfl rfl rfl hh
  obtain ⟨n, hh⟩ := rn_i rfl rfl rfl rfl hh
  have hh : pm_run PT n fr lo 243 (30, [some (.ref 162), some (.int (nI m1)), some (.int (nI m2)), some (.int x3), some (.int x4), some (.int (nI i)), o6], [.ref 162, .int (nI i)], h, 198, sl) = some R := hh
  obtain ⟨n, hh⟩ := rn_gi (x := nI gc) hw.wt rfl rfl (by decide) rfl (by decide) rfl hw.m4 hh
  have hh : pm_run PT n fr lo 243 (33, [some (.ref 162), some (.int (nI m1)), some (.int (nI m2)), some (.int x3), some (.int x4), some (.int (nI i)), o6], [.int (nI gc), .int (nI i)], h, 198, sl) = some R := hh
  obtain ⟨n, hh⟩ := en_cn (cc := .ge) (off := 77) (t := 110) (b := decide (gc ≤ i)) (hI_ge (by omega) (by omega)) rfl rfl hh
  have hh := en_f (show decide (gc ≤ i) = false from decide_eq_false (by omega)) hh
  have hh : pm_run PT n fr lo 243 (36, [some (.ref 162), some (.int (nI m1)), some (.int (nI m2)), some (.int x3), some (.int x4), some (.int (nI i)), o6], [], h, 198, sl) = some R := hh
  obtain ⟨n, hh⟩ := rn_i rfl rfl rfl rfl hh
  have hh : pm_run PT n fr lo 243 (37, [some (.ref 162), some (.int (nI m1)), some (.int (nI m2)), some (.int x3), some (.int x4), some (.int (nI i)), o6], [.ref 162], h, 198, sl) = some R := hh
  obtain ⟨n, hh⟩ := rn_gr hw.wt rfl rfl (by decide) rfl (by decide) (show _ = some (2, ((170 : Nat) : Int), 1) from rfl) rfl hh
  obtain ⟨n, hh⟩ := rn_i rfl rfl rfl rfl hh
  obtain ⟨n, hh⟩ := rn_i rfl rfl rfl rfl hh
  have hh : pm_run PT n fr lo 243 (44, [some (.ref 162), some (.int (nI m1)), some (.int (nI m2)), some (.int x3), some (.int x4), some (.int (nI i)), o6], [.int (nI i), .int (nI 78), .ref 170], h, 198, sl) = some R := hh
  obtain ⟨n, hh⟩ := en_add rfl hh
  have hh : pm_run PT n fr lo 243 (45, [some (.ref 162), some (.int (nI m1)), some (.int (nI m2)), some (.int x3), some (.int x4), some (.int (nI i)), o6], [.int (nI (78 + i)), .ref 170], h, 198, sl) = some R := hh
  have hh : pm_run PT n fr lo 243 (45, [some (.ref 162), some (.int (nI m1)), some (.int (nI m2)), some (.int x3), some (.int x4), some (.int (nI i)), o6], [.int (nI (78 + i)), .ref 170], h, 198, sl) = some R := hh
  obtain ⟨n, hx3, hh⟩ := en_lu (t := 78 + i) (f := Ar h 170) (w := (Ar h 170) (78 + i)) (nI_clamp (by omega)) hw.wt rfl (by decide) rfl (by decide) rfl (fun _ => rfl) hh
  obtain ⟨n, hh⟩ := rn_i rfl rfl rfl rfl hh
  have hh : pm_run PT n fr lo 243 (47, [some (.ref 162), some (.int (nI m1)), some (.int (nI m2)), some (.int x3), some (.int x4), some (.int (nI i)), o6], [.int (nI m1), .int ((Ar h 170) (78 + i))], h, 198, sl) = some R := hh
  obtain ⟨n, hh⟩ := en_cn (cc := .ne) (off := 57) (t := 104) (b := pm_cmp .ne ((Ar h 170) (78 + i)) (nI m1)) rfl rfl rfl hh
  cases z4 : pm_cmp .ne ((Ar h 170) (78 + i)) (nI m1) with
  | true =>
    have hh := en_t z4 hh
    have hh : pm_run PT n fr lo 243 (104, [some (.ref 162), some (.int (nI m1)), some (.int (nI m2)), some (.int x3), some (.int x4), some (.int (nI i)), o6], [], h, 198, sl) = some R := hh
    have hh : pm_run PT n fr lo 243 (104, [some (.ref 162), some (.int (nI m1)), some (.int (nI m2)), some (.int x3), some (.int x4), some (.int (nI i)), o6], [], h, 198, sl) = some R := hh
    obtain ⟨n, hh⟩ := en_inc (x := i) (c := 1) (j := 5) rfl rfl (by decide) hh
    have hh : pm_run PT n fr lo 243 (107, [some (.ref 162), some (.int (nI m1)), some (.int (nI m2)), some (.int x3), some (.int x4), some (.int (nI (i + 1))), o6], [], h, 198, sl) = some R := hh
    obtain ⟨n, hh⟩ := rn_i rfl rfl rfl rfl hh
    have ed : v243_27b q cc gc h m1 m2 i x3 x4 = (x3, x4, h) := (ct z4).trans rfl
    rw [ed]
    exact ⟨n, o6, hw, fr_0, hh⟩
  | false =>
    have hh := en_f z4 hh
    have hh : pm_run PT n fr lo 243 (50, [some (.ref 162), some (.int (nI m1)), some (.int (nI m2)), some (.int x3), some (.int x4), some (.int (nI i)), o6], [], h, 198, sl) = some R := hh
    obtain ⟨n, hh⟩ := rn_i rfl rfl rfl rfl hh
    obtain ⟨n, hh⟩ := rn_i rfl rfl rfl rfl hh
    have hh : pm_run PT n fr lo 243 (52, [some (.ref 162), some (.int (nI m1)), some (.int (nI m2)), some (.int x3), some (.int x4), some (.int (nI i)), o6], [.ref 162, .ref 162], h, 198, sl) = some R := hh
    obtain ⟨n, hh⟩ := rn_gr hw.wt rfl rfl (by decide) rfl (by decide) (show _ = some (2, ((170 : Nat) : Int), 1) from rfl) rfl hh
    obtain ⟨n, hh⟩ := rn_i rfl rfl rfl rfl hh
    have hh : pm_run PT n fr lo 243 (57, [some (.ref 162), some (.int (nI m1)), some (.int (nI m2)), some (.int x3), some (.int x4), some (.int (nI i)), o6], [.int (nI i), .ref 170, .ref 162], h, 198, sl) = some R := hh
    obtain ⟨n, fr1, lo1, r1, hh1, hh⟩ := rn_call (w := 0) (t := 218) rfl rfl hh
    have er5 := v218_ok (g := i) hw (by omega) hh1
    subst er5
    have hh : pm_run PT n fr lo 243 (60, [some (.ref 162), some (.int (nI m1)), some (.int (nI m2)), some (.int x3), some (.int x4), some (.int (nI i)), o6], [.int (cond (v218 q cc gc (Ar h 166) (Ar h 170) i) 1 0)], h, 198, sl) = some R := hh
    obtain ⟨n, hh⟩ := en_zn (cc := .eq) (off := 44) (t := 104) (b := !(v218 q cc gc (Ar h 166) (Ar h 170) i)) eb_eq rfl rfl hh
    cases z6 : v218 q cc gc (Ar h 166) (Ar h 170) i with
    | true =>
      have hh := en_nt z6 hh
      have hh : pm_run PT n fr lo 243 (63, [some (.ref 162), some (.int (nI m1)), some (.int (nI m2)), some (.int x3), some (.int x4), some (.int (nI i)), o6], [], h, 198, sl) = some R := hh
      obtain ⟨n, hh⟩ := rn_i rfl rfl rfl rfl hh
      have hh : pm_run PT n fr lo 243 (64, [some (.ref 162), some (.int (nI m1)), some (.int (nI m2)), some (.int x3), some (.int x4), some (.int (nI i)), o6], [.ref 162], h, 198, sl) = some R := hh
      obtain ⟨n, fr1, lo1, r1, hh1, hh⟩ := rn_call (w := 0) (t := 229) rfl rfl hh
      obtain ⟨er7, hc8, hf9⟩ := v229_ok hw hh1
      subst er7
      obtain ⟨n, hh⟩ := rn_i rfl rfl rfl rfl hh
      have hh : pm_run PT n fr lo 243 (68, [some (.ref 162), some (.int (nI m1)), some (.int (nI m2)), some (.int x3), some (.int x4), some (.int (nI i)), o6], [.ref 162], v229 q cc gc h, 198, sl) = some R := hh
      obtain ⟨n, hh⟩ := rn_gr hc8.wt rfl rfl (by decide) rfl (by decide) (show _ = some (2, ((171 : Nat) : Int), 1) from rfl) rfl hh
      obtain ⟨n, hh⟩ := rn_i rfl rfl rfl rfl hh
      obtain ⟨n, hh⟩ := rn_i rfl rfl rfl rfl hh
      have hh : pm_run PT n fr lo 243 (75, [some (.ref 162), some (.int (nI m1)), some (.int (nI m2)), some (.int x3), some (.int x4), some (.int (nI i)), o6], [.int (nI i), .int (nI 78), .ref 171], v229 q cc gc h, 198, sl) = some R := hh
      obtain ⟨n, hh⟩ := en_add rfl hh
      have hh : pm_run PT n fr lo 243 (76, [some (.ref 162), some (.int (nI m1)), some (.int (nI m2)), some (.int x3), some (.int x4), some (.int (nI i)), o6], [.int (nI (78 + i)), .ref 171], v229 q cc gc h, 198, sl) = some R := hh
      obtain ⟨n, hh⟩ := rn_i rfl rfl rfl rfl hh
      have hh : pm_run PT n fr lo 243 (77, [some (.ref 162), some (.int (nI m1)), some (.int (nI m2)), some (.int x3), some (.int x4), some (.int (nI i)), o6], [.int (nI m2), .int (nI (78 + i)), .ref 171], v229 q cc gc h, 198, sl) = some R := hh
      obtain ⟨n, hx10, hh⟩ := en_st (t := 78 + i) (f := Ar (v229 q cc gc h) 171) (nI_clamp (by omega)) hc8.wt rfl (by decide) rfl (by decide) rfl hh
      obtain ⟨n, hh⟩ := rn_i rfl rfl rfl rfl hh
      obtain ⟨n, hh⟩ := rn_i rfl rfl rfl rfl hh
      have hh : pm_run PT n fr lo 243 (80, [some (.ref 162), some (.int (nI m1)), some (.int (nI m2)), some (.int x3), some (.int x4), some (.int (nI i)), o6], [.int (nI m2), .ref 162], aset (v229 q cc gc h) 171 96 (upd (Ar (v229 q cc gc h) 171) (78 + i) (nI m2)), 198, sl) = some R := hh
      obtain ⟨n, fr1, lo1, r1, hh1, hh⟩ := rn_call (w := 0) (t := 241) rfl rfl hh
      obtain ⟨er11, hc12, hf13⟩ := v241_ok (c := m2) (hc_a rfl rfl hc8) (by omega) hh1
      subst er11
      obtain ⟨n, hh⟩ := rn_i rfl rfl rfl rfl hh
      obtain ⟨n, hh⟩ := rn_i rfl rfl rfl rfl hh
      have hh : pm_run PT n fr lo 243 (87, [some (.ref 162), some (.int (nI m1)), some (.int (nI m2)), some (.int x3), some (.int x4), some (.int (nI i)), some (.int ((v241 q cc gc (aset (v229 q cc gc h) 171 96 (upd (Ar (v229 q cc gc h) 171) (78 + i) (nI m2))) m2).1))], [.int ((v241 q cc gc (aset (v229 q cc gc h) 171 96 (upd (Ar (v229 q cc gc h) 171) (78 + i) (nI m2))) m2).1)], (v241 q cc gc (aset (v229 q cc gc h) 171 96 (upd (Ar (v229 q cc gc h) 171) (78 + i) (nI m2))) m2).2, 198, sl) = some R := hh
      obtain ⟨n, hh⟩ := en_zn (cc := .le) (off := 17) (t := 104) (b := pm_cmp .le ((v241 q cc gc (aset (v229 q cc gc h) 171 96 (upd (Ar (v229 q cc gc h) 171) (78 + i) (nI m2))) m2).1) 0) rfl rfl rfl hh
      have hj17 : ∃ mJ, pm_run PT mJ fr lo 243 (cond (pm_cmp .le ((v241 q cc gc (aset (v229 q cc gc h) 171 96 (upd (Ar (v229 q cc gc h) 171) (78 + i) (nI m2))) m2).1) 0) (104, [some (.ref 162), some (.int (nI m1)), some (.int (nI m2)), some (.int x3), some (.int x4), some (.int (nI i)), some (.int ((v241 q cc gc (aset (v229 q cc gc h) 171 96 (upd (Ar (v229 q cc gc h) 171) (78 + i) (nI m2))) m2).1))], [], (v241 q cc gc (aset (v229 q cc gc h) 171 96 (upd (Ar (v229 q cc gc h) 171) (78 + i) (nI m2))) m2).2, 198, sl) (104, [some (.ref 162), some (.int (nI m1)), some (.int (nI m2)), some (.int (cond (pm_cmp .ge ((v241 q cc gc (aset (v229 q cc gc h) 171 96 (upd (Ar (v229 q cc gc h) 171) (78 + i) (nI m2))) m2).1) x4) x3 (nI i))), some (.int (cond (pm_cmp .ge ((v241 q cc gc (aset (v229 q cc gc h) 171 96 (upd (Ar (v229 q cc gc h) 171) (78 + i) (nI m2))) m2).1) x4) x4 ((v241 q cc gc (aset (v229 q cc gc h) 171 96 (upd (Ar (v229 q cc gc h) 171) (78 + i) (nI m2))) m2).1))), some (.int (nI i)), some (.int ((v241 q cc gc (aset (v229 q cc gc h) 171 96 (upd (Ar (v229 q cc gc h) 171) (78 + i) (nI m2))) m2).1))], [], (v241 q cc gc (aset (v229 q cc gc h) 171 96 (upd (Ar (v229 q cc gc h) 171) (78 + i) (nI m2))) m2).2, 198, sl)) = some R := en_J (fun z14 => by
          have hh := en_t z14 hh
          have hh : pm_run PT n fr lo 243 (104, [some (.ref 162), some (.int (nI m1)), some (.int (nI m2)), some (.int x3), some (.int x4), some (.int (nI i)), some (.int ((v241 q cc gc (aset (v229 q cc gc h) 171 96 (upd (Ar (v229 q cc gc h) 171) (78 + i) (nI m2))) m2).1))], [], (v241 q cc gc (aset (v229 q cc gc h) 171 96 (upd (Ar (v229 q cc gc h) 171) (78 + i) (nI m2))) m2).2, 198, sl) = some R := hh
          exact ⟨n, hh⟩) (fun z14 => by
          have hh := en_f z14 hh
          have hh : pm_run PT n fr lo 243 (90, [some (.ref 162), some (.int (nI m1)), some (.int (nI m2)), some (.int x3), some (.int x4), some (.int (nI i)), some (.int ((v241 q cc gc (aset (v229 q cc gc h) 171 96 (upd (Ar (v229 q cc gc h) 171) (78 + i) (nI m2))) m2).1))], [], (v241 q cc gc (aset (v229 q cc gc h) 171 96 (upd (Ar (v229 q cc gc h) 171) (78 + i) (nI m2))) m2).2, 198, sl) = some R := hh
          obtain ⟨n, hh⟩ := rn_i rfl rfl rfl rfl hh
          obtain ⟨n, hh⟩ := rn_i rfl rfl rfl rfl hh
          have hh : pm_run PT n fr lo 243 (94, [some (.ref 162), some (.int (nI m1)), some (.int (nI m2)), some (.int x3), some (.int x4), some (.int (nI i)), some (.int ((v241 q cc gc (aset (v229 q cc gc h) 171 96 (upd (Ar (v229 q cc gc h) 171) (78 + i) (nI m2))) m2).1))], [.int x4, .int ((v241 q cc gc (aset (v229 q cc gc h) 171 96 (upd (Ar (v229 q cc gc h) 171) (78 + i) (nI m2))) m2).1)], (v241 q cc gc (aset (v229 q cc gc h) 171 96 (upd (Ar (v229 q cc gc h) 171) (78 + i) (nI m2))) m2).2, 198, sl) = some R := hh
          obtain ⟨n, hh⟩ := en_cn (cc := .ge) (off := 10) (t := 104) (b := pm_cmp .ge ((v241 q cc gc (aset (v229 q cc gc h) 171 96 (upd (Ar (v229 q cc gc h) 171) (78 + i) (nI m2))) m2).1) x4) rfl rfl rfl hh
          have hj16 : ∃ mJ, pm_run PT mJ fr lo 243 (cond (pm_cmp .ge ((v241 q cc gc (aset (v229 q cc gc h) 171 96 (upd (Ar (v229 q cc gc h) 171) (78 + i) (nI m2))) m2).1) x4) (104, [some (.ref 162), some (.int (nI m1)), some (.int (nI m2)), some (.int x3), some (.int x4), some (.int (nI i)), some (.int ((v241 q cc gc (aset (v229 q cc gc h) 171 96 (upd (Ar (v229 q cc gc h) 171) (78 + i) (nI m2))) m2).1))], [], (v241 q cc gc (aset (v229 q cc gc h) 171 96 (upd (Ar (v229 q cc gc h) 171) (78 + i) (nI m2))) m2).2, 198, sl) (104, [some (.ref 162), some (.int (nI m1)), some (.int (nI m2)), some (.int (nI i)), some (.int ((v241 q cc gc (aset (v229 q cc gc h) 171 96 (upd (Ar (v229 q cc gc h) 171) (78 + i) (nI m2))) m2).1)), some (.int (nI i)), some (.int ((v241 q cc gc (aset (v229 q cc gc h) 171 96 (upd (Ar (v229 q cc gc h) 171) (78 + i) (nI m2))) m2).1))], [], (v241 q cc gc (aset (v229 q cc gc h) 171 96 (upd (Ar (v229 q cc gc h) 171) (78 + i) (nI m2))) m2).2, 198, sl)) = some R := en_J (fun z15 => by
              have hh := en_t z15 hh
              have hh : pm_run PT n fr lo 243 (104, [some (.ref 162), some (.int (nI m1)), some (.int (nI m2)), some (.int x3), some (.int x4), some (.int (nI i)), some (.int ((v241 q cc gc (aset (v229 q cc gc h) 171 96 (upd (Ar (v229 q cc gc h) 171) (78 + i) (nI m2))) m2).1))], [], (v241 q cc gc (aset (v229 q cc gc h) 171 96 (upd (Ar (v229 q cc gc h) 171) (78 + i) (nI m2))) m2).2, 198, sl) = some R := hh
              exact ⟨n, hh⟩) (fun z15 => by
              have hh := en_f z15 hh
              have hh : pm_run PT n fr lo 243 (97, [some (.ref 162), some (.int (nI m1)), some (.int (nI m2)), some (.int x3), some (.int x4), some (.int (nI i)), some (.int ((v241 q cc gc (aset (v229 q cc gc h) 171 96 (upd (Ar (v229 q cc gc h) 171) (78 + i) (nI m2))) m2).1))], [], (v241 q cc gc (aset (v229 q cc gc h) 171 96 (upd (Ar (v229 q cc gc h) 171) (78 + i) (nI m2))) m2).2, 198, sl) = some R := hh
              obtain ⟨n, hh⟩ := rn_i rfl rfl rfl rfl hh
              obtain ⟨n, hh⟩ := rn_i rfl rfl rfl rfl hh
              obtain ⟨n, hh⟩ := rn_i rfl rfl rfl rfl hh
              obtain ⟨n, hh⟩ := rn_i rfl rfl rfl rfl hh
              exact ⟨n, hh⟩)
          obtain ⟨n, hh⟩ := hj16
          rw [show (cond (pm_cmp .ge ((v241 q cc gc (aset (v229 q cc gc h) 171 96 (upd (Ar (v229 q cc gc h) 171) (78 + i) (nI m2))) m2).1) x4) (104, [some (.ref 162), some (.int (nI m1)), some (.int (nI m2)), some (.int x3), some (.int x4), some (.int (nI i)), some (.int ((v241 q cc gc (aset (v229 q cc gc h) 171 96 (upd (Ar (v229 q cc gc h) 171) (78 + i) (nI m2))) m2).1))], [], (v241 q cc gc (aset (v229 q cc gc h) 171 96 (upd (Ar (v229 q cc gc h) 171) (78 + i) (nI m2))) m2).2, 198, sl) (104, [some (.ref 162), some (.int (nI m1)), some (.int (nI m2)), some (.int (nI i)), some (.int ((v241 q cc gc (aset (v229 q cc gc h) 171 96 (upd (Ar (v229 q cc gc h) 171) (78 + i) (nI m2))) m2).1)), some (.int (nI i)), some (.int ((v241 q cc gc (aset (v229 q cc gc h) 171 96 (upd (Ar (v229 q cc gc h) 171) (78 + i) (nI m2))) m2).1))], [], (v241 q cc gc (aset (v229 q cc gc h) 171 96 (upd (Ar (v229 q cc gc h) 171) (78 + i) (nI m2))) m2).2, 198, sl) : pm_St) = (104, [some (.ref 162), some (.int (nI m1)), some (.int (nI m2)), some (.int (cond (pm_cmp .ge ((v241 q cc gc (aset (v229 q cc gc h) 171 96 (upd (Ar (v229 q cc gc h) 171) (78 + i) (nI m2))) m2).1) x4) x3 (nI i))), some (.int (cond (pm_cmp .ge ((v241 q cc gc (aset (v229 q cc gc h) 171 96 (upd (Ar (v229 q cc gc h) 171) (78 + i) (nI m2))) m2).1) x4) x4 ((v241 q cc gc (aset (v229 q cc gc h) 171 96 (upd (Ar (v229 q cc gc h) 171) (78 + i) (nI m2))) m2).1))), some (.int (nI i)), some (.int ((v241 q cc gc (aset (v229 q cc gc h) 171 96 (upd (Ar (v229 q cc gc h) 171) (78 + i) (nI m2))) m2).1))], [], (v241 q cc gc (aset (v229 q cc gc h) 171 96 (upd (Ar (v229 q cc gc h) 171) (78 + i) (nI m2))) m2).2, 198, sl) from by cases (pm_cmp .ge ((v241 q cc gc (aset (v229 q cc gc h) 171 96 (upd (Ar (v229 q cc gc h) 171) (78 + i) (nI m2))) m2).1) x4) <;> rfl] at hh
          exact ⟨n, hh⟩)
      obtain ⟨n, hh⟩ := hj17
      rw [show (cond (pm_cmp .le ((v241 q cc gc (aset (v229 q cc gc h) 171 96 (upd (Ar (v229 q cc gc h) 171) (78 + i) (nI m2))) m2).1) 0) (104, [some (.ref 162), some (.int (nI m1)), some (.int (nI m2)), some (.int x3), some (.int x4), some (.int (nI i)), some (.int ((v241 q cc gc (aset (v229 q cc gc h) 171 96 (upd (Ar (v229 q cc gc h) 171) (78 + i) (nI m2))) m2).1))], [], (v241 q cc gc (aset (v229 q cc gc h) 171 96 (upd (Ar (v229 q cc gc h) 171) (78 + i) (nI m2))) m2).2, 198, sl) (104, [some (.ref 162), some (.int (nI m1)), some (.int (nI m2)), some (.int (cond (pm_cmp .ge ((v241 q cc gc (aset (v229 q cc gc h) 171 96 (upd (Ar (v229 q cc gc h) 171) (78 + i) (nI m2))) m2).1) x4) x3 (nI i))), some (.int (cond (pm_cmp .ge ((v241 q cc gc (aset (v229 q cc gc h) 171 96 (upd (Ar (v229 q cc gc h) 171) (78 + i) (nI m2))) m2).1) x4) x4 ((v241 q cc gc (aset (v229 q cc gc h) 171 96 (upd (Ar (v229 q cc gc h) 171) (78 + i) (nI m2))) m2).1))), some (.int (nI i)), some (.int ((v241 q cc gc (aset (v229 q cc gc h) 171 96 (upd (Ar (v229 q cc gc h) 171) (78 + i) (nI m2))) m2).1))], [], (v241 q cc gc (aset (v229 q cc gc h) 171 96 (upd (Ar (v229 q cc gc h) 171) (78 + i) (nI m2))) m2).2, 198, sl) : pm_St) = (104, [some (.ref 162), some (.int (nI m1)), some (.int (nI m2)), some (.int (cond (pm_cmp .le ((v241 q cc gc (aset (v229 q cc gc h) 171 96 (upd (Ar (v229 q cc gc h) 171) (78 + i) (nI m2))) m2).1) 0) x3 (cond (pm_cmp .ge ((v241 q cc gc (aset (v229 q cc gc h) 171 96 (upd (Ar (v229 q cc gc h) 171) (78 + i) (nI m2))) m2).1) x4) x3 (nI i)))), some (.int (cond (pm_cmp .le ((v241 q cc gc (aset (v229 q cc gc h) 171 96 (upd (Ar (v229 q cc gc h) 171) (78 + i) (nI m2))) m2).1) 0) x4 (cond (pm_cmp .ge ((v241 q cc gc (aset (v229 q cc gc h) 171 96 (upd (Ar (v229 q cc gc h) 171) (78 + i) (nI m2))) m2).1) x4) x4 ((v241 q cc gc (aset (v229 q cc gc h) 171 96 (upd (Ar (v229 q cc gc h) 171) (78 + i) (nI m2))) m2).1)))), some (.int (nI i)), some (.int ((v241 q cc gc (aset (v229 q cc gc h) 171 96 (upd (Ar (v229 q cc gc h) 171) (78 + i) (nI m2))) m2).1))], [], (v241 q cc gc (aset (v229 q cc gc h) 171 96 (upd (Ar (v229 q cc gc h) 171) (78 + i) (nI m2))) m2).2, 198, sl) from by cases (pm_cmp .le ((v241 q cc gc (aset (v229 q cc gc h) 171 96 (upd (Ar (v229 q cc gc h) 171) (78 + i) (nI m2))) m2).1) 0) <;> rfl] at hh
      have hh : pm_run PT n fr lo 243 (104, [some (.ref 162), some (.int (nI m1)), some (.int (nI m2)), some (.int (cond (pm_cmp .le ((v241 q cc gc (aset (v229 q cc gc h) 171 96 (upd (Ar (v229 q cc gc h) 171) (78 + i) (nI m2))) m2).1) 0) x3 (cond (pm_cmp .ge ((v241 q cc gc (aset (v229 q cc gc h) 171 96 (upd (Ar (v229 q cc gc h) 171) (78 + i) (nI m2))) m2).1) x4) x3 (nI i)))), some (.int (cond (pm_cmp .le ((v241 q cc gc (aset (v229 q cc gc h) 171 96 (upd (Ar (v229 q cc gc h) 171) (78 + i) (nI m2))) m2).1) 0) x4 (cond (pm_cmp .ge ((v241 q cc gc (aset (v229 q cc gc h) 171 96 (upd (Ar (v229 q cc gc h) 171) (78 + i) (nI m2))) m2).1) x4) x4 ((v241 q cc gc (aset (v229 q cc gc h) 171 96 (upd (Ar (v229 q cc gc h) 171) (78 + i) (nI m2))) m2).1)))), some (.int (nI i)), some (.int ((v241 q cc gc (aset (v229 q cc gc h) 171 96 (upd (Ar (v229 q cc gc h) 171) (78 + i) (nI m2))) m2).1))], [], (v241 q cc gc (aset (v229 q cc gc h) 171 96 (upd (Ar (v229 q cc gc h) 171) (78 + i) (nI m2))) m2).2, 198, sl) = some R := hh
      obtain ⟨n, hh⟩ := en_inc (x := i) (c := 1) (j := 5) rfl rfl (by decide) hh
      have hh : pm_run PT n fr lo 243 (107, [some (.ref 162), some (.int (nI m1)), some (.int (nI m2)), some (.int (cond (pm_cmp .le ((v241 q cc gc (aset (v229 q cc gc h) 171 96 (upd (Ar (v229 q cc gc h) 171) (78 + i) (nI m2))) m2).1) 0) x3 (cond (pm_cmp .ge ((v241 q cc gc (aset (v229 q cc gc h) 171 96 (upd (Ar (v229 q cc gc h) 171) (78 + i) (nI m2))) m2).1) x4) x3 (nI i)))), some (.int (cond (pm_cmp .le ((v241 q cc gc (aset (v229 q cc gc h) 171 96 (upd (Ar (v229 q cc gc h) 171) (78 + i) (nI m2))) m2).1) 0) x4 (cond (pm_cmp .ge ((v241 q cc gc (aset (v229 q cc gc h) 171 96 (upd (Ar (v229 q cc gc h) 171) (78 + i) (nI m2))) m2).1) x4) x4 ((v241 q cc gc (aset (v229 q cc gc h) 171 96 (upd (Ar (v229 q cc gc h) 171) (78 + i) (nI m2))) m2).1)))), some (.int (nI (i + 1))), some (.int ((v241 q cc gc (aset (v229 q cc gc h) 171 96 (upd (Ar (v229 q cc gc h) 171) (78 + i) (nI m2))) m2).1))], [], (v241 q cc gc (aset (v229 q cc gc h) 171 96 (upd (Ar (v229 q cc gc h) 171) (78 + i) (nI m2))) m2).2, 198, sl) = some R := hh
      obtain ⟨n, hh⟩ := rn_i rfl rfl rfl rfl hh
      have ed : v243_27b q cc gc h m1 m2 i x3 x4 = (cond (pm_cmp .le ((v241 q cc gc (aset (v229 q cc gc h) 171 96 (upd (Ar (v229 q cc gc h) 171) (78 + i) (nI m2))) m2).1) 0) x3 (cond (pm_cmp .ge ((v241 q cc gc (aset (v229 q cc gc h) 171 96 (upd (Ar (v229 q cc gc h) 171) (78 + i) (nI m2))) m2).1) x4) x3 (nI i)), cond (pm_cmp .le ((v241 q cc gc (aset (v229 q cc gc h) 171 96 (upd (Ar (v229 q cc gc h) 171) (78 + i) (nI m2))) m2).1) 0) x4 (cond (pm_cmp .ge ((v241 q cc gc (aset (v229 q cc gc h) 171 96 (upd (Ar (v229 q cc gc h) 171) (78 + i) (nI m2))) m2).1) x4) x4 ((v241 q cc gc (aset (v229 q cc gc h) 171 96 (upd (Ar (v229 q cc gc h) 171) (78 + i) (nI m2))) m2).1)), (v241 q cc gc (aset (v229 q cc gc h) 171 96 (upd (Ar (v229 q cc gc h) 171) (78 + i) (nI m2))) m2).2) := (cf z4).trans ((ct z6).trans rfl)
      rw [ed]
      exact ⟨n, some (.int ((v241 q cc gc (aset (v229 q cc gc h) 171 96 (upd (Ar (v229 q cc gc h) 171) (78 + i) (nI m2))) m2).1)), hc12, (fr_g rfl rfl hf13 (fr_a rfl rfl (fr_g rfl rfl hf9 fr_0))), hh⟩
    | false =>
      have hh := en_nf z6 hh
      have hh : pm_run PT n fr lo 243 (104, [some (.ref 162), some (.int (nI m1)), some (.int (nI m2)), some (.int x3), some (.int x4), some (.int (nI i)), o6], [], h, 198, sl) = some R := hh
      have hh : pm_run PT n fr lo 243 (104, [some (.ref 162), some (.int (nI m1)), some (.int (nI m2)), some (.int x3), some (.int x4), some (.int (nI i)), o6], [], h, 198, sl) = some R := hh
      obtain ⟨n, hh⟩ := en_inc (x := i) (c := 1) (j := 5) rfl rfl (by decide) hh
      have hh : pm_run PT n fr lo 243 (107, [some (.ref 162), some (.int (nI m1)), some (.int (nI m2)), some (.int x3), some (.int x4), some (.int (nI (i + 1))), o6], [], h, 198, sl) = some R := hh
      obtain ⟨n, hh⟩ := rn_i rfl rfl rfl rfl hh
      have ed : v243_27b q cc gc h m1 m2 i x3 x4 = (x3, x4, h) := (cf z4).trans ((cf z6).trans rfl)
      rw [ed]
      exact ⟨n, o6, hw, fr_0, hh⟩
theorem v243_27_ok {fr lo sl cc gc : Nat} {q : QT} {R : pm_Rs} {m1 : Nat} {m2 : Nat} : ∀ {j i : Nat} {x3 : Int32} {x4 : Int32} {o6 : Option Value} {h : pm_H} {n : Nat}, gc - i = j → i + j < 1000000 → HC q cc gc h → m1 < 10000 → m2 < 10000 → pm_run PT n fr lo 243 (27, [some (.ref 162), some (.int (nI m1)), some (.int (nI m2)), some (.int x3), some (.int x4), some (.int (nI i)), o6], [], h, 198, sl) = some R → ∃ m wc w6, HC q cc gc ((v243_27 q cc gc m1 m2 j i (x3, x4, h)).2.2) ∧ frm [162, 171] [(162, 41)] h ((v243_27 q cc gc m1 m2 j i (x3, x4, h)).2.2) ∧ pm_run PT m fr lo 243 (110, [some (.ref 162), some (.int (nI m1)), some (.int (nI m2)), some (.int ((v243_27 q cc gc m1 m2 j i (x3, x4, h)).1)), some (.int ((v243_27 q cc gc m1 m2 j i (x3, x4, h)).2.1)), wc, w6], [], (v243_27 q cc gc m1 m2 j i (x3, x4, h)).2.2, 198, sl) = some R := by
  intro j
  induction j with
  | zero =>
    intro i x3 x4 o6 h n e eI hw h_m1 h_m2 hh
    obtain ⟨n, hh⟩ := v243_27_e hw h_m1 h_m2 (by omega) (by omega) hh
    exact ⟨n, _, o6, hw, fr_0, hh⟩
  | succ j ih =>
    intro i x3 x4 o6 h n e eI hw h_m1 h_m2 hh
    obtain ⟨n, w6, hc, hf, hh⟩ := v243_27_s hw h_m1 h_m2 (by omega) (by omega) hh
    obtain ⟨n, wc, v6, hc2, hf2, hh⟩ := ih (by omega) (by omega) hc h_m1 h_m2 hh
    exact ⟨n, wc, v6, hc2, fr_t hf2 hf, hh⟩
def v243 (q : QT) (cc gc : Nat) (h : pm_H) (a : Nat) (b : Nat) : Int32 × pm_H := cond (pP cc (nI a) (nI b)) (cond (pm_cmp .lt ((v243_27 q cc gc a b gc 0 ((Int32.ofInt (-2)), (nI 1000000), fset h 162 0 (.int (nI 0)))).1) 0) ((v243_27 q cc gc a b gc 0 ((Int32.ofInt (-2)), (nI 1000000), fset h 162 0 (.int (nI 0)))).1, (v243_27 q cc gc a b gc 0 ((Int32.ofInt (-2)), (nI 1000000), fset h 162 0 (.int (nI 0)))).2.2) ((v243_27 q cc gc a b gc 0 ((Int32.ofInt (-2)), (nI 1000000), fset h 162 0 (.int (nI 0)))).1, v167 q cc gc (fset ((v243_27 q cc gc a b gc 0 ((Int32.ofInt (-2)), (nI 1000000), fset h 162 0 (.int (nI 0)))).2.2) 162 1 (.int (nI 0))) (((v243_27 q cc gc a b gc 0 ((Int32.ofInt (-2)), (nI 1000000), fset h 162 0 (.int (nI 0)))).2.1).toInt64))) ((Int32.ofInt (-1)), fset h 162 0 (.int (nI 0)))
theorem v243_ok {n fr lo sl cc gc : Nat} {q : QT} {h : pm_H} {R : pm_Rs} {a : Nat} {b : Nat} (hw : HC q cc gc h) (h_a : a < 10000) (h_b : b < 10000) (hh : pm_run PT n fr lo 243 (0, pm_l0 [.ref 162, .int (nI a), .int (nI b)] 7, [], h, 198, sl) = some R) : R = (some (.int ((v243 q cc gc h a b).1)), (v243 q cc gc h a b).2, 198, sl) ∧ HC q cc gc ((v243 q cc gc h a b).2) ∧ frm [162, 163, 171] [(162, 0), (162, 1), (162, 41)] h ((v243 q cc gc h a b).2) := by
  have hcc := hw.cb
  have hgc := hw.gb
  have hzr := hw.zr
  obtain ⟨n, hh⟩ := rn_i rfl rfl rfl rfl hh
  obtain ⟨n, hh⟩ := rn_i rfl rfl rfl rfl hh
  have hh : pm_run PT n fr lo 243 (2, [some (.ref 162), some (.int (nI a)), some (.int (nI b)), none, none, none, none], [.int (nI 0), .ref 162], h, 198, sl) = some R := hh
  obtain ⟨n, hh⟩ := rn_pi hw.wt rfl rfl (by decide) rfl (by decide) rfl hh
  obtain ⟨n, hh⟩ := rn_i rfl rfl rfl rfl hh
  obtain ⟨n, hh⟩ := rn_i rfl rfl rfl rfl hh
  obtain ⟨n, hh⟩ := rn_i rfl rfl rfl rfl hh
  have hh : pm_run PT n fr lo 243 (8, [some (.ref 162), some (.int (nI a)), some (.int (nI b)), none, none, none, none], [.int (nI b), .int (nI a), .ref 162], fset h 162 0 (.int (nI 0)), 198, sl) = some R := hh
  obtain ⟨n, fr1, lo1, r1, hh1, hh⟩ := rn_call (w := 0) (t := 170) rfl rfl hh
  have er1 := ma_run hcc (hc_m3 (hc_f rfl rfl (by decide) rfl hw)) hh1
  subst er1
  have hh : pm_run PT n fr lo 243 (11, [some (.ref 162), some (.int (nI a)), some (.int (nI b)), none, none, none, none], [.int (cond (pP cc (nI a) (nI b)) 1 0)], fset h 162 0 (.int (nI 0)), 198, sl) = some R := hh
  obtain ⟨n, hh⟩ := en_zn (cc := .ne) (off := 5) (t := 16) (b := pP cc (nI a) (nI b)) eb_ne rfl rfl hh
  cases z2 : pP cc (nI a) (nI b) with
  | true =>
    have hh := en_t z2 hh
    have hh : pm_run PT n fr lo 243 (16, [some (.ref 162), some (.int (nI a)), some (.int (nI b)), none, none, none, none], [], fset h 162 0 (.int (nI 0)), 198, sl) = some R := hh
    obtain ⟨n, hh⟩ := rn_i rfl rfl rfl rfl hh
    obtain ⟨n, hh⟩ := rn_i rfl rfl rfl rfl hh
    obtain ⟨n, hh⟩ := rn_i rfl rfl rfl rfl hh
    obtain ⟨n, hh⟩ := rn_i rfl rfl rfl rfl hh
    obtain ⟨n, hh⟩ := rn_i rfl rfl rfl rfl hh
    obtain ⟨n, hh⟩ := rn_i rfl rfl rfl rfl hh
    have hh : pm_run PT n fr lo 243 (27, [some (.ref 162), some (.int (nI a)), some (.int (nI b)), some (.int (Int32.ofInt (-2))), some (.int (nI 1000000)), some (.int (nI 0)), none], [], fset h 162 0 (.int (nI 0)), 198, sl) = some R := hh
    obtain ⟨n, u4, u3, hc5, hf6, hh⟩ := v243_27_ok (m1 := a) (m2 := b)  (i := 0) (x3 := (Int32.ofInt (-2))) (x4 := (nI 1000000)) (o6 := none) (j := gc) (by omega) (by omega) (hc_f rfl rfl (by decide) rfl hw) (by omega) (by omega) hh
    have hh : pm_run PT n fr lo 243 (110, [some (.ref 162), some (.int (nI a)), some (.int (nI b)), some (.int ((v243_27 q cc gc a b gc 0 ((Int32.ofInt (-2)), (nI 1000000), fset h 162 0 (.int (nI 0)))).1)), some (.int ((v243_27 q cc gc a b gc 0 ((Int32.ofInt (-2)), (nI 1000000), fset h 162 0 (.int (nI 0)))).2.1)), u4, u3], [], (v243_27 q cc gc a b gc 0 ((Int32.ofInt (-2)), (nI 1000000), fset h 162 0 (.int (nI 0)))).2.2, 198, sl) = some R := hh
    obtain ⟨n, hh⟩ := rn_i rfl rfl rfl rfl hh
    have hh : pm_run PT n fr lo 243 (111, [some (.ref 162), some (.int (nI a)), some (.int (nI b)), some (.int ((v243_27 q cc gc a b gc 0 ((Int32.ofInt (-2)), (nI 1000000), fset h 162 0 (.int (nI 0)))).1)), some (.int ((v243_27 q cc gc a b gc 0 ((Int32.ofInt (-2)), (nI 1000000), fset h 162 0 (.int (nI 0)))).2.1)), u4, u3], [.int ((v243_27 q cc gc a b gc 0 ((Int32.ofInt (-2)), (nI 1000000), fset h 162 0 (.int (nI 0)))).1)], (v243_27 q cc gc a b gc 0 ((Int32.ofInt (-2)), (nI 1000000), fset h 162 0 (.int (nI 0)))).2.2, 198, sl) = some R := hh
    obtain ⟨n, hh⟩ := en_zn (cc := .lt) (off := 15) (t := 126) (b := pm_cmp .lt ((v243_27 q cc gc a b gc 0 ((Int32.ofInt (-2)), (nI 1000000), fset h 162 0 (.int (nI 0)))).1) 0) rfl rfl rfl hh
    cases z7 : pm_cmp .lt ((v243_27 q cc gc a b gc 0 ((Int32.ofInt (-2)), (nI 1000000), fset h 162 0 (.int (nI 0)))).1) 0 with
    | true =>
      have hh := en_t z7 hh
      have hh : pm_run PT n fr lo 243 (126, [some (.ref 162), some (.int (nI a)), some (.int (nI b)), some (.int ((v243_27 q cc gc a b gc 0 ((Int32.ofInt (-2)), (nI 1000000), fset h 162 0 (.int (nI 0)))).1)), some (.int ((v243_27 q cc gc a b gc 0 ((Int32.ofInt (-2)), (nI 1000000), fset h 162 0 (.int (nI 0)))).2.1)), u4, u3], [], (v243_27 q cc gc a b gc 0 ((Int32.ofInt (-2)), (nI 1000000), fset h 162 0 (.int (nI 0)))).2.2, 198, sl) = some R := hh
      obtain ⟨n, hh⟩ := rn_i rfl rfl rfl rfl hh
      have hh : pm_run PT n fr lo 243 (127, [some (.ref 162), some (.int (nI a)), some (.int (nI b)), some (.int ((v243_27 q cc gc a b gc 0 ((Int32.ofInt (-2)), (nI 1000000), fset h 162 0 (.int (nI 0)))).1)), some (.int ((v243_27 q cc gc a b gc 0 ((Int32.ofInt (-2)), (nI 1000000), fset h 162 0 (.int (nI 0)))).2.1)), u4, u3], [.int ((v243_27 q cc gc a b gc 0 ((Int32.ofInt (-2)), (nI 1000000), fset h 162 0 (.int (nI 0)))).1)], (v243_27 q cc gc a b gc 0 ((Int32.ofInt (-2)), (nI 1000000), fset h 162 0 (.int (nI 0)))).2.2, 198, sl) = some R := hh
      have er8 : R = (some (.int ((v243_27 q cc gc a b gc 0 ((Int32.ofInt (-2)), (nI 1000000), fset h 162 0 (.int (nI 0)))).1)), (v243_27 q cc gc a b gc 0 ((Int32.ofInt (-2)), (nI 1000000), fset h 162 0 (.int (nI 0)))).2.2, 198, sl) := (rn_ret rfl (Or.inl rfl) hh).2
      have ed : v243 q cc gc h a b = ((v243_27 q cc gc a b gc 0 ((Int32.ofInt (-2)), (nI 1000000), fset h 162 0 (.int (nI 0)))).1, (v243_27 q cc gc a b gc 0 ((Int32.ofInt (-2)), (nI 1000000), fset h 162 0 (.int (nI 0)))).2.2) := (ct z2).trans ((ct z7).trans rfl)
      refine ⟨?_, ?_, ?_⟩ <;> rw [ed]
      · exact er8
      · exact hc5
      · exact (fr_g rfl rfl hf6 (fr_f rfl rfl fr_0))
    | false =>
      have hh := en_f z7 hh
      have hh : pm_run PT n fr lo 243 (114, [some (.ref 162), some (.int (nI a)), some (.int (nI b)), some (.int ((v243_27 q cc gc a b gc 0 ((Int32.ofInt (-2)), (nI 1000000), fset h 162 0 (.int (nI 0)))).1)), some (.int ((v243_27 q cc gc a b gc 0 ((Int32.ofInt (-2)), (nI 1000000), fset h 162 0 (.int (nI 0)))).2.1)), u4, u3], [], (v243_27 q cc gc a b gc 0 ((Int32.ofInt (-2)), (nI 1000000), fset h 162 0 (.int (nI 0)))).2.2, 198, sl) = some R := hh
      obtain ⟨n, hh⟩ := rn_i rfl rfl rfl rfl hh
      obtain ⟨n, hh⟩ := rn_i rfl rfl rfl rfl hh
      have hh : pm_run PT n fr lo 243 (116, [some (.ref 162), some (.int (nI a)), some (.int (nI b)), some (.int ((v243_27 q cc gc a b gc 0 ((Int32.ofInt (-2)), (nI 1000000), fset h 162 0 (.int (nI 0)))).1)), some (.int ((v243_27 q cc gc a b gc 0 ((Int32.ofInt (-2)), (nI 1000000), fset h 162 0 (.int (nI 0)))).2.1)), u4, u3], [.int (nI 0), .ref 162], (v243_27 q cc gc a b gc 0 ((Int32.ofInt (-2)), (nI 1000000), fset h 162 0 (.int (nI 0)))).2.2, 198, sl) = some R := hh
      obtain ⟨n, hh⟩ := rn_pi hc5.wt rfl rfl (by decide) rfl (by decide) rfl hh
      obtain ⟨n, hh⟩ := rn_i rfl rfl rfl rfl hh
      obtain ⟨n, hh⟩ := rn_i rfl rfl rfl rfl hh
      obtain ⟨n, hh⟩ := rn_i rfl rfl rfl rfl hh
      have hh : pm_run PT n fr lo 243 (123, [some (.ref 162), some (.int (nI a)), some (.int (nI b)), some (.int ((v243_27 q cc gc a b gc 0 ((Int32.ofInt (-2)), (nI 1000000), fset h 162 0 (.int (nI 0)))).1)), some (.int ((v243_27 q cc gc a b gc 0 ((Int32.ofInt (-2)), (nI 1000000), fset h 162 0 (.int (nI 0)))).2.1)), u4, u3], [.long (((v243_27 q cc gc a b gc 0 ((Int32.ofInt (-2)), (nI 1000000), fset h 162 0 (.int (nI 0)))).2.1).toInt64), .ref 162], fset ((v243_27 q cc gc a b gc 0 ((Int32.ofInt (-2)), (nI 1000000), fset h 162 0 (.int (nI 0)))).2.2) 162 1 (.int (nI 0)), 198, sl) = some R := hh
      obtain ⟨n, fr1, lo1, r1, hh1, hh⟩ := rn_call (w := 0) (t := 167) rfl rfl hh
      obtain ⟨er9, hc10, hf11⟩ := v167_ok (v := (((v243_27 q cc gc a b gc 0 ((Int32.ofInt (-2)), (nI 1000000), fset h 162 0 (.int (nI 0)))).2.1).toInt64)) (hc_f rfl rfl (by decide) rfl hc5) hh1
      subst er9
      obtain ⟨n, hh⟩ := rn_i rfl rfl rfl rfl hh
      have hh : pm_run PT n fr lo 243 (127, [some (.ref 162), some (.int (nI a)), some (.int (nI b)), some (.int ((v243_27 q cc gc a b gc 0 ((Int32.ofInt (-2)), (nI 1000000), fset h 162 0 (.int (nI 0)))).1)), some (.int ((v243_27 q cc gc a b gc 0 ((Int32.ofInt (-2)), (nI 1000000), fset h 162 0 (.int (nI 0)))).2.1)), u4, u3], [.int ((v243_27 q cc gc a b gc 0 ((Int32.ofInt (-2)), (nI 1000000), fset h 162 0 (.int (nI 0)))).1)], v167 q cc gc (fset ((v243_27 q cc gc a b gc 0 ((Int32.ofInt (-2)), (nI 1000000), fset h 162 0 (.int (nI 0)))).2.2) 162 1 (.int (nI 0))) (((v243_27 q cc gc a b gc 0 ((Int32.ofInt (-2)), (nI 1000000), fset h 162 0 (.int (nI 0)))).2.1).toInt64), 198, sl) = some R := hh
      have er12 : R = (some (.int ((v243_27 q cc gc a b gc 0 ((Int32.ofInt (-2)), (nI 1000000), fset h 162 0 (.int (nI 0)))).1)), v167 q cc gc (fset ((v243_27 q cc gc a b gc 0 ((Int32.ofInt (-2)), (nI 1000000), fset h 162 0 (.int (nI 0)))).2.2) 162 1 (.int (nI 0))) (((v243_27 q cc gc a b gc 0 ((Int32.ofInt (-2)), (nI 1000000), fset h 162 0 (.int (nI 0)))).2.1).toInt64), 198, sl) := (rn_ret rfl (Or.inl rfl) hh).2
      have ed : v243 q cc gc h a b = ((v243_27 q cc gc a b gc 0 ((Int32.ofInt (-2)), (nI 1000000), fset h 162 0 (.int (nI 0)))).1, v167 q cc gc (fset ((v243_27 q cc gc a b gc 0 ((Int32.ofInt (-2)), (nI 1000000), fset h 162 0 (.int (nI 0)))).2.2) 162 1 (.int (nI 0))) (((v243_27 q cc gc a b gc 0 ((Int32.ofInt (-2)), (nI 1000000), fset h 162 0 (.int (nI 0)))).2.1).toInt64)) := (ct z2).trans ((cf z7).trans rfl)
      refine ⟨?_, ?_, ?_⟩ <;> rw [ed]
      · exact er12
      · exact hc10
      · exact (fr_g rfl rfl hf11 (fr_f rfl rfl (fr_g rfl rfl hf6 (fr_f rfl rfl fr_0))))
  | false =>
    have hh := en_f z2 hh
    have hh : pm_run PT n fr lo 243 (14, [some (.ref 162), some (.int (nI a)), some (.int (nI b)), none, none, none, none], [], fset h 162 0 (.int (nI 0)), 198, sl) = some R := hh
    obtain ⟨n, hh⟩ := rn_i rfl rfl rfl rfl hh
    have hh : pm_run PT n fr lo 243 (15, [some (.ref 162), some (.int (nI a)), some (.int (nI b)), none, none, none, none], [.int (Int32.ofInt (-1))], fset h 162 0 (.int (nI 0)), 198, sl) = some R := hh
    have er13 : R = (some (.int (Int32.ofInt (-1))), fset h 162 0 (.int (nI 0)), 198, sl) := (rn_ret rfl (Or.inl rfl) hh).2
    have ed : v243 q cc gc h a b = ((Int32.ofInt (-1)), fset h 162 0 (.int (nI 0))) := (cf z2).trans rfl
    refine ⟨?_, ?_, ?_⟩ <;> rw [ed]
    · exact er13
    · exact (hc_f rfl rfl (by decide) rfl hw)
    · exact (fr_f rfl rfl fr_0)
def v251 (q : QT) (cc gc : Nat) (h : pm_H) (u : Nat) (a : Int32) (b : Int32) : Int32 × pm_H := cond (in_b ((a).toInt64) (Int64.ofNat 0) (3 : Int64)) (cond (in_b ((b).toInt64) ((cond (cond (pm_cmp .ne a (nI 1)) false true) 1 0 : Int32).toInt64) ((cond (pm_cmp .ne a 0) (cond (pm_cmp .ne a (nI 1)) (cond (pm_cmp .ne a (nI 2)) (nI 1) (nI 5)) (nI 99)) (nI 4)).toInt64)) (cond (decide (¬ u = 12)) (nI (u + 1), fset (aset (aset (fset h 162 0 (.int (nI 0))) 191 12 (upd (Ar h 191) u a)) 192 12 (upd (Ar h 192) u b)) 162 47 (.int (nI (u + 1)))) ((Int32.ofInt (-1)), fset h 162 0 (.int (nI 0)))) ((Int32.ofInt (-1)), fset h 162 0 (.int (nI 0)))) ((Int32.ofInt (-1)), fset h 162 0 (.int (nI 0)))
theorem v251_ok {n fr lo sl cc gc : Nat} {q : QT} {h : pm_H} {R : pm_Rs} {u : Nat} {a : Int32} {b : Int32} (hw : HC q cc gc h) (hu : u ≤ 12) (e1 : Fi h 162 47 = nI u) (hh : pm_run PT n fr lo 251 (0, pm_l0 [.ref 162, .int a, .int b] 4, [], h, 198, sl) = some R) : R = (some (.int ((v251 q cc gc h u a b).1)), (v251 q cc gc h u a b).2, 198, sl) ∧ HC q cc gc ((v251 q cc gc h u a b).2) ∧ frm [162, 191, 192] [(162, 0), (162, 47)] h ((v251 q cc gc h u a b).2) := by
  have hcc := hw.cb
  have hgc := hw.gb
  have hzr := hw.zr
  obtain ⟨n, hh⟩ := rn_i rfl rfl rfl rfl hh
  obtain ⟨n, hh⟩ := rn_i rfl rfl rfl rfl hh
  have hh : pm_run PT n fr lo 251 (2, [some (.ref 162), some (.int a), some (.int b), none], [.int (nI 0), .ref 162], h, 198, sl) = some R := hh
  obtain ⟨n, hh⟩ := rn_pi hw.wt rfl rfl (by decide) rfl (by decide) rfl hh
  obtain ⟨n, hh⟩ := rn_i rfl rfl rfl rfl hh
  have hh : pm_run PT n fr lo 251 (6, [some (.ref 162), some (.int a), some (.int b), none], [.int a], fset h 162 0 (.int (nI 0)), 198, sl) = some R := hh
  obtain ⟨n, hh⟩ := en_zn (cc := .ne) (off := 7) (t := 13) (b := pm_cmp .ne a 0) rfl rfl rfl hh
  have hj6 : ∃ mJ, pm_run PT mJ fr lo 251 (cond (pm_cmp .ne a 0) (33, [some (.ref 162), some (.int a), some (.int b), none], [.int (cond (pm_cmp .ne a (nI 1)) (cond (pm_cmp .ne a (nI 2)) (nI 1) (nI 5)) (nI 99))], fset h 162 0 (.int (nI 0)), 198, sl) (33, [some (.ref 162), some (.int a), some (.int b), none], [.int (nI 4)], fset h 162 0 (.int (nI 0)), 198, sl)) = some R := en_J (fun z1 => by
      have hh := en_t z1 hh
      have hh : pm_run PT n fr lo 251 (13, [some (.ref 162), some (.int a), some (.int b), none], [], fset h 162 0 (.int (nI 0)), 198, sl) = some R := hh
      obtain ⟨n, hh⟩ := rn_i rfl rfl rfl rfl hh
      obtain ⟨n, hh⟩ := rn_i rfl rfl rfl rfl hh
      have hh : pm_run PT n fr lo 251 (15, [some (.ref 162), some (.int a), some (.int b), none], [.int (nI 1), .int a], fset h 162 0 (.int (nI 0)), 198, sl) = some R := hh
      obtain ⟨n, hh⟩ := en_cn (cc := .ne) (off := 8) (t := 23) (b := pm_cmp .ne a (nI 1)) rfl rfl rfl hh
      have hj5 : ∃ mJ, pm_run PT mJ fr lo 251 (cond (pm_cmp .ne a (nI 1)) (33, [some (.ref 162), some (.int a), some (.int b), none], [.int (cond (pm_cmp .ne a (nI 2)) (nI 1) (nI 5))], fset h 162 0 (.int (nI 0)), 198, sl) (33, [some (.ref 162), some (.int a), some (.int b), none], [.int (nI 99)], fset h 162 0 (.int (nI 0)), 198, sl)) = some R := en_J (fun z2 => by
          have hh := en_t z2 hh
          have hh : pm_run PT n fr lo 251 (23, [some (.ref 162), some (.int a), some (.int b), none], [], fset h 162 0 (.int (nI 0)), 198, sl) = some R := hh
          obtain ⟨n, hh⟩ := rn_i rfl rfl rfl rfl hh
          obtain ⟨n, hh⟩ := rn_i rfl rfl rfl rfl hh
          have hh : pm_run PT n fr lo 251 (25, [some (.ref 162), some (.int a), some (.int b), none], [.int (nI 2), .int a], fset h 162 0 (.int (nI 0)), 198, sl) = some R := hh
          obtain ⟨n, hh⟩ := en_cn (cc := .ne) (off := 7) (t := 32) (b := pm_cmp .ne a (nI 2)) rfl rfl rfl hh
          have hj4 : ∃ mJ, pm_run PT mJ fr lo 251 (cond (pm_cmp .ne a (nI 2)) (33, [some (.ref 162), some (.int a), some (.int b), none], [.int (nI 1)], fset h 162 0 (.int (nI 0)), 198, sl) (33, [some (.ref 162), some (.int a), some (.int b), none], [.int (nI 5)], fset h 162 0 (.int (nI 0)), 198, sl)) = some R := en_J (fun z3 => by
              have hh := en_t z3 hh
              have hh : pm_run PT n fr lo 251 (32, [some (.ref 162), some (.int a), some (.int b), none], [], fset h 162 0 (.int (nI 0)), 198, sl) = some R := hh
              obtain ⟨n, hh⟩ := rn_i rfl rfl rfl rfl hh
              exact ⟨n, hh⟩) (fun z3 => by
              have hh := en_f z3 hh
              have hh : pm_run PT n fr lo 251 (28, [some (.ref 162), some (.int a), some (.int b), none], [], fset h 162 0 (.int (nI 0)), 198, sl) = some R := hh
              obtain ⟨n, hh⟩ := rn_i rfl rfl rfl rfl hh
              obtain ⟨n, hh⟩ := rn_i rfl rfl rfl rfl hh
              exact ⟨n, hh⟩)
          obtain ⟨n, hh⟩ := hj4
          rw [show (cond (pm_cmp .ne a (nI 2)) (33, [some (.ref 162), some (.int a), some (.int b), none], [.int (nI 1)], fset h 162 0 (.int (nI 0)), 198, sl) (33, [some (.ref 162), some (.int a), some (.int b), none], [.int (nI 5)], fset h 162 0 (.int (nI 0)), 198, sl) : pm_St) = (33, [some (.ref 162), some (.int a), some (.int b), none], [.int (cond (pm_cmp .ne a (nI 2)) (nI 1) (nI 5))], fset h 162 0 (.int (nI 0)), 198, sl) from by cases (pm_cmp .ne a (nI 2)) <;> rfl] at hh
          exact ⟨n, hh⟩) (fun z2 => by
          have hh := en_f z2 hh
          have hh : pm_run PT n fr lo 251 (18, [some (.ref 162), some (.int a), some (.int b), none], [], fset h 162 0 (.int (nI 0)), 198, sl) = some R := hh
          obtain ⟨n, hh⟩ := rn_i rfl rfl rfl rfl hh
          obtain ⟨n, hh⟩ := rn_i rfl rfl rfl rfl hh
          exact ⟨n, hh⟩)
      obtain ⟨n, hh⟩ := hj5
      rw [show (cond (pm_cmp .ne a (nI 1)) (33, [some (.ref 162), some (.int a), some (.int b), none], [.int (cond (pm_cmp .ne a (nI 2)) (nI 1) (nI 5))], fset h 162 0 (.int (nI 0)), 198, sl) (33, [some (.ref 162), some (.int a), some (.int b), none], [.int (nI 99)], fset h 162 0 (.int (nI 0)), 198, sl) : pm_St) = (33, [some (.ref 162), some (.int a), some (.int b), none], [.int (cond (pm_cmp .ne a (nI 1)) (cond (pm_cmp .ne a (nI 2)) (nI 1) (nI 5)) (nI 99))], fset h 162 0 (.int (nI 0)), 198, sl) from by cases (pm_cmp .ne a (nI 1)) <;> rfl] at hh
      exact ⟨n, hh⟩) (fun z1 => by
      have hh := en_f z1 hh
      have hh : pm_run PT n fr lo 251 (9, [some (.ref 162), some (.int a), some (.int b), none], [], fset h 162 0 (.int (nI 0)), 198, sl) = some R := hh
      obtain ⟨n, hh⟩ := rn_i rfl rfl rfl rfl hh
      obtain ⟨n, hh⟩ := rn_i rfl rfl rfl rfl hh
      exact ⟨n, hh⟩)
  obtain ⟨n, hh⟩ := hj6
  rw [show (cond (pm_cmp .ne a 0) (33, [some (.ref 162), some (.int a), some (.int b), none], [.int (cond (pm_cmp .ne a (nI 1)) (cond (pm_cmp .ne a (nI 2)) (nI 1) (nI 5)) (nI 99))], fset h 162 0 (.int (nI 0)), 198, sl) (33, [some (.ref 162), some (.int a), some (.int b), none], [.int (nI 4)], fset h 162 0 (.int (nI 0)), 198, sl) : pm_St) = (33, [some (.ref 162), some (.int a), some (.int b), none], [.int (cond (pm_cmp .ne a 0) (cond (pm_cmp .ne a (nI 1)) (cond (pm_cmp .ne a (nI 2)) (nI 1) (nI 5)) (nI 99)) (nI 4))], fset h 162 0 (.int (nI 0)), 198, sl) from by cases (pm_cmp .ne a 0) <;> rfl] at hh
  obtain ⟨n, hh⟩ := rn_i rfl rfl rfl rfl hh
  obtain ⟨n, hh⟩ := rn_i rfl rfl rfl rfl hh
  obtain ⟨n, hh⟩ := rn_i rfl rfl rfl rfl hh
  obtain ⟨n, hh⟩ := rn_i rfl rfl rfl rfl hh
  obtain ⟨n, hh⟩ := rn_i rfl rfl rfl rfl hh
  have hh : pm_run PT n fr lo 251 (40, [some (.ref 162), some (.int a), some (.int b), some (.int (cond (pm_cmp .ne a 0) (cond (pm_cmp .ne a (nI 1)) (cond (pm_cmp .ne a (nI 2)) (nI 1) (nI 5)) (nI 99)) (nI 4)))], [.long (3 : Int64), .long (Int64.ofNat 0), .long ((a).toInt64)], fset h 162 0 (.int (nI 0)), 198, sl) = some R := hh
  obtain ⟨n, fr1, lo1, r1, hh1, hh⟩ := rn_call (w := 2) (t := 163) rfl rfl hh
  have er7 := rn_dt (F := 10) (Lo := 1000) (hd_in (fr := 10) (lo := 1000) (h := fset h 162 0 (.int (nI 0))) (sl := sl) ((a).toInt64) (Int64.ofNat 0) (3 : Int64)) hh1
  subst er7
  have hh : pm_run PT n fr lo 251 (43, [some (.ref 162), some (.int a), some (.int b), some (.int (cond (pm_cmp .ne a 0) (cond (pm_cmp .ne a (nI 1)) (cond (pm_cmp .ne a (nI 2)) (nI 1) (nI 5)) (nI 99)) (nI 4)))], [.int (cond (in_b ((a).toInt64) (Int64.ofNat 0) (3 : Int64)) 1 0)], fset h 162 0 (.int (nI 0)), 198, sl) = some R := hh
  obtain ⟨n, hh⟩ := en_zn (cc := .eq) (off := 36) (t := 79) (b := !(in_b ((a).toInt64) (Int64.ofNat 0) (3 : Int64))) eb_eq rfl rfl hh
  cases z8 : in_b ((a).toInt64) (Int64.ofNat 0) (3 : Int64) with
  | true =>
    have hh := en_nt z8 hh
    have hh : pm_run PT n fr lo 251 (46, [some (.ref 162), some (.int a), some (.int b), some (.int (cond (pm_cmp .ne a 0) (cond (pm_cmp .ne a (nI 1)) (cond (pm_cmp .ne a (nI 2)) (nI 1) (nI 5)) (nI 99)) (nI 4)))], [], fset h 162 0 (.int (nI 0)), 198, sl) = some R := hh
    obtain ⟨n, hh⟩ := rn_i rfl rfl rfl rfl hh
    obtain ⟨n, hh⟩ := rn_i rfl rfl rfl rfl hh
    obtain ⟨n, hh⟩ := rn_i rfl rfl rfl rfl hh
    obtain ⟨n, hh⟩ := rn_i rfl rfl rfl rfl hh
    have hh : pm_run PT n fr lo 251 (50, [some (.ref 162), some (.int a), some (.int b), some (.int (cond (pm_cmp .ne a 0) (cond (pm_cmp .ne a (nI 1)) (cond (pm_cmp .ne a (nI 2)) (nI 1) (nI 5)) (nI 99)) (nI 4)))], [.int (nI 1), .int a, .long ((b).toInt64)], fset h 162 0 (.int (nI 0)), 198, sl) = some R := hh
    obtain ⟨n, hh⟩ := en_cn (cc := .ne) (off := 7) (t := 57) (b := pm_cmp .ne a (nI 1)) rfl rfl rfl hh
    have hj10 : ∃ mJ, pm_run PT mJ fr lo 251 (cond (pm_cmp .ne a (nI 1)) (58, [some (.ref 162), some (.int a), some (.int b), some (.int (cond (pm_cmp .ne a 0) (cond (pm_cmp .ne a (nI 1)) (cond (pm_cmp .ne a (nI 2)) (nI 1) (nI 5)) (nI 99)) (nI 4)))], [.int (nI 0), .long ((b).toInt64)], fset h 162 0 (.int (nI 0)), 198, sl) (58, [some (.ref 162), some (.int a), some (.int b), some (.int (cond (pm_cmp .ne a 0) (cond (pm_cmp .ne a (nI 1)) (cond (pm_cmp .ne a (nI 2)) (nI 1) (nI 5)) (nI 99)) (nI 4)))], [.int (nI 1), .long ((b).toInt64)], fset h 162 0 (.int (nI 0)), 198, sl)) = some R := en_J (fun z9 => by
        have hh := en_t z9 hh
        have hh : pm_run PT n fr lo 251 (57, [some (.ref 162), some (.int a), some (.int b), some (.int (cond (pm_cmp .ne a 0) (cond (pm_cmp .ne a (nI 1)) (cond (pm_cmp .ne a (nI 2)) (nI 1) (nI 5)) (nI 99)) (nI 4)))], [.long ((b).toInt64)], fset h 162 0 (.int (nI 0)), 198, sl) = some R := hh
        obtain ⟨n, hh⟩ := rn_i rfl rfl rfl rfl hh
        exact ⟨n, hh⟩) (fun z9 => by
        have hh := en_f z9 hh
        have hh : pm_run PT n fr lo 251 (53, [some (.ref 162), some (.int a), some (.int b), some (.int (cond (pm_cmp .ne a 0) (cond (pm_cmp .ne a (nI 1)) (cond (pm_cmp .ne a (nI 2)) (nI 1) (nI 5)) (nI 99)) (nI 4)))], [.long ((b).toInt64)], fset h 162 0 (.int (nI 0)), 198, sl) = some R := hh
        obtain ⟨n, hh⟩ := rn_i rfl rfl rfl rfl hh
        obtain ⟨n, hh⟩ := rn_i rfl rfl rfl rfl hh
        exact ⟨n, hh⟩)
    obtain ⟨n, hh⟩ := hj10
    rw [show (cond (pm_cmp .ne a (nI 1)) (58, [some (.ref 162), some (.int a), some (.int b), some (.int (cond (pm_cmp .ne a 0) (cond (pm_cmp .ne a (nI 1)) (cond (pm_cmp .ne a (nI 2)) (nI 1) (nI 5)) (nI 99)) (nI 4)))], [.int (nI 0), .long ((b).toInt64)], fset h 162 0 (.int (nI 0)), 198, sl) (58, [some (.ref 162), some (.int a), some (.int b), some (.int (cond (pm_cmp .ne a 0) (cond (pm_cmp .ne a (nI 1)) (cond (pm_cmp .ne a (nI 2)) (nI 1) (nI 5)) (nI 99)) (nI 4)))], [.int (nI 1), .long ((b).toInt64)], fset h 162 0 (.int (nI 0)), 198, sl) : pm_St) = (58, [some (.ref 162), some (.int a), some (.int b), some (.int (cond (pm_cmp .ne a 0) (cond (pm_cmp .ne a (nI 1)) (cond (pm_cmp .ne a (nI 2)) (nI 1) (nI 5)) (nI 99)) (nI 4)))], [.int (cond (cond (pm_cmp .ne a (nI 1)) false true) 1 0), .long ((b).toInt64)], fset h 162 0 (.int (nI 0)), 198, sl) from by cases (pm_cmp .ne a (nI 1)) <;> rfl] at hh
    have hh : pm_run PT n fr lo 251 (58, [some (.ref 162), some (.int a), some (.int b), some (.int (cond (pm_cmp .ne a 0) (cond (pm_cmp .ne a (nI 1)) (cond (pm_cmp .ne a (nI 2)) (nI 1) (nI 5)) (nI 99)) (nI 4)))], [.int (cond (cond (pm_cmp .ne a (nI 1)) false true) 1 0), .long ((b).toInt64)], fset h 162 0 (.int (nI 0)), 198, sl) = some R := hh
    obtain ⟨n, fr1, lo1, r1, hh1, hh⟩ := rn_call (w := 2) (t := 165) rfl rfl hh
    have er11 := rn_dt (F := 10) (Lo := 1000) (hd_flag (fr := 10) (lo := 1000) (h := fset h 162 0 (.int (nI 0))) (sl := sl) (cond (pm_cmp .ne a (nI 1)) false true)) hh1
    subst er11
    obtain ⟨n, hh⟩ := rn_i rfl rfl rfl rfl hh
    obtain ⟨n, hh⟩ := rn_i rfl rfl rfl rfl hh
    obtain ⟨n, hh⟩ := rn_i rfl rfl rfl rfl hh
    have hh : pm_run PT n fr lo 251 (64, [some (.ref 162), some (.int a), some (.int b), some (.int (cond (pm_cmp .ne a 0) (cond (pm_cmp .ne a (nI 1)) (cond (pm_cmp .ne a (nI 2)) (nI 1) (nI 5)) (nI 99)) (nI 4)))], [.long ((cond (pm_cmp .ne a 0) (cond (pm_cmp .ne a (nI 1)) (cond (pm_cmp .ne a (nI 2)) (nI 1) (nI 5)) (nI 99)) (nI 4)).toInt64), .long ((cond (cond (pm_cmp .ne a (nI 1)) false true) 1 0 : Int32).toInt64), .long ((b).toInt64)], fset h 162 0 (.int (nI 0)), 198, sl) = some R := hh
    obtain ⟨n, fr1, lo1, r1, hh1, hh⟩ := rn_call (w := 2) (t := 163) rfl rfl hh
    have er12 := rn_dt (F := 10) (Lo := 1000) (hd_in (fr := 10) (lo := 1000) (h := fset h 162 0 (.int (nI 0))) (sl := sl) ((b).toInt64) ((cond (cond (pm_cmp .ne a (nI 1)) false true) 1 0 : Int32).toInt64) ((cond (pm_cmp .ne a 0) (cond (pm_cmp .ne a (nI 1)) (cond (pm_cmp .ne a (nI 2)) (nI 1) (nI 5)) (nI 99)) (nI 4)).toInt64)) hh1
    subst er12
    have hh : pm_run PT n fr lo 251 (67, [some (.ref 162), some (.int a), some (.int b), some (.int (cond (pm_cmp .ne a 0) (cond (pm_cmp .ne a (nI 1)) (cond (pm_cmp .ne a (nI 2)) (nI 1) (nI 5)) (nI 99)) (nI 4)))], [.int (cond (in_b ((b).toInt64) ((cond (cond (pm_cmp .ne a (nI 1)) false true) 1 0 : Int32).toInt64) ((cond (pm_cmp .ne a 0) (cond (pm_cmp .ne a (nI 1)) (cond (pm_cmp .ne a (nI 2)) (nI 1) (nI 5)) (nI 99)) (nI 4)).toInt64)) 1 0)], fset h 162 0 (.int (nI 0)), 198, sl) = some R := hh
    obtain ⟨n, hh⟩ := en_zn (cc := .eq) (off := 12) (t := 79) (b := !(in_b ((b).toInt64) ((cond (cond (pm_cmp .ne a (nI 1)) false true) 1 0 : Int32).toInt64) ((cond (pm_cmp .ne a 0) (cond (pm_cmp .ne a (nI 1)) (cond (pm_cmp .ne a (nI 2)) (nI 1) (nI 5)) (nI 99)) (nI 4)).toInt64))) eb_eq rfl rfl hh
    cases z13 : in_b ((b).toInt64) ((cond (cond (pm_cmp .ne a (nI 1)) false true) 1 0 : Int32).toInt64) ((cond (pm_cmp .ne a 0) (cond (pm_cmp .ne a (nI 1)) (cond (pm_cmp .ne a (nI 2)) (nI 1) (nI 5)) (nI 99)) (nI 4)).toInt64) with
    | true =>
      have hh := en_nt z13 hh
      have hh : pm_run PT n fr lo 251 (70, [some (.ref 162), some (.int a), some (.int b), some (.int (cond (pm_cmp .ne a 0) (cond (pm_cmp .ne a (nI 1)) (cond (pm_cmp .ne a (nI 2)) (nI 1) (nI 5)) (nI 99)) (nI 4)))], [], fset h 162 0 (.int (nI 0)), 198, sl) = some R := hh
      obtain ⟨n, hh⟩ := rn_i rfl rfl rfl rfl hh
      have hh : pm_run PT n fr lo 251 (71, [some (.ref 162), some (.int a), some (.int b), some (.int (cond (pm_cmp .ne a 0) (cond (pm_cmp .ne a (nI 1)) (cond (pm_cmp .ne a (nI 2)) (nI 1) (nI 5)) (nI 99)) (nI 4)))], [.ref 162], fset h 162 0 (.int (nI 0)), 198, sl) = some R := hh
      obtain ⟨n, hh⟩ := rn_gi (x := nI u) (hc_f rfl rfl (by decide) rfl hw).wt rfl rfl (by decide) rfl (by decide) rfl ((Fi_n (Or.inr (by decide))).trans e1) hh
      obtain ⟨n, hh⟩ := rn_i rfl rfl rfl rfl hh
      have hh : pm_run PT n fr lo 251 (76, [some (.ref 162), some (.int a), some (.int b), some (.int (cond (pm_cmp .ne a 0) (cond (pm_cmp .ne a (nI 1)) (cond (pm_cmp .ne a (nI 2)) (nI 1) (nI 5)) (nI 99)) (nI 4)))], [.int (nI 12), .int (nI u)], fset h 162 0 (.int (nI 0)), 198, sl) = some R := hh
      obtain ⟨n, hh⟩ := en_cn (cc := .ne) (off := 5) (t := 81) (b := decide (¬ u = 12)) (hI_ne (by omega) (by omega)) rfl rfl hh
      cases z14 : decide (¬ u = 12) with
      | true =>
        have hh := en_t z14 hh
        have hh : pm_run PT n fr lo 251 (81, [some (.ref 162), some (.int a), some (.int b), some (.int (cond (pm_cmp .ne a 0) (cond (pm_cmp .ne a (nI 1)) (cond (pm_cmp .ne a (nI 2)) (nI 1) (nI 5)) (nI 99)) (nI 4)))], [], fset h 162 0 (.int (nI 0)), 198, sl) = some R := hh
        have y15 := of_decide_eq_true z14
        obtain ⟨n, hh⟩ := rn_i rfl rfl rfl rfl hh
        have hh : pm_run PT n fr lo 251 (82, [some (.ref 162), some (.int a), some (.int b), some (.int (cond (pm_cmp .ne a 0) (cond (pm_cmp .ne a (nI 1)) (cond (pm_cmp .ne a (nI 2)) (nI 1) (nI 5)) (nI 99)) (nI 4)))], [.ref 162], fset h 162 0 (.int (nI 0)), 198, sl) = some R := hh
        obtain ⟨n, hh⟩ := rn_gr (hc_f rfl rfl (by decide) rfl hw).wt rfl rfl (by decide) rfl (by decide) (show _ = some (2, ((191 : Nat) : Int), 1) from rfl) rfl hh
        obtain ⟨n, hh⟩ := rn_i rfl rfl rfl rfl hh
        have hh : pm_run PT n fr lo 251 (86, [some (.ref 162), some (.int a), some (.int b), some (.int (cond (pm_cmp .ne a 0) (cond (pm_cmp .ne a (nI 1)) (cond (pm_cmp .ne a (nI 2)) (nI 1) (nI 5)) (nI 99)) (nI 4)))], [.ref 162, .ref 191], fset h 162 0 (.int (nI 0)), 198, sl) = some R := hh
        obtain ⟨n, hh⟩ := rn_gi (x := nI u) (hc_f rfl rfl (by decide) rfl hw).wt rfl rfl (by decide) rfl (by decide) rfl ((Fi_n (Or.inr (by decide))).trans e1) hh
        obtain ⟨n, hh⟩ := rn_i rfl rfl rfl rfl hh
        have hh : pm_run PT n fr lo 251 (90, [some (.ref 162), some (.int a), some (.int b), some (.int (cond (pm_cmp .ne a 0) (cond (pm_cmp .ne a (nI 1)) (cond (pm_cmp .ne a (nI 2)) (nI 1) (nI 5)) (nI 99)) (nI 4)))], [.int a, .int (nI u), .ref 191], fset h 162 0 (.int (nI 0)), 198, sl) = some R := hh
        obtain ⟨n, hx16, hh⟩ := en_st (t := u) (f := Ar h 191) (nI_clamp (by omega)) (hc_f rfl rfl (by decide) rfl hw).wt rfl (by decide) rfl (by decide) (Ar_f.trans rfl) hh
        obtain ⟨n, hh⟩ := rn_i rfl rfl rfl rfl hh
        have hh : pm_run PT n fr lo 251 (92, [some (.ref 162), some (.int a), some (.int b), some (.int (cond (pm_cmp .ne a 0) (cond (pm_cmp .ne a (nI 1)) (cond (pm_cmp .ne a (nI 2)) (nI 1) (nI 5)) (nI 99)) (nI 4)))], [.ref 162], aset (fset h 162 0 (.int (nI 0))) 191 12 (upd (Ar h 191) u a), 198, sl) = some R := hh
        obtain ⟨n, hh⟩ := rn_gr (hc_a rfl rfl (hc_f rfl rfl (by decide) rfl hw)).wt rfl rfl (by decide) rfl (by decide) (show _ = some (2, ((192 : Nat) : Int), 1) from rfl) rfl hh
        obtain ⟨n, hh⟩ := rn_i rfl rfl rfl rfl hh
        have hh : pm_run PT n fr lo 251 (96, [some (.ref 162), some (.int a), some (.int b), some (.int (cond (pm_cmp .ne a 0) (cond (pm_cmp .ne a (nI 1)) (cond (pm_cmp .ne a (nI 2)) (nI 1) (nI 5)) (nI 99)) (nI 4)))], [.ref 162, .ref 192], aset (fset h 162 0 (.int (nI 0))) 191 12 (upd (Ar h 191) u a), 198, sl) = some R := hh
        obtain ⟨n, hh⟩ := rn_gi (x := nI u) (hc_a rfl rfl (hc_f rfl rfl (by decide) rfl hw)).wt rfl rfl (by decide) rfl (by decide) rfl ((Fi_a (by decide)).trans ((Fi_n (Or.inr (by decide))).trans e1)) hh
        obtain ⟨n, hh⟩ := rn_i rfl rfl rfl rfl hh
        have hh : pm_run PT n fr lo 251 (100, [some (.ref 162), some (.int a), some (.int b), some (.int (cond (pm_cmp .ne a 0) (cond (pm_cmp .ne a (nI 1)) (cond (pm_cmp .ne a (nI 2)) (nI 1) (nI 5)) (nI 99)) (nI 4)))], [.int b, .int (nI u), .ref 192], aset (fset h 162 0 (.int (nI 0))) 191 12 (upd (Ar h 191) u a), 198, sl) = some R := hh
        obtain ⟨n, hx17, hh⟩ := en_st (t := u) (f := Ar h 192) (nI_clamp (by omega)) (hc_a rfl rfl (hc_f rfl rfl (by decide) rfl hw)).wt rfl (by decide) rfl (by decide) ((Ar_n (by decide)).trans (Ar_f.trans rfl)) hh
        obtain ⟨n, hh⟩ := rn_i rfl rfl rfl rfl hh
        obtain ⟨n, hh⟩ := rn_i rfl rfl rfl rfl hh
        have hh : pm_run PT n fr lo 251 (103, [some (.ref 162), some (.int a), some (.int b), some (.int (cond (pm_cmp .ne a 0) (cond (pm_cmp .ne a (nI 1)) (cond (pm_cmp .ne a (nI 2)) (nI 1) (nI 5)) (nI 99)) (nI 4)))], [.ref 162, .ref 162], aset (aset (fset h 162 0 (.int (nI 0))) 191 12 (upd (Ar h 191) u a)) 192 12 (upd (Ar h 192) u b), 198, sl) = some R := hh
        obtain ⟨n, hh⟩ := rn_gi (x := nI u) (hc_a rfl rfl (hc_a rfl rfl (hc_f rfl rfl (by decide) rfl hw))).wt rfl rfl (by decide) rfl (by decide) rfl ((Fi_a (by decide)).trans ((Fi_a (by decide)).trans ((Fi_n (Or.inr (by decide))).trans e1))) hh
        obtain ⟨n, hh⟩ := rn_i rfl rfl rfl rfl hh
        have hh : pm_run PT n fr lo 251 (107, [some (.ref 162), some (.int a), some (.int b), some (.int (cond (pm_cmp .ne a 0) (cond (pm_cmp .ne a (nI 1)) (cond (pm_cmp .ne a (nI 2)) (nI 1) (nI 5)) (nI 99)) (nI 4)))], [.int (nI 1), .int (nI u), .ref 162], aset (aset (fset h 162 0 (.int (nI 0))) 191 12 (upd (Ar h 191) u a)) 192 12 (upd (Ar h 192) u b), 198, sl) = some R := hh
        obtain ⟨n, hh⟩ := en_add rfl hh
        have hh : pm_run PT n fr lo 251 (108, [some (.ref 162), some (.int a), some (.int b), some (.int (cond (pm_cmp .ne a 0) (cond (pm_cmp .ne a (nI 1)) (cond (pm_cmp .ne a (nI 2)) (nI 1) (nI 5)) (nI 99)) (nI 4)))], [.int (nI (u + 1)), .ref 162], aset (aset (fset h 162 0 (.int (nI 0))) 191 12 (upd (Ar h 191) u a)) 192 12 (upd (Ar h 192) u b), 198, sl) = some R := hh
        have hh : pm_run PT n fr lo 251 (108, [some (.ref 162), some (.int a), some (.int b), some (.int (cond (pm_cmp .ne a 0) (cond (pm_cmp .ne a (nI 1)) (cond (pm_cmp .ne a (nI 2)) (nI 1) (nI 5)) (nI 99)) (nI 4)))], [.int (nI (u + 1)), .ref 162], aset (aset (fset h 162 0 (.int (nI 0))) 191 12 (upd (Ar h 191) u a)) 192 12 (upd (Ar h 192) u b), 198, sl) = some R := hh
        obtain ⟨n, hh⟩ := rn_pi (hc_a rfl rfl (hc_a rfl rfl (hc_f rfl rfl (by decide) rfl hw))).wt rfl rfl (by decide) rfl (by decide) rfl hh
        obtain ⟨n, hh⟩ := rn_i rfl rfl rfl rfl hh
        have hh : pm_run PT n fr lo 251 (112, [some (.ref 162), some (.int a), some (.int b), some (.int (cond (pm_cmp .ne a 0) (cond (pm_cmp .ne a (nI 1)) (cond (pm_cmp .ne a (nI 2)) (nI 1) (nI 5)) (nI 99)) (nI 4)))], [.ref 162], fset (aset (aset (fset h 162 0 (.int (nI 0))) 191 12 (upd (Ar h 191) u a)) 192 12 (upd (Ar h 192) u b)) 162 47 (.int (nI (u + 1))), 198, sl) = some R := hh
        obtain ⟨n, hh⟩ := rn_gi (x := nI (u + 1)) (hc_f rfl rfl (by decide) rfl (hc_a rfl rfl (hc_a rfl rfl (hc_f rfl rfl (by decide) rfl hw)))).wt rfl rfl (by decide) rfl (by decide) rfl (Fi_s (hc_a rfl rfl (hc_a rfl rfl (hc_f rfl rfl (by decide) rfl hw))).wt (by decide) rfl (by decide) rfl) hh
        have hh : pm_run PT n fr lo 251 (115, [some (.ref 162), some (.int a), some (.int b), some (.int (cond (pm_cmp .ne a 0) (cond (pm_cmp .ne a (nI 1)) (cond (pm_cmp .ne a (nI 2)) (nI 1) (nI 5)) (nI 99)) (nI 4)))], [.int (nI (u + 1))], fset (aset (aset (fset h 162 0 (.int (nI 0))) 191 12 (upd (Ar h 191) u a)) 192 12 (upd (Ar h 192) u b)) 162 47 (.int (nI (u + 1))), 198, sl) = some R := hh
        have er18 : R = (some (.int (nI (u + 1))), fset (aset (aset (fset h 162 0 (.int (nI 0))) 191 12 (upd (Ar h 191) u a)) 192 12 (upd (Ar h 192) u b)) 162 47 (.int (nI (u + 1))), 198, sl) := (rn_ret rfl (Or.inl rfl) hh).2
        have ed : v251 q cc gc h u a b = (nI (u + 1), fset (aset (aset (fset h 162 0 (.int (nI 0))) 191 12 (upd (Ar h 191) u a)) 192 12 (upd (Ar h 192) u b)) 162 47 (.int (nI (u + 1)))) := (ct z8).trans ((ct z13).trans ((ct z14).trans rfl))
        refine ⟨?_, ?_, ?_⟩ <;> rw [ed]
        · exact er18
        · exact (hc_f rfl rfl (by decide) rfl (hc_a rfl rfl (hc_a rfl rfl (hc_f rfl rfl (by decide) rfl hw))))
        · exact (fr_f rfl rfl (fr_a rfl rfl (fr_a rfl rfl (fr_f rfl rfl fr_0))))
      | false =>
        have hh := en_f z14 hh
        have hh : pm_run PT n fr lo 251 (79, [some (.ref 162), some (.int a), some (.int b), some (.int (cond (pm_cmp .ne a 0) (cond (pm_cmp .ne a (nI 1)) (cond (pm_cmp .ne a (nI 2)) (nI 1) (nI 5)) (nI 99)) (nI 4)))], [], fset h 162 0 (.int (nI 0)), 198, sl) = some R := hh
        have y19 := of_decide_eq_false z14
        obtain ⟨n, hh⟩ := rn_i rfl rfl rfl rfl hh
        have hh : pm_run PT n fr lo 251 (80, [some (.ref 162), some (.int a), some (.int b), some (.int (cond (pm_cmp .ne a 0) (cond (pm_cmp .ne a (nI 1)) (cond (pm_cmp .ne a (nI 2)) (nI 1) (nI 5)) (nI 99)) (nI 4)))], [.int (Int32.ofInt (-1))], fset h 162 0 (.int (nI 0)), 198, sl) = some R := hh
        have er20 : R = (some (.int (Int32.ofInt (-1))), fset h 162 0 (.int (nI 0)), 198, sl) := (rn_ret rfl (Or.inl rfl) hh).2
        have ed : v251 q cc gc h u a b = ((Int32.ofInt (-1)), fset h 162 0 (.int (nI 0))) := (ct z8).trans ((ct z13).trans ((cf z14).trans rfl))
        refine ⟨?_, ?_, ?_⟩ <;> rw [ed]
        · exact er20
        · exact (hc_f rfl rfl (by decide) rfl hw)
        · exact (fr_f rfl rfl fr_0)
    | false =>
      have hh := en_nf z13 hh
      have hh : pm_run PT n fr lo 251 (79, [some (.ref 162), some (.int a), some (.int b), some (.int (cond (pm_cmp .ne a 0) (cond (pm_cmp .ne a (nI 1)) (cond (pm_cmp .ne a (nI 2)) (nI 1) (nI 5)) (nI 99)) (nI 4)))], [], fset h 162 0 (.int (nI 0)), 198, sl) = some R := hh
      obtain ⟨n, hh⟩ := rn_i rfl rfl rfl rfl hh
      have hh : pm_run PT n fr lo 251 (80, [some (.ref 162), some (.int a), some (.int b), some (.int (cond (pm_cmp .ne a 0) (cond (pm_cmp .ne a (nI 1)) (cond (pm_cmp .ne a (nI 2)) (nI 1) (nI 5)) (nI 99)) (nI 4)))], [.int (Int32.ofInt (-1))], fset h 162 0 (.int (nI 0)), 198, sl) = some R := hh
      have er21 : R = (some (.int (Int32.ofInt (-1))), fset h 162 0 (.int (nI 0)), 198, sl) := (rn_ret rfl (Or.inl rfl) hh).2
      have ed : v251 q cc gc h u a b = ((Int32.ofInt (-1)), fset h 162 0 (.int (nI 0))) := (ct z8).trans ((cf z13).trans rfl)
      refine ⟨?_, ?_, ?_⟩ <;> rw [ed]
      · exact er21
      · exact (hc_f rfl rfl (by decide) rfl hw)
      · exact (fr_f rfl rfl fr_0)
  | false =>
    have hh := en_nf z8 hh
    have hh : pm_run PT n fr lo 251 (79, [some (.ref 162), some (.int a), some (.int b), some (.int (cond (pm_cmp .ne a 0) (cond (pm_cmp .ne a (nI 1)) (cond (pm_cmp .ne a (nI 2)) (nI 1) (nI 5)) (nI 99)) (nI 4)))], [], fset h 162 0 (.int (nI 0)), 198, sl) = some R := hh
    obtain ⟨n, hh⟩ := rn_i rfl rfl rfl rfl hh
    have hh : pm_run PT n fr lo 251 (80, [some (.ref 162), some (.int a), some (.int b), some (.int (cond (pm_cmp .ne a 0) (cond (pm_cmp .ne a (nI 1)) (cond (pm_cmp .ne a (nI 2)) (nI 1) (nI 5)) (nI 99)) (nI 4)))], [.int (Int32.ofInt (-1))], fset h 162 0 (.int (nI 0)), 198, sl) = some R := hh
    have er22 : R = (some (.int (Int32.ofInt (-1))), fset h 162 0 (.int (nI 0)), 198, sl) := (rn_ret rfl (Or.inl rfl) hh).2
    have ed : v251 q cc gc h u a b = ((Int32.ofInt (-1)), fset h 162 0 (.int (nI 0))) := (cf z8).trans rfl
    refine ⟨?_, ?_, ?_⟩ <;> rw [ed]
    · exact er22
    · exact (hc_f rfl rfl (by decide) rfl hw)
    · exact (fr_f rfl rfl fr_0)
def v262 (q : QT) (cc gc : Nat) (h : pm_H) (m : Nat) : Int32 × pm_H := (irm (ushr (((Fi h 162 51) * (nI 1103515245)) + (nI 12345)) (nI 16)) (nI m), fset h 162 51 (.int (((Fi h 162 51) * (nI 1103515245)) + (nI 12345))))
theorem v262_ok {n fr lo sl cc gc : Nat} {q : QT} {h : pm_H} {R : pm_Rs} {m : Nat} (hw : HC q cc gc h) (h_m : m < 10000) (hh : pm_run PT n fr lo 262 (0, pm_l0 [.ref 162, .int (nI m)] 2, [], h, 198, sl) = some R) : R = (some (.int ((v262 q cc gc h m).1)), (v262 q cc gc h m).2, 198, sl) ∧ HC q cc gc ((v262 q cc gc h m).2) ∧ frm [162] [(162, 51)] h ((v262 q cc gc h m).2) := by
  have hcc := hw.cb
  have hgc := hw.gb
  have hzr := hw.zr
  obtain ⟨n, hh⟩ := rn_i rfl rfl rfl rfl hh
  obtain ⟨n, hh⟩ := rn_i rfl rfl rfl rfl hh
  have hh : pm_run PT n fr lo 262 (2, [some (.ref 162), some (.int (nI m))], [.ref 162, .ref 162], h, 198, sl) = some R := hh
  obtain ⟨n, hh⟩ := rn_gi (x := Fi h 162 51) hw.wt rfl rfl (by decide) rfl (by decide) rfl rfl hh
  obtain ⟨n, hh⟩ := rn_i rfl rfl rfl rfl hh
  obtain ⟨n, hh⟩ := rn_i rfl rfl rfl rfl hh
  obtain ⟨n, hh⟩ := rn_i rfl rfl rfl rfl hh
  obtain ⟨n, hh⟩ := rn_i rfl rfl rfl rfl hh
  have hh : pm_run PT n fr lo 262 (13, [some (.ref 162), some (.int (nI m))], [.int (((Fi h 162 51) * (nI 1103515245)) + (nI 12345)), .ref 162], h, 198, sl) = some R := hh
  obtain ⟨n, hh⟩ := rn_pi hw.wt rfl rfl (by decide) rfl (by decide) rfl hh
  obtain ⟨n, hh⟩ := rn_i rfl rfl rfl rfl hh
  have hh : pm_run PT n fr lo 262 (17, [some (.ref 162), some (.int (nI m))], [.ref 162], fset h 162 51 (.int (((Fi h 162 51) * (nI 1103515245)) + (nI 12345))), 198, sl) = some R := hh
  obtain ⟨n, hh⟩ := rn_gi (x := ((Fi h 162 51) * (nI 1103515245)) + (nI 12345)) (hc_f rfl rfl (by decide) rfl hw).wt rfl rfl (by decide) rfl (by decide) rfl (Fi_s hw.wt (by decide) rfl (by decide) rfl) hh
  obtain ⟨n, hh⟩ := rn_i rfl rfl rfl rfl hh
  obtain ⟨n, hh⟩ := rn_i rfl rfl rfl rfl hh
  obtain ⟨n, hh⟩ := rn_i rfl rfl rfl rfl hh
  have hh : pm_run PT n fr lo 262 (24, [some (.ref 162), some (.int (nI m))], [.int (nI m), .int (ushr (((Fi h 162 51) * (nI 1103515245)) + (nI 12345)) (nI 16))], fset h 162 51 (.int (((Fi h 162 51) * (nI 1103515245)) + (nI 12345))), 198, sl) = some R := hh
  obtain ⟨n, hz1, hh⟩ := rn_rm rfl hh
  have hh : pm_run PT n fr lo 262 (25, [some (.ref 162), some (.int (nI m))], [.int (irm (ushr (((Fi h 162 51) * (nI 1103515245)) + (nI 12345)) (nI 16)) (nI m))], fset h 162 51 (.int (((Fi h 162 51) * (nI 1103515245)) + (nI 12345))), 198, sl) = some R := hh
  have er2 : R = (some (.int (irm (ushr (((Fi h 162 51) * (nI 1103515245)) + (nI 12345)) (nI 16)) (nI m))), fset h 162 51 (.int (((Fi h 162 51) * (nI 1103515245)) + (nI 12345))), 198, sl) := (rn_ret rfl (Or.inl rfl) hh).2
  have ed : v262 q cc gc h m = (irm (ushr (((Fi h 162 51) * (nI 1103515245)) + (nI 12345)) (nI 16)) (nI m), fset h 162 51 (.int (((Fi h 162 51) * (nI 1103515245)) + (nI 12345)))) := rfl
  refine ⟨?_, ?_, ?_⟩ <;> rw [ed]
  · exact er2
  · exact (hc_f rfl rfl (by decide) rfl hw)
  · exact (fr_f rfl rfl fr_0)
def v125 (q : QT) (cc gc : Nat) (h : pm_H) (i : Nat) : Bool × pm_H := cond (decide (i < 3)) (true, fset (cp73 h (124 + 6 * i) 13) 0 7 (.int ((Fi h 0 7) ||| (shl (nI 1) (nI i))))) (false, h)
theorem v125_ok {n fr lo sl cc gc : Nat} {q : QT} {h : pm_H} {R : pm_Rs} {i : Nat} (hw : HC q cc gc h) (h_i : i < 10000) (hi3 : i < 3) (hh : pm_run PT n fr lo 125 (0, pm_l0 [.ref 0, .int (nI i)] 2, [], h, 198, sl) = some R) : R = (some (.int (cond (v125 q cc gc h i).1 1 0)), (v125 q cc gc h i).2, 198, sl) ∧ HC q cc gc ((v125 q cc gc h i).2) ∧ frm [0, 124, 125, 126, 127, 128, 129, 130, 131, 132, 133, 134, 135, 136, 137, 138, 139, 140, 141] [(0, 7), (124, 5), (124, 6), (130, 5), (130, 6), (136, 5), (136, 6)] h ((v125 q cc gc h i).2) := by
  have hcc := hw.cb
  have hgc := hw.gb
  have hzr := hw.zr
  obtain ⟨n, hh⟩ := rn_i rfl rfl rfl rfl hh
  have hh : pm_run PT n fr lo 125 (1, [some (.ref 0), some (.int (nI i))], [.int (nI i)], h, 198, sl) = some R := hh
  obtain ⟨n, hh⟩ := en_zn (cc := .lt) (off := 8) (t := 9) (b := decide (i < 0)) (hI_lt (b := 0) (by omega) (by omega)) rfl rfl hh
  have hh := en_f (show decide (i < 0) = false from decide_eq_false (by omega)) hh
  have hh : pm_run PT n fr lo 125 (4, [some (.ref 0), some (.int (nI i))], [], h, 198, sl) = some R := hh
  obtain ⟨n, hh⟩ := rn_i rfl rfl rfl rfl hh
  obtain ⟨n, hh⟩ := rn_i rfl rfl rfl rfl hh
  have hh : pm_run PT n fr lo 125 (6, [some (.ref 0), some (.int (nI i))], [.int (nI 3), .int (nI i)], h, 198, sl) = some R := hh
  obtain ⟨n, hh⟩ := en_cn (cc := .lt) (off := 5) (t := 11) (b := decide (i < 3)) (hI_lt (by omega) (by omega)) rfl rfl hh
  cases z1 : decide (i < 3) with
  | true =>
    have hh := en_t z1 hh
    have hh : pm_run PT n fr lo 125 (11, [some (.ref 0), some (.int (nI i))], [], h, 198, sl) = some R := hh
    have y2 := of_decide_eq_true z1
    obtain ⟨n, hh⟩ := rn_i rfl rfl rfl rfl hh
    have hh : pm_run PT n fr lo 125 (12, [some (.ref 0), some (.int (nI i))], [.ref 0], h, 198, sl) = some R := hh
    obtain ⟨n, hh⟩ := rn_gr hw.wt rfl rfl (by decide) rfl (by decide) (show _ = some (2, ((123 : Nat) : Int), 1) from rfl) rfl hh
    obtain ⟨n, hh⟩ := rn_i rfl rfl rfl rfl hh
    have hh : pm_run PT n fr lo 125 (16, [some (.ref 0), some (.int (nI i))], [.int (nI i), .ref 123], h, 198, sl) = some R := hh
    obtain ⟨n, hx3, hh⟩ := en_q123 (t := i) (by omega) hw.wt rfl hh
    have hh : pm_run PT n fr lo 125 (17, [some (.ref 0), some (.int (nI i))], [.ref (124 + 6 * i)], h, 198, sl) = some R := hh
    obtain ⟨n, hh⟩ := rn_i rfl rfl rfl rfl hh
    have hh : pm_run PT n fr lo 125 (18, [some (.ref 0), some (.int (nI i))], [.ref 0, .ref (124 + 6 * i)], h, 198, sl) = some R := hh
    obtain ⟨n, hh⟩ := rn_gr hw.wt rfl rfl (by decide) rfl (by decide) (show _ = some (2, ((13 : Nat) : Int), 1) from rfl) rfl hh
    have hh : pm_run PT n fr lo 125 (21, [some (.ref 0), some (.int (nI i))], [.ref 13, .ref (124 + 6 * i)], h, 198, sl) = some R := hh
    obtain ⟨n, fr1, lo1, r1, hh1, hh⟩ := rn_call (w := 0) (t := 73) rfl rfl hh
    obtain ⟨er4, hc5⟩ := cp73_ok (xst_124 (by omega)) rfl (by omega) hw hh1
    subst er4
    obtain ⟨n, hh⟩ := rn_i rfl rfl rfl rfl hh
    obtain ⟨n, hh⟩ := rn_i rfl rfl rfl rfl hh
    have hh : pm_run PT n fr lo 125 (26, [some (.ref 0), some (.int (nI i))], [.ref 0, .ref 0], cp73 h (124 + 6 * i) 13, 198, sl) = some R := hh
    obtain ⟨n, hh⟩ := rn_gi (x := Fi h 0 7) hc5.wt rfl rfl (by decide) rfl (by decide) rfl ((Fi_e (cp73_ne (by omega))).trans rfl) hh
    obtain ⟨n, hh⟩ := rn_i rfl rfl rfl rfl hh
    obtain ⟨n, hh⟩ := rn_i rfl rfl rfl rfl hh
    obtain ⟨n, hh⟩ := rn_i rfl rfl rfl rfl hh
    obtain ⟨n, hh⟩ := rn_i rfl rfl rfl rfl hh
    have hh : pm_run PT n fr lo 125 (33, [some (.ref 0), some (.int (nI i))], [.int ((Fi h 0 7) ||| (shl (nI 1) (nI i))), .ref 0], cp73 h (124 + 6 * i) 13, 198, sl) = some R := hh
    obtain ⟨n, hh⟩ := rn_pi hc5.wt rfl rfl (by decide) rfl (by decide) rfl hh
    obtain ⟨n, hh⟩ := rn_i rfl rfl rfl rfl hh
    have hh : pm_run PT n fr lo 125 (37, [some (.ref 0), some (.int (nI i))], [.int (nI 1)], fset (cp73 h (124 + 6 * i) 13) 0 7 (.int ((Fi h 0 7) ||| (shl (nI 1) (nI i)))), 198, sl) = some R := hh
    have er6 : R = (some (.int (nI 1)), fset (cp73 h (124 + 6 * i) 13) 0 7 (.int ((Fi h 0 7) ||| (shl (nI 1) (nI i)))), 198, sl) := (rn_ret rfl (Or.inr rfl) hh).2
    have ed : v125 q cc gc h i = (true, fset (cp73 h (124 + 6 * i) 13) 0 7 (.int ((Fi h 0 7) ||| (shl (nI 1) (nI i))))) := (ct z1).trans rfl
    refine ⟨?_, ?_, ?_⟩ <;> rw [ed]
    · exact er6
    · exact (hc_f rfl rfl (by decide) rfl hc5)
    · exact (fr_f rfl rfl (fr_c124 (by omega) hw.wt rfl rfl fr_0))
  | false =>
    have hh := en_f z1 hh
    have hh : pm_run PT n fr lo 125 (9, [some (.ref 0), some (.int (nI i))], [], h, 198, sl) = some R := hh
    have y7 := of_decide_eq_false z1
    obtain ⟨n, hh⟩ := rn_i rfl rfl rfl rfl hh
    have hh : pm_run PT n fr lo 125 (10, [some (.ref 0), some (.int (nI i))], [.int (nI 0)], h, 198, sl) = some R := hh
    have er8 : R = (some (.int (nI 0)), h, 198, sl) := (rn_ret rfl (Or.inr rfl) hh).2
    have ed : v125 q cc gc h i = (false, h) := (cf z1).trans rfl
    refine ⟨?_, ?_, ?_⟩ <;> rw [ed]
    · exact er8
    · exact hw
    · exact fr_0
def v126 (q : QT) (cc gc : Nat) (h : pm_H) (i : Nat) : Bool × pm_H := cond (decide (3 ≤ i)) (false, h) (cond (pm_cmp .ne ((shr (Fi h 0 7) (nI i)) &&& (nI 1)) 0) (true, fset (cp73 h 13 (124 + 6 * i)) 25 2 (.int (nI 0))) (false, h))
theorem v126_ok {n fr lo sl cc gc : Nat} {q : QT} {h : pm_H} {R : pm_Rs} {i : Nat} (hw : HC q cc gc h) (h_i : i < 10000) (hh : pm_run PT n fr lo 126 (0, pm_l0 [.ref 0, .int (nI i)] 2, [], h, 198, sl) = some R) : R = (some (.int (cond (v126 q cc gc h i).1 1 0)), (v126 q cc gc h i).2, 198, sl) ∧ HC q cc gc ((v126 q cc gc h i).2) ∧ frm [13, 14, 15, 16, 17, 18, 25] [(13, 5), (13, 6), (25, 2)] h ((v126 q cc gc h i).2) := by
  have hcc := hw.cb
  have hgc := hw.gb
  have hzr := hw.zr
  obtain ⟨n, hh⟩ := rn_i rfl rfl rfl rfl hh
  have hh : pm_run PT n fr lo 126 (1, [some (.ref 0), some (.int (nI i))], [.int (nI i)], h, 198, sl) = some R := hh
  obtain ⟨n, hh⟩ := en_zn (cc := .lt) (off := 19) (t := 20) (b := decide (i < 0)) (hI_lt (b := 0) (by omega) (by omega)) rfl rfl hh
  have hh := en_f (show decide (i < 0) = false from decide_eq_false (by omega)) hh
  have hh : pm_run PT n fr lo 126 (4, [some (.ref 0), some (.int (nI i))], [], h, 198, sl) = some R := hh
  obtain ⟨n, hh⟩ := rn_i rfl rfl rfl rfl hh
  obtain ⟨n, hh⟩ := rn_i rfl rfl rfl rfl hh
  have hh : pm_run PT n fr lo 126 (6, [some (.ref 0), some (.int (nI i))], [.int (nI 3), .int (nI i)], h, 198, sl) = some R := hh
  obtain ⟨n, hh⟩ := en_cn (cc := .ge) (off := 14) (t := 20) (b := decide (3 ≤ i)) (hI_ge (by omega) (by omega)) rfl rfl hh
  cases z1 : decide (3 ≤ i) with
  | true =>
    have hh := en_t z1 hh
    have hh : pm_run PT n fr lo 126 (20, [some (.ref 0), some (.int (nI i))], [], h, 198, sl) = some R := hh
    have y2 := of_decide_eq_true z1
    obtain ⟨n, hh⟩ := rn_i rfl rfl rfl rfl hh
    have hh : pm_run PT n fr lo 126 (21, [some (.ref 0), some (.int (nI i))], [.int (nI 0)], h, 198, sl) = some R := hh
    have er3 : R = (some (.int (nI 0)), h, 198, sl) := (rn_ret rfl (Or.inr rfl) hh).2
    have ed : v126 q cc gc h i = (false, h) := (ct z1).trans rfl
    refine ⟨?_, ?_, ?_⟩ <;> rw [ed]
    · exact er3
    · exact hw
    · exact fr_0
  | false =>
    have hh := en_f z1 hh
    have hh : pm_run PT n fr lo 126 (9, [some (.ref 0), some (.int (nI i))], [], h, 198, sl) = some R := hh
    have y4 := of_decide_eq_false z1
    obtain ⟨n, hh⟩ := rn_i rfl rfl rfl rfl hh
    have hh : pm_run PT n fr lo 126 (10, [some (.ref 0), some (.int (nI i))], [.ref 0], h, 198, sl) = some R := hh
    obtain ⟨n, hh⟩ := rn_gi (x := Fi h 0 7) hw.wt rfl rfl (by decide) rfl (by decide) rfl rfl hh
    obtain ⟨n, hh⟩ := rn_i rfl rfl rfl rfl hh
    obtain ⟨n, hh⟩ := rn_i rfl rfl rfl rfl hh
    obtain ⟨n, hh⟩ := rn_i rfl rfl rfl rfl hh
    obtain ⟨n, hh⟩ := rn_i rfl rfl rfl rfl hh
    have hh : pm_run PT n fr lo 126 (17, [some (.ref 0), some (.int (nI i))], [.int ((shr (Fi h 0 7) (nI i)) &&& (nI 1))], h, 198, sl) = some R := hh
    obtain ⟨n, hh⟩ := en_zn (cc := .ne) (off := 5) (t := 22) (b := pm_cmp .ne ((shr (Fi h 0 7) (nI i)) &&& (nI 1)) 0) rfl rfl rfl hh
    cases z5 : pm_cmp .ne ((shr (Fi h 0 7) (nI i)) &&& (nI 1)) 0 with
    | true =>
      have hh := en_t z5 hh
      have hh : pm_run PT n fr lo 126 (22, [some (.ref 0), some (.int (nI i))], [], h, 198, sl) = some R := hh
      obtain ⟨n, hh⟩ := rn_i rfl rfl rfl rfl hh
      have hh : pm_run PT n fr lo 126 (23, [some (.ref 0), some (.int (nI i))], [.ref 0], h, 198, sl) = some R := hh
      obtain ⟨n, hh⟩ := rn_gr hw.wt rfl rfl (by decide) rfl (by decide) (show _ = some (2, ((13 : Nat) : Int), 1) from rfl) rfl hh
      obtain ⟨n, hh⟩ := rn_i rfl rfl rfl rfl hh
      have hh : pm_run PT n fr lo 126 (27, [some (.ref 0), some (.int (nI i))], [.ref 0, .ref 13], h, 198, sl) = some R := hh
      obtain ⟨n, hh⟩ := rn_gr hw.wt rfl rfl (by decide) rfl (by decide) (show _ = some (2, ((123 : Nat) : Int), 1) from rfl) rfl hh
      obtain ⟨n, hh⟩ := rn_i rfl rfl rfl rfl hh
      have hh : pm_run PT n fr lo 126 (31, [some (.ref 0), some (.int (nI i))], [.int (nI i), .ref 123, .ref 13], h, 198, sl) = some R := hh
      obtain ⟨n, hx6, hh⟩ := en_q123 (t := i) (by omega) hw.wt rfl hh
      have hh : pm_run PT n fr lo 126 (32, [some (.ref 0), some (.int (nI i))], [.ref (124 + 6 * i), .ref 13], h, 198, sl) = some R := hh
      have hh : pm_run PT n fr lo 126 (32, [some (.ref 0), some (.int (nI i))], [.ref (124 + 6 * i), .ref 13], h, 198, sl) = some R := hh
      obtain ⟨n, fr1, lo1, r1, hh1, hh⟩ := rn_call (w := 0) (t := 73) rfl rfl hh
      obtain ⟨er7, hc8⟩ := cp73_ok rfl (xst_124 (by omega)) (by omega) hw hh1
      subst er7
      obtain ⟨n, hh⟩ := rn_i rfl rfl rfl rfl hh
      have hh : pm_run PT n fr lo 126 (36, [some (.ref 0), some (.int (nI i))], [.ref 0], cp73 h 13 (124 + 6 * i), 198, sl) = some R := hh
      obtain ⟨n, hh⟩ := rn_gr hc8.wt rfl rfl (by decide) rfl (by decide) (show _ = some (2, ((25 : Nat) : Int), 1) from rfl) rfl hh
      have hh : pm_run PT n fr lo 126 (39, [some (.ref 0), some (.int (nI i))], [.ref 25], cp73 h 13 (124 + 6 * i), 198, sl) = some R := hh
      obtain ⟨n, fr1, lo1, r1, hh1, hh⟩ := rn_call (w := 0) (t := 20) rfl rfl hh
      have hh1 : pm_run PT n fr1 lo1 20 (0, [some (.ref 25)], [], cp73 h 13 (124 + 6 * i), 198, sl) = some r1 := hh1
      obtain ⟨n1, hh1⟩ := rn_i rfl rfl rfl rfl hh1
      obtain ⟨n1, hh1⟩ := rn_i rfl rfl rfl rfl hh1
      have hh1 : pm_run PT n1 fr1 lo1 20 (2, [some (.ref 25)], [.int (nI 0), .ref 25], cp73 h 13 (124 + 6 * i), 198, sl) = some r1 := hh1
      obtain ⟨n1, hh1⟩ := rn_pi hc8.wt rfl rfl (by decide) rfl (by decide) rfl hh1
      have er9 : r1 = (none, fset (cp73 h 13 (124 + 6 * i)) 25 2 (.int (nI 0)), 198, sl) := rn_vret rfl rfl hh1
      subst er9
      obtain ⟨n, hh⟩ := rn_i rfl rfl rfl rfl hh
      have hh : pm_run PT n fr lo 126 (43, [some (.ref 0), some (.int (nI i))], [.int (nI 1)], fset (cp73 h 13 (124 + 6 * i)) 25 2 (.int (nI 0)), 198, sl) = some R := hh
      have er10 : R = (some (.int (nI 1)), fset (cp73 h 13 (124 + 6 * i)) 25 2 (.int (nI 0)), 198, sl) := (rn_ret rfl (Or.inr rfl) hh).2
      have ed : v126 q cc gc h i = (true, fset (cp73 h 13 (124 + 6 * i)) 25 2 (.int (nI 0))) := (cf z1).trans ((ct z5).trans rfl)
      refine ⟨?_, ?_, ?_⟩ <;> rw [ed]
      · exact er10
      · exact (hc_f rfl rfl (by decide) rfl hc8)
      · exact (fr_f rfl rfl (fr_cs rfl hw.wt rfl rfl fr_0))
    | false =>
      have hh := en_f z5 hh
      have hh : pm_run PT n fr lo 126 (20, [some (.ref 0), some (.int (nI i))], [], h, 198, sl) = some R := hh
      obtain ⟨n, hh⟩ := rn_i rfl rfl rfl rfl hh
      have hh : pm_run PT n fr lo 126 (21, [some (.ref 0), some (.int (nI i))], [.int (nI 0)], h, 198, sl) = some R := hh
      have er11 : R = (some (.int (nI 0)), h, 198, sl) := (rn_ret rfl (Or.inr rfl) hh).2
      have ed : v126 q cc gc h i = (false, h) := (cf z1).trans ((cf z5).trans rfl)
      refine ⟨?_, ?_, ?_⟩ <;> rw [ed]
      · exact er11
      · exact hw
      · exact fr_0
end EG
end MH95zzxkx0
section MH95zzxkx1
section MG95zzyax0
/-! what both sides tell of like states: functions alone -/
section PUR
variable {cc gc : Nat} {q : QT} {g e d hd ha r : Nat → Int32} {x m : Int32}
theorem lp_rl {α β : Type} {f : Nat → α → α} {f' : Nat → β → β} {P : Nat → α → β → Prop} : ∀ (j i : Nat) (a : α) (b : β), P i a b → (∀ k a b, i ≤ k → k < i + j → P k a b → P (k + 1) (f k a) (f' k b)) → P (i + j) (lp f j i a) (lp f' j i b)
  | 0, _, _, _, h, _ => h
  | j + 1, i, a, b, h, s => by
    have q := lp_rl j (i + 1) (f i a) (f' i b) (s i a b (Nat.le_refl _) (by omega) h) (fun k a b h1 h2 => s k a b (by omega) (by omega))
    rw [show i + 1 + j = i + (j + 1) by omega] at q
    exact q
theorem lp_in {α : Type} {f : Nat → α → α} {P : Nat → α → Prop} : ∀ (j i : Nat) (a : α), P i a → (∀ k a, i ≤ k → k < i + j → P k a → P (k + 1) (f k a)) → P (i + j) (lp f j i a)
  | 0, _, _, h, _ => h
  | j + 1, i, a, h, s => by
    have q := lp_in j (i + 1) (f i a) (s i a (Nat.le_refl _) (by omega) h) (fun k a h1 h2 => s k a (by omega) (by omega))
    rw [show i + 1 + j = i + (j + 1) by omega] at q
    exact q
theorem and1 (x : Int32) : x &&& nI 1 = 0 ∨ x &&& nI 1 = nI 1 := by
  have e : (x &&& nI 1).toBitVec = BitVec.setWidth 32 (BitVec.ofBool (x.toBitVec.getLsbD 0)) := BitVec.and_one_eq_setWidth_ofBool_getLsbD
  cases z : x.toBitVec.getLsbD 0 with
  | false => rw [z] at e; exact Or.inl (Int32.toBitVec_inj.mp e)
  | true => rw [z] at e; exact Or.inr (Int32.toBitVec_inj.mp e)
theorem bt_eq (x : Int32) (k : Nat) : v164 q cc gc x (nI k) = v74 q cc gc x k := by
  unfold v164 v74
  rcases and1 (shr x (nI k)) with z | z <;> (rw [z]; decide)
theorem bt_75 (k : Nat) (c : Nat) : v75 q cc gc ha k c = v164 q cc gc (ha k) (nI c) := by
  unfold v75 v164
  rcases and1 (shr (ha k) (nI c)) with z | z <;> (rw [z]; decide)
/-- a state of the class tells what a row of the reference tells -/
def RS (cc gc : Nat) (g e d hd ha : Nat → Int32) (x m : Int32) (r : Nat → Int32) : Prop :=
  (∀ c, c < 6 → g c = r c) ∧ (∀ a b, a < cc → b < cc → a ≠ b → e (a * 6 + b) = r (6 + 6 * a + b)) ∧ (∀ a b, a < 6 → b < 6 → d (a * 6 + b) = r (42 + 6 * a + b)) ∧ (∀ j, j < gc → hd j = r (78 + j)) ∧ (∀ j, j < gc → ha j = r (86 + j)) ∧ x = r 94 ∧ m = r 95
theorem eq_74 (s : RS cc gc g e d hd ha x m r) (k : Nat) : v74 q cc gc x k = v173 q cc gc r k := by
  unfold v173
  rw [bt_eq, s.2.2.2.2.2.1]
theorem eq_75 (s : RS cc gc g e d hd ha x m r) {k : Nat} (hk : k < gc) (c : Nat) : v75 q cc gc ha k c = v164 q cc gc (r (86 + k)) (nI c) := by
  rw [bt_75, s.2.2.2.2.1 k hk]
end PUR
end MG95zzyax0
section MG95zzyax1
/-! both codes tell the same values -/
section DEN
variable {cc gc : Nat} {q : QT} {f : Nat → Int32} {t : Nat} {ds es d2 e2 : List Int32}
/-- a step of the class's evaluation, of the reference's, on a stack -/
def stO (q : QT) (cc gc : Nat) (s : List Int32) (c : Int32) : List Int32 := cond (pm_cmp .ne c (Int32.ofInt (-126))) (v71 q cc gc (-c) (s.tail.headD 0) (s.headD 0) :: s.tail.tail) (-(s.headD 0) :: s.tail)
def stX (q : QT) (cc gc : Nat) (A : Nat → Int32) (s : List Int32) (c : Int32) : List Int32 := cond (pm_cmp .lt c 0) (cond (pm_cmp .lt (v67 q cc gc (-c)) 0) (stO q cc gc s c) (cond (pm_cmp .ge (v67 q cc gc (-c)) (nI 7)) (stO q cc gc s c) (A (v67 q cc gc (-c)).toNatClampNeg :: s))) (c :: s)
def stM (q : QT) (cc gc : Nat) (A : Nat → Int32) (s : List Int32) (c : Int32) : List Int32 := cond (pm_cmp .ne c (nI 3000)) (cond (pm_cmp .lt c (nI 2000)) ((cond (pm_cmp .lt c (nI 1000)) c (A (c - nI 1000).toNatClampNeg)) :: s) (v199 q cc gc (c - nI 2000) (s.tail.headD 0) (s.headD 0) :: s.tail.tail)) (-(s.headD 0) :: s.tail)
def den (q : QT) (cc gc : Nat) (ds es : List Int32) : Prop := ∃ V : (Nat → Int32) → Int32, ∀ A s, ds.foldl (stX q cc gc A) s = V A :: s ∧ es.foldl (stM q cc gc A) s = V A :: s
def denL (q : QT) (cc gc : Nat) (ds es : List Int32) : Prop := ∃ W : (Nat → Int32) → Int32 → Int32, ∀ A v s, ds.foldl (stX q cc gc A) (v :: s) = W A v :: s ∧ es.foldl (stM q cc gc A) (v :: s) = W A v :: s
theorem den_app (h1 : den q cc gc ds es) (h2 : denL q cc gc d2 e2) : den q cc gc (ds ++ d2) (es ++ e2) := by
  obtain ⟨V, hV⟩ := h1
  obtain ⟨W, hW⟩ := h2
  refine ⟨fun A => W A (V A), fun A s => ?_⟩
  rw [List.foldl_append, List.foldl_append, (hV A s).1, (hV A s).2]
  exact hW A (V A) s
theorem denL_nil : denL q cc gc [] [] := ⟨fun _ v => v, fun _ _ _ => ⟨rfl, rfl⟩⟩
theorem denL_op {c c' : Int32} {J : Int32 → Int32 → Int32} (h1 : den q cc gc ds es) (hJ : ∀ A a b s, stX q cc gc A (b :: a :: s) c = J a b :: s ∧ stM q cc gc A (b :: a :: s) c' = J a b :: s) (h2 : denL q cc gc d2 e2) : denL q cc gc (ds ++ c :: d2) (es ++ c' :: e2) := by
  obtain ⟨V, hV⟩ := h1
  obtain ⟨W, hW⟩ := h2
  refine ⟨fun A v => W A (J v (V A)), fun A v s => ?_⟩
  rw [List.foldl_append, List.foldl_append, (hV A (v :: s)).1, (hV A (v :: s)).2, List.foldl_cons, List.foldl_cons, (hJ A v (V A) s).1, (hJ A v (V A) s).2]
  exact hW A _ s
theorem j71_60 (a b : Int32) : v71 q cc gc (nI 60) a b = cond (cond (pm_cmp .ge a b) false true) 1 0 := by
  unfold v71
  rw [show pm_cmp .eq (nI 60) (nI 42) = false from by decide, show pm_cmp .eq (nI 60) (nI 43) = false from by decide, show pm_cmp .eq (nI 60) (nI 45) = false from by decide, show pm_cmp .eq (nI 60) (nI 60) = true from by decide]
  try rfl
theorem j199_60 (a b : Int32) : v199 q cc gc (nI 0) a b = cond (cond (pm_cmp .ge a b) false true) 1 0 := by
  unfold v199
  rw [show pm_cmp .eq (nI 0) (nI 0) = true from by decide]
  try rfl
theorem op_60 (A : Nat → Int32) (a b : Int32) (s : List Int32) : stX q cc gc A (b :: a :: s) (-(nI 60)) = (cond (cond (pm_cmp .ge a b) false true) 1 0) :: s ∧ stM q cc gc A (b :: a :: s) (nI 2000) = (cond (cond (pm_cmp .ge a b) false true) 1 0) :: s := by
  constructor
  · unfold stX
    rw [show pm_cmp .lt (-(nI 60)) 0 = true from by decide, show -(-(nI 60)) = nI 60 from by decide]
    have e : v67 q cc gc (nI 60) = Int32.ofInt (-1) := by
      unfold v67
      rw [show pm_cmp .eq (nI 60) (nI 100) = false from by decide, show pm_cmp .eq (nI 60) (nI 101) = false from by decide, show pm_cmp .eq (nI 60) (nI 104) = false from by decide, show pm_cmp .eq (nI 60) (nI 107) = false from by decide, show pm_cmp .eq (nI 60) (nI 114) = false from by decide, show pm_cmp .eq (nI 60) (nI 115) = false from by decide, show pm_cmp .eq (nI 60) (nI 119) = false from by decide]
      rfl
    rw [e, show pm_cmp .lt (Int32.ofInt (-1)) 0 = true from by decide]
    show stO q cc gc (b :: a :: s) (-(nI 60)) = _
    unfold stO
    rw [show pm_cmp .ne (-(nI 60)) (Int32.ofInt (-126)) = true from by decide, show -(-(nI 60)) = nI 60 from by decide]
    show v71 q cc gc (nI 60) a b :: s = _
    rw [j71_60]
  · unfold stM
    rw [show pm_cmp .ne (nI 2000) (nI 3000) = true from by decide, show pm_cmp .lt (nI 2000) (nI 2000) = false from by decide, show nI 2000 - nI 2000 = nI 0 from by decide]
    show v199 q cc gc (nI 0) a b :: s = _
    rw [j199_60]
theorem j71_62 (a b : Int32) : v71 q cc gc (nI 62) a b = cond (cond (pm_cmp .le a b) false true) 1 0 := by
  unfold v71
  rw [show pm_cmp .eq (nI 62) (nI 42) = false from by decide, show pm_cmp .eq (nI 62) (nI 43) = false from by decide, show pm_cmp .eq (nI 62) (nI 45) = false from by decide, show pm_cmp .eq (nI 62) (nI 60) = false from by decide, show pm_cmp .eq (nI 62) (nI 61) = false from by decide, show pm_cmp .eq (nI 62) (nI 62) = true from by decide]
  try rfl
theorem j199_62 (a b : Int32) : v199 q cc gc (nI 1) a b = cond (cond (pm_cmp .le a b) false true) 1 0 := by
  unfold v199
  rw [show pm_cmp .eq (nI 1) (nI 0) = false from by decide, show pm_cmp .eq (nI 1) (nI 1) = true from by decide]
  try rfl
theorem op_62 (A : Nat → Int32) (a b : Int32) (s : List Int32) : stX q cc gc A (b :: a :: s) (-(nI 62)) = (cond (cond (pm_cmp .le a b) false true) 1 0) :: s ∧ stM q cc gc A (b :: a :: s) (nI 2001) = (cond (cond (pm_cmp .le a b) false true) 1 0) :: s := by
  constructor
  · unfold stX
    rw [show pm_cmp .lt (-(nI 62)) 0 = true from by decide, show -(-(nI 62)) = nI 62 from by decide]
    have e : v67 q cc gc (nI 62) = Int32.ofInt (-1) := by
      unfold v67
      rw [show pm_cmp .eq (nI 62) (nI 100) = false from by decide, show pm_cmp .eq (nI 62) (nI 101) = false from by decide, show pm_cmp .eq (nI 62) (nI 104) = false from by decide, show pm_cmp .eq (nI 62) (nI 107) = false from by decide, show pm_cmp .eq (nI 62) (nI 114) = false from by decide, show pm_cmp .eq (nI 62) (nI 115) = false from by decide, show pm_cmp .eq (nI 62) (nI 119) = false from by decide]
      rfl
    rw [e, show pm_cmp .lt (Int32.ofInt (-1)) 0 = true from by decide]
    show stO q cc gc (b :: a :: s) (-(nI 62)) = _
    unfold stO
    rw [show pm_cmp .ne (-(nI 62)) (Int32.ofInt (-126)) = true from by decide, show -(-(nI 62)) = nI 62 from by decide]
    show v71 q cc gc (nI 62) a b :: s = _
    rw [j71_62]
  · unfold stM
    rw [show pm_cmp .ne (nI 2001) (nI 3000) = true from by decide, show pm_cmp .lt (nI 2001) (nI 2000) = false from by decide, show nI 2001 - nI 2000 = nI 1 from by decide]
    show v199 q cc gc (nI 1) a b :: s = _
    rw [j199_62]
theorem j71_61 (a b : Int32) : v71 q cc gc (nI 61) a b = cond (cond (pm_cmp .ne a b) false true) 1 0 := by
  unfold v71
  rw [show pm_cmp .eq (nI 61) (nI 42) = false from by decide, show pm_cmp .eq (nI 61) (nI 43) = false from by decide, show pm_cmp .eq (nI 61) (nI 45) = false from by decide, show pm_cmp .eq (nI 61) (nI 60) = false from by decide, show pm_cmp .eq (nI 61) (nI 61) = true from by decide]
  try rfl
theorem j199_61 (a b : Int32) : v199 q cc gc (nI 2) a b = cond (cond (pm_cmp .ne a b) false true) 1 0 := by
  unfold v199
  rw [show pm_cmp .eq (nI 2) (nI 0) = false from by decide, show pm_cmp .eq (nI 2) (nI 1) = false from by decide, show pm_cmp .eq (nI 2) (nI 2) = true from by decide]
  try rfl
theorem op_61 (A : Nat → Int32) (a b : Int32) (s : List Int32) : stX q cc gc A (b :: a :: s) (-(nI 61)) = (cond (cond (pm_cmp .ne a b) false true) 1 0) :: s ∧ stM q cc gc A (b :: a :: s) (nI 2002) = (cond (cond (pm_cmp .ne a b) false true) 1 0) :: s := by
  constructor
  · unfold stX
    rw [show pm_cmp .lt (-(nI 61)) 0 = true from by decide, show -(-(nI 61)) = nI 61 from by decide]
    have e : v67 q cc gc (nI 61) = Int32.ofInt (-1) := by
      unfold v67
      rw [show pm_cmp .eq (nI 61) (nI 100) = false from by decide, show pm_cmp .eq (nI 61) (nI 101) = false from by decide, show pm_cmp .eq (nI 61) (nI 104) = false from by decide, show pm_cmp .eq (nI 61) (nI 107) = false from by decide, show pm_cmp .eq (nI 61) (nI 114) = false from by decide, show pm_cmp .eq (nI 61) (nI 115) = false from by decide, show pm_cmp .eq (nI 61) (nI 119) = false from by decide]
      rfl
    rw [e, show pm_cmp .lt (Int32.ofInt (-1)) 0 = true from by decide]
    show stO q cc gc (b :: a :: s) (-(nI 61)) = _
    unfold stO
    rw [show pm_cmp .ne (-(nI 61)) (Int32.ofInt (-126)) = true from by decide, show -(-(nI 61)) = nI 61 from by decide]
    show v71 q cc gc (nI 61) a b :: s = _
    rw [j71_61]
  · unfold stM
    rw [show pm_cmp .ne (nI 2002) (nI 3000) = true from by decide, show pm_cmp .lt (nI 2002) (nI 2000) = false from by decide, show nI 2002 - nI 2000 = nI 2 from by decide]
    show v199 q cc gc (nI 2) a b :: s = _
    rw [j199_61]
theorem j71_43 (a b : Int32) : v71 q cc gc (nI 43) a b = a + b := by
  unfold v71
  rw [show pm_cmp .eq (nI 43) (nI 42) = false from by decide, show pm_cmp .eq (nI 43) (nI 43) = true from by decide]
  try rfl
theorem j199_43 (a b : Int32) : v199 q cc gc (nI 3) a b = a + b := by
  unfold v199
  rw [show pm_cmp .eq (nI 3) (nI 0) = false from by decide, show pm_cmp .eq (nI 3) (nI 1) = false from by decide, show pm_cmp .eq (nI 3) (nI 2) = false from by decide, show pm_cmp .eq (nI 3) (nI 3) = true from by decide]
  try rfl
theorem op_43 (A : Nat → Int32) (a b : Int32) (s : List Int32) : stX q cc gc A (b :: a :: s) (-(nI 43)) = (a + b) :: s ∧ stM q cc gc A (b :: a :: s) (nI 2003) = (a + b) :: s := by
  constructor
  · unfold stX
    rw [show pm_cmp .lt (-(nI 43)) 0 = true from by decide, show -(-(nI 43)) = nI 43 from by decide]
    have e : v67 q cc gc (nI 43) = Int32.ofInt (-1) := by
      unfold v67
      rw [show pm_cmp .eq (nI 43) (nI 100) = false from by decide, show pm_cmp .eq (nI 43) (nI 101) = false from by decide, show pm_cmp .eq (nI 43) (nI 104) = false from by decide, show pm_cmp .eq (nI 43) (nI 107) = false from by decide, show pm_cmp .eq (nI 43) (nI 114) = false from by decide, show pm_cmp .eq (nI 43) (nI 115) = false from by decide, show pm_cmp .eq (nI 43) (nI 119) = false from by decide]
      rfl
    rw [e, show pm_cmp .lt (Int32.ofInt (-1)) 0 = true from by decide]
    show stO q cc gc (b :: a :: s) (-(nI 43)) = _
    unfold stO
    rw [show pm_cmp .ne (-(nI 43)) (Int32.ofInt (-126)) = true from by decide, show -(-(nI 43)) = nI 43 from by decide]
    show v71 q cc gc (nI 43) a b :: s = _
    rw [j71_43]
  · unfold stM
    rw [show pm_cmp .ne (nI 2003) (nI 3000) = true from by decide, show pm_cmp .lt (nI 2003) (nI 2000) = false from by decide, show nI 2003 - nI 2000 = nI 3 from by decide]
    show v199 q cc gc (nI 3) a b :: s = _
    rw [j199_43]
theorem j71_45 (a b : Int32) : v71 q cc gc (nI 45) a b = a - b := by
  unfold v71
  rw [show pm_cmp .eq (nI 45) (nI 42) = false from by decide, show pm_cmp .eq (nI 45) (nI 43) = false from by decide, show pm_cmp .eq (nI 45) (nI 45) = true from by decide]
  try rfl
theorem j199_45 (a b : Int32) : v199 q cc gc (nI 4) a b = a - b := by
  unfold v199
  rw [show pm_cmp .eq (nI 4) (nI 0) = false from by decide, show pm_cmp .eq (nI 4) (nI 1) = false from by decide, show pm_cmp .eq (nI 4) (nI 2) = false from by decide, show pm_cmp .eq (nI 4) (nI 3) = false from by decide, show pm_cmp .eq (nI 4) (nI 4) = true from by decide]
  try rfl
theorem op_45 (A : Nat → Int32) (a b : Int32) (s : List Int32) : stX q cc gc A (b :: a :: s) (-(nI 45)) = (a - b) :: s ∧ stM q cc gc A (b :: a :: s) (nI 2004) = (a - b) :: s := by
  constructor
  · unfold stX
    rw [show pm_cmp .lt (-(nI 45)) 0 = true from by decide, show -(-(nI 45)) = nI 45 from by decide]
    have e : v67 q cc gc (nI 45) = Int32.ofInt (-1) := by
      unfold v67
      rw [show pm_cmp .eq (nI 45) (nI 100) = false from by decide, show pm_cmp .eq (nI 45) (nI 101) = false from by decide, show pm_cmp .eq (nI 45) (nI 104) = false from by decide, show pm_cmp .eq (nI 45) (nI 107) = false from by decide, show pm_cmp .eq (nI 45) (nI 114) = false from by decide, show pm_cmp .eq (nI 45) (nI 115) = false from by decide, show pm_cmp .eq (nI 45) (nI 119) = false from by decide]
      rfl
    rw [e, show pm_cmp .lt (Int32.ofInt (-1)) 0 = true from by decide]
    show stO q cc gc (b :: a :: s) (-(nI 45)) = _
    unfold stO
    rw [show pm_cmp .ne (-(nI 45)) (Int32.ofInt (-126)) = true from by decide, show -(-(nI 45)) = nI 45 from by decide]
    show v71 q cc gc (nI 45) a b :: s = _
    rw [j71_45]
  · unfold stM
    rw [show pm_cmp .ne (nI 2004) (nI 3000) = true from by decide, show pm_cmp .lt (nI 2004) (nI 2000) = false from by decide, show nI 2004 - nI 2000 = nI 4 from by decide]
    show v199 q cc gc (nI 4) a b :: s = _
    rw [j199_45]
theorem j71_42 (a b : Int32) : v71 q cc gc (nI 42) a b = a * b := by
  unfold v71
  rw [show pm_cmp .eq (nI 42) (nI 42) = true from by decide]
  try rfl
theorem j199_42 (a b : Int32) : v199 q cc gc (nI 5) a b = a * b := by
  unfold v199
  rw [show pm_cmp .eq (nI 5) (nI 0) = false from by decide, show pm_cmp .eq (nI 5) (nI 1) = false from by decide, show pm_cmp .eq (nI 5) (nI 2) = false from by decide, show pm_cmp .eq (nI 5) (nI 3) = false from by decide, show pm_cmp .eq (nI 5) (nI 4) = false from by decide, show pm_cmp .eq (nI 5) (nI 5) = true from by decide]
  try rfl
theorem op_42 (A : Nat → Int32) (a b : Int32) (s : List Int32) : stX q cc gc A (b :: a :: s) (-(nI 42)) = (a * b) :: s ∧ stM q cc gc A (b :: a :: s) (nI 2005) = (a * b) :: s := by
  constructor
  · unfold stX
    rw [show pm_cmp .lt (-(nI 42)) 0 = true from by decide, show -(-(nI 42)) = nI 42 from by decide]
    have e : v67 q cc gc (nI 42) = Int32.ofInt (-1) := by
      unfold v67
      rw [show pm_cmp .eq (nI 42) (nI 100) = false from by decide, show pm_cmp .eq (nI 42) (nI 101) = false from by decide, show pm_cmp .eq (nI 42) (nI 104) = false from by decide, show pm_cmp .eq (nI 42) (nI 107) = false from by decide, show pm_cmp .eq (nI 42) (nI 114) = false from by decide, show pm_cmp .eq (nI 42) (nI 115) = false from by decide, show pm_cmp .eq (nI 42) (nI 119) = false from by decide]
      rfl
    rw [e, show pm_cmp .lt (Int32.ofInt (-1)) 0 = true from by decide]
    show stO q cc gc (b :: a :: s) (-(nI 42)) = _
    unfold stO
    rw [show pm_cmp .ne (-(nI 42)) (Int32.ofInt (-126)) = true from by decide, show -(-(nI 42)) = nI 42 from by decide]
    show v71 q cc gc (nI 42) a b :: s = _
    rw [j71_42]
  · unfold stM
    rw [show pm_cmp .ne (nI 2005) (nI 3000) = true from by decide, show pm_cmp .lt (nI 2005) (nI 2000) = false from by decide, show nI 2005 - nI 2000 = nI 5 from by decide]
    show v199 q cc gc (nI 5) a b :: s = _
    rw [j199_42]
theorem j71_47 (a b : Int32) : v71 q cc gc (nI 47) a b = cond (pm_cmp .ne b 0) (a / b) (nI 0) := by
  unfold v71
  rw [show pm_cmp .eq (nI 47) (nI 42) = false from by decide, show pm_cmp .eq (nI 47) (nI 43) = false from by decide, show pm_cmp .eq (nI 47) (nI 45) = false from by decide, show pm_cmp .eq (nI 47) (nI 60) = false from by decide, show pm_cmp .eq (nI 47) (nI 61) = false from by decide, show pm_cmp .eq (nI 47) (nI 62) = false from by decide]
  try rfl
theorem j199_47 (a b : Int32) : v199 q cc gc (nI 6) a b = cond (pm_cmp .ne b 0) (a / b) (nI 0) := by
  unfold v199
  rw [show pm_cmp .eq (nI 6) (nI 0) = false from by decide, show pm_cmp .eq (nI 6) (nI 1) = false from by decide, show pm_cmp .eq (nI 6) (nI 2) = false from by decide, show pm_cmp .eq (nI 6) (nI 3) = false from by decide, show pm_cmp .eq (nI 6) (nI 4) = false from by decide, show pm_cmp .eq (nI 6) (nI 5) = false from by decide]
  try rfl
theorem op_47 (A : Nat → Int32) (a b : Int32) (s : List Int32) : stX q cc gc A (b :: a :: s) (-(nI 47)) = (cond (pm_cmp .ne b 0) (a / b) (nI 0)) :: s ∧ stM q cc gc A (b :: a :: s) (nI 2006) = (cond (pm_cmp .ne b 0) (a / b) (nI 0)) :: s := by
  constructor
  · unfold stX
    rw [show pm_cmp .lt (-(nI 47)) 0 = true from by decide, show -(-(nI 47)) = nI 47 from by decide]
    have e : v67 q cc gc (nI 47) = Int32.ofInt (-1) := by
      unfold v67
      rw [show pm_cmp .eq (nI 47) (nI 100) = false from by decide, show pm_cmp .eq (nI 47) (nI 101) = false from by decide, show pm_cmp .eq (nI 47) (nI 104) = false from by decide, show pm_cmp .eq (nI 47) (nI 107) = false from by decide, show pm_cmp .eq (nI 47) (nI 114) = false from by decide, show pm_cmp .eq (nI 47) (nI 115) = false from by decide, show pm_cmp .eq (nI 47) (nI 119) = false from by decide]
      rfl
    rw [e, show pm_cmp .lt (Int32.ofInt (-1)) 0 = true from by decide]
    show stO q cc gc (b :: a :: s) (-(nI 47)) = _
    unfold stO
    rw [show pm_cmp .ne (-(nI 47)) (Int32.ofInt (-126)) = true from by decide, show -(-(nI 47)) = nI 47 from by decide]
    show v71 q cc gc (nI 47) a b :: s = _
    rw [j71_47]
  · unfold stM
    rw [show pm_cmp .ne (nI 2006) (nI 3000) = true from by decide, show pm_cmp .lt (nI 2006) (nI 2000) = false from by decide, show nI 2006 - nI 2000 = nI 6 from by decide]
    show v199 q cc gc (nI 6) a b :: s = _
    rw [j199_47]
theorem op_lev {o : Nat} {x : Int32} (ho : o < 3) (z : zlev o x = true) : ∃ J : Int32 → Int32 → Int32, ∀ A a b s, stX q cc gc A (b :: a :: s) (-x) = J a b :: s ∧ stM q cc gc A (b :: a :: s) (rop o x) = J a b :: s := by
  rcases (by omega : o = 0 ∨ o = 1 ∨ o = 2) with rfl | rfl | rfl
  · have z : x = nI 60 ∨ x = nI 61 ∨ x = nI 62 := of_decide_eq_true z
    rcases z with rfl | rfl | rfl
    · rw [show rop 0 (nI 60) = nI 2000 from by decide +kernel]
      exact ⟨_, fun A a b s => op_60 A a b s⟩
    · rw [show rop 0 (nI 61) = nI 2002 from by decide +kernel]
      exact ⟨_, fun A a b s => op_61 A a b s⟩
    · rw [show rop 0 (nI 62) = nI 2001 from by decide +kernel]
      exact ⟨_, fun A a b s => op_62 A a b s⟩
  · have z : x = nI 43 ∨ x = nI 45 := of_decide_eq_true z
    rcases z with rfl | rfl
    · rw [show rop 1 (nI 43) = nI 2003 from by decide +kernel]
      exact ⟨_, fun A a b s => op_43 A a b s⟩
    · rw [show rop 1 (nI 45) = nI 2004 from by decide +kernel]
      exact ⟨_, fun A a b s => op_45 A a b s⟩
  · have z : x = nI 42 ∨ x = nI 47 := of_decide_eq_true z
    rcases z with rfl | rfl
    · rw [show rop 2 (nI 42) = nI 2005 from by decide +kernel]
      exact ⟨_, fun A a b s => op_42 A a b s⟩
    · rw [show rop 2 (nI 47) = nI 2006 from by decide +kernel]
      exact ⟨_, fun A a b s => op_47 A a b s⟩
theorem let_119 (A : Nat → Int32) (s : List Int32) : stX q cc gc A s (-(nI 119)) = A 0 :: s ∧ stM q cc gc A s (nI 1000) = A 0 :: s := by
  constructor
  · unfold stX
    have e : v67 q cc gc (nI 119) = nI 0 := by
      unfold v67
      rw [show pm_cmp .eq (nI 119) (nI 100) = false from by decide, show pm_cmp .eq (nI 119) (nI 101) = false from by decide, show pm_cmp .eq (nI 119) (nI 104) = false from by decide, show pm_cmp .eq (nI 119) (nI 107) = false from by decide, show pm_cmp .eq (nI 119) (nI 114) = false from by decide, show pm_cmp .eq (nI 119) (nI 115) = false from by decide, show pm_cmp .eq (nI 119) (nI 119) = true from by decide]
      try rfl
    rw [show pm_cmp .lt (-(nI 119)) 0 = true from by decide, show -(-(nI 119)) = nI 119 from by decide, e, show pm_cmp .lt (nI 0) 0 = false from by decide, show pm_cmp .ge (nI 0) (nI 7) = false from by decide, show (nI 0).toNatClampNeg = 0 from by decide]
    rfl
  · unfold stM
    rw [show pm_cmp .ne (nI 1000) (nI 3000) = true from by decide, show pm_cmp .lt (nI 1000) (nI 2000) = true from by decide, show pm_cmp .lt (nI 1000) (nI 1000) = false from by decide, show (nI 1000 - nI 1000).toNatClampNeg = 0 from by decide]
    rfl
theorem let_107 (A : Nat → Int32) (s : List Int32) : stX q cc gc A s (-(nI 107)) = A 1 :: s ∧ stM q cc gc A s (nI 1001) = A 1 :: s := by
  constructor
  · unfold stX
    have e : v67 q cc gc (nI 107) = nI 1 := by
      unfold v67
      rw [show pm_cmp .eq (nI 107) (nI 100) = false from by decide, show pm_cmp .eq (nI 107) (nI 101) = false from by decide, show pm_cmp .eq (nI 107) (nI 104) = false from by decide, show pm_cmp .eq (nI 107) (nI 107) = true from by decide]
      try rfl
    rw [show pm_cmp .lt (-(nI 107)) 0 = true from by decide, show -(-(nI 107)) = nI 107 from by decide, e, show pm_cmp .lt (nI 1) 0 = false from by decide, show pm_cmp .ge (nI 1) (nI 7) = false from by decide, show (nI 1).toNatClampNeg = 1 from by decide]
    rfl
  · unfold stM
    rw [show pm_cmp .ne (nI 1001) (nI 3000) = true from by decide, show pm_cmp .lt (nI 1001) (nI 2000) = true from by decide, show pm_cmp .lt (nI 1001) (nI 1000) = false from by decide, show (nI 1001 - nI 1000).toNatClampNeg = 1 from by decide]
    rfl
theorem let_114 (A : Nat → Int32) (s : List Int32) : stX q cc gc A s (-(nI 114)) = A 2 :: s ∧ stM q cc gc A s (nI 1002) = A 2 :: s := by
  constructor
  · unfold stX
    have e : v67 q cc gc (nI 114) = nI 2 := by
      unfold v67
      rw [show pm_cmp .eq (nI 114) (nI 100) = false from by decide, show pm_cmp .eq (nI 114) (nI 101) = false from by decide, show pm_cmp .eq (nI 114) (nI 104) = false from by decide, show pm_cmp .eq (nI 114) (nI 107) = false from by decide, show pm_cmp .eq (nI 114) (nI 114) = true from by decide]
      try rfl
    rw [show pm_cmp .lt (-(nI 114)) 0 = true from by decide, show -(-(nI 114)) = nI 114 from by decide, e, show pm_cmp .lt (nI 2) 0 = false from by decide, show pm_cmp .ge (nI 2) (nI 7) = false from by decide, show (nI 2).toNatClampNeg = 2 from by decide]
    rfl
  · unfold stM
    rw [show pm_cmp .ne (nI 1002) (nI 3000) = true from by decide, show pm_cmp .lt (nI 1002) (nI 2000) = true from by decide, show pm_cmp .lt (nI 1002) (nI 1000) = false from by decide, show (nI 1002 - nI 1000).toNatClampNeg = 2 from by decide]
    rfl
theorem let_115 (A : Nat → Int32) (s : List Int32) : stX q cc gc A s (-(nI 115)) = A 3 :: s ∧ stM q cc gc A s (nI 1003) = A 3 :: s := by
  constructor
  · unfold stX
    have e : v67 q cc gc (nI 115) = nI 3 := by
      unfold v67
      rw [show pm_cmp .eq (nI 115) (nI 100) = false from by decide, show pm_cmp .eq (nI 115) (nI 101) = false from by decide, show pm_cmp .eq (nI 115) (nI 104) = false from by decide, show pm_cmp .eq (nI 115) (nI 107) = false from by decide, show pm_cmp .eq (nI 115) (nI 114) = false from by decide, show pm_cmp .eq (nI 115) (nI 115) = true from by decide]
      try rfl
    rw [show pm_cmp .lt (-(nI 115)) 0 = true from by decide, show -(-(nI 115)) = nI 115 from by decide, e, show pm_cmp .lt (nI 3) 0 = false from by decide, show pm_cmp .ge (nI 3) (nI 7) = false from by decide, show (nI 3).toNatClampNeg = 3 from by decide]
    rfl
  · unfold stM
    rw [show pm_cmp .ne (nI 1003) (nI 3000) = true from by decide, show pm_cmp .lt (nI 1003) (nI 2000) = true from by decide, show pm_cmp .lt (nI 1003) (nI 1000) = false from by decide, show (nI 1003 - nI 1000).toNatClampNeg = 3 from by decide]
    rfl
theorem let_104 (A : Nat → Int32) (s : List Int32) : stX q cc gc A s (-(nI 104)) = A 4 :: s ∧ stM q cc gc A s (nI 1004) = A 4 :: s := by
  constructor
  · unfold stX
    have e : v67 q cc gc (nI 104) = nI 4 := by
      unfold v67
      rw [show pm_cmp .eq (nI 104) (nI 100) = false from by decide, show pm_cmp .eq (nI 104) (nI 101) = false from by decide, show pm_cmp .eq (nI 104) (nI 104) = true from by decide]
      try rfl
    rw [show pm_cmp .lt (-(nI 104)) 0 = true from by decide, show -(-(nI 104)) = nI 104 from by decide, e, show pm_cmp .lt (nI 4) 0 = false from by decide, show pm_cmp .ge (nI 4) (nI 7) = false from by decide, show (nI 4).toNatClampNeg = 4 from by decide]
    rfl
  · unfold stM
    rw [show pm_cmp .ne (nI 1004) (nI 3000) = true from by decide, show pm_cmp .lt (nI 1004) (nI 2000) = true from by decide, show pm_cmp .lt (nI 1004) (nI 1000) = false from by decide, show (nI 1004 - nI 1000).toNatClampNeg = 4 from by decide]
    rfl
theorem let_101 (A : Nat → Int32) (s : List Int32) : stX q cc gc A s (-(nI 101)) = A 5 :: s ∧ stM q cc gc A s (nI 1005) = A 5 :: s := by
  constructor
  · unfold stX
    have e : v67 q cc gc (nI 101) = nI 5 := by
      unfold v67
      rw [show pm_cmp .eq (nI 101) (nI 100) = false from by decide, show pm_cmp .eq (nI 101) (nI 101) = true from by decide]
      try rfl
    rw [show pm_cmp .lt (-(nI 101)) 0 = true from by decide, show -(-(nI 101)) = nI 101 from by decide, e, show pm_cmp .lt (nI 5) 0 = false from by decide, show pm_cmp .ge (nI 5) (nI 7) = false from by decide, show (nI 5).toNatClampNeg = 5 from by decide]
    rfl
  · unfold stM
    rw [show pm_cmp .ne (nI 1005) (nI 3000) = true from by decide, show pm_cmp .lt (nI 1005) (nI 2000) = true from by decide, show pm_cmp .lt (nI 1005) (nI 1000) = false from by decide, show (nI 1005 - nI 1000).toNatClampNeg = 5 from by decide]
    rfl
theorem let_100 (A : Nat → Int32) (s : List Int32) : stX q cc gc A s (-(nI 100)) = A 6 :: s ∧ stM q cc gc A s (nI 1006) = A 6 :: s := by
  constructor
  · unfold stX
    have e : v67 q cc gc (nI 100) = nI 6 := by
      unfold v67
      rw [show pm_cmp .eq (nI 100) (nI 100) = true from by decide]
      try rfl
    rw [show pm_cmp .lt (-(nI 100)) 0 = true from by decide, show -(-(nI 100)) = nI 100 from by decide, e, show pm_cmp .lt (nI 6) 0 = false from by decide, show pm_cmp .ge (nI 6) (nI 7) = false from by decide, show (nI 6).toNatClampNeg = 6 from by decide]
    rfl
  · unfold stM
    rw [show pm_cmp .ne (nI 1006) (nI 3000) = true from by decide, show pm_cmp .lt (nI 1006) (nI 2000) = true from by decide, show pm_cmp .lt (nI 1006) (nI 1000) = false from by decide, show (nI 1006 - nI 1000).toNatClampNeg = 6 from by decide]
    rfl
theorem den_let {x : Int32} (z : zlet x = true) : den q cc gc [-x] [rlt x] := by
  have z : x = nI 119 ∨ x = nI 107 ∨ x = nI 114 ∨ x = nI 115 ∨ x = nI 104 ∨ x = nI 101 ∨ x = nI 100 := of_decide_eq_true z
  rcases z with rfl | rfl | rfl | rfl | rfl | rfl | rfl
  · rw [show rlt (nI 119) = nI 1000 from by decide +kernel]
    exact ⟨fun A => A 0, fun A s => let_119 A s⟩
  · rw [show rlt (nI 107) = nI 1001 from by decide +kernel]
    exact ⟨fun A => A 1, fun A s => let_107 A s⟩
  · rw [show rlt (nI 114) = nI 1002 from by decide +kernel]
    exact ⟨fun A => A 2, fun A s => let_114 A s⟩
  · rw [show rlt (nI 115) = nI 1003 from by decide +kernel]
    exact ⟨fun A => A 3, fun A s => let_115 A s⟩
  · rw [show rlt (nI 104) = nI 1004 from by decide +kernel]
    exact ⟨fun A => A 4, fun A s => let_104 A s⟩
  · rw [show rlt (nI 101) = nI 1005 from by decide +kernel]
    exact ⟨fun A => A 5, fun A s => let_101 A s⟩
  · rw [show rlt (nI 100) = nI 1006 from by decide +kernel]
    exact ⟨fun A => A 6, fun A s => let_100 A s⟩
theorem den_num {k : Nat} (hk : k < 1000) : den q cc gc [nI k] [nI k] := by
  refine ⟨fun _ => nI k, fun A s => ⟨?_, ?_⟩⟩
  · show stX q cc gc A s (nI k) = _
    unfold stX
    rw [show pm_cmp .lt (nI k) 0 = false from (hI_lt (a := k) (b := 0) (by omega) (by decide)).trans (decide_eq_false (by omega))]
    rfl
  · show stM q cc gc A s (nI k) = _
    unfold stM
    rw [show pm_cmp .ne (nI k) (nI 3000) = true from (hI_ne (by omega) (by decide)).trans (decide_eq_true (by omega)), show pm_cmp .lt (nI k) (nI 2000) = true from (hI_lt (by omega) (by decide)).trans (decide_eq_true (by omega)), show pm_cmp .lt (nI k) (nI 1000) = true from (hI_lt (by omega) (by decide)).trans (decide_eq_true (by omega))]
    rfl
theorem dg_nI {p : Nat} (z : dg f p t = true) : ∃ d, d < 10 ∧ f p - nI 48 = nI d := by
  obtain ⟨h1, h2⟩ := dg_val z
  obtain ⟨j, e, -, hj⟩ := hI_of h1
  exact ⟨j, by omega, e⟩
theorem num_s (a d : Nat) : (10 : Int32) * nI a + nI d = nI (10 * a + d) := by
  rw [show (10 : Int32) = nI 10 from rfl, hI_mul, nI_add]
theorem znv_1 (p a : Nat) (ha : a ≤ 99) : ∃ b, znv f t 1 p (nI a) = nI b ∧ b < 1000 := by
  show ∃ b, cond (dg f p t) (10 * nI a + (f p - nI 48)) (nI a) = nI b ∧ b < 1000
  cases z : dg f p t with
  | false => exact ⟨a, rfl, by omega⟩
  | true =>
    obtain ⟨d, hd, e⟩ := dg_nI z
    rw [e, num_s]
    exact ⟨10 * a + d, rfl, by omega⟩
theorem znv_2 (p a : Nat) (ha : a ≤ 9) : ∃ b, znv f t 2 p (nI a) = nI b ∧ b < 1000 := by
  show ∃ b, cond (dg f p t) (znv f t 1 (p + 1) (10 * nI a + (f p - nI 48))) (nI a) = nI b ∧ b < 1000
  cases z : dg f p t with
  | false => exact ⟨a, rfl, by omega⟩
  | true =>
    obtain ⟨d, hd, e⟩ := dg_nI z
    rw [e, num_s]
    exact znv_1 (p + 1) (10 * a + d) (by omega)
theorem znv_3 (p : Nat) : ∃ b, znv f t 3 p 0 = nI b ∧ b < 1000 := by
  show ∃ b, cond (dg f p t) (znv f t 2 (p + 1) (10 * 0 + (f p - nI 48))) 0 = nI b ∧ b < 1000
  cases z : dg f p t with
  | false => exact ⟨0, rfl, by omega⟩
  | true =>
    obtain ⟨d, hd, e⟩ := dg_nI z
    rw [e, show (0 : Int32) = nI 0 from rfl, num_s]
    exact znv_2 (p + 1) (10 * 0 + d) (by omega)
theorem znv_nbr : ∀ (k p : Nat) (v : Int32), (nbr f t k p v).2 = znv f t k p v
  | 0, _, _ => rfl
  | k + 1, p, v => by
    show (cond (dg f p t) (nbr f t k (p + 1) (10 * v + f p - 48)) (p, v)).2 = cond (dg f p t) (znv f t k (p + 1) (10 * v + (f p - nI 48))) v
    cases dg f p t with
    | false => rfl
    | true =>
      have e : 10 * v + f p - 48 = 10 * v + (f p - nI 48) := by
        rw [Int32.sub_eq_add_neg, Int32.sub_eq_add_neg, Int32.add_assoc]
        rfl
      rw [e]
      exact znv_nbr k (p + 1) _
/-- a thing -/
theorem den_th {st : Nat → Bool × Nat} {sc rc : Nat → List Int32} {ns p : Nat} (hs : ∀ p, (st p).1 = true → den q cc gc (sc p) (rc p)) (e : (zth st f t ns p).1 = true) : den q cc gc (cth sc f t p) (rth rc f t p) := by
  unfold zth at e
  unfold cth rth
  cases z1 : dg f p t with
  | true =>
    obtain ⟨b, eb, hb⟩ := znv_3 (f := f) (t := t) p
    show den q cc gc [znv f t 3 p 0] [(nbr f t 3 p 0).2]
    rw [znv_nbr, eb]
    exact den_num hb
  | false =>
    rw [z1] at e
    cases z2 : (decide (p < t) && zlet (f p)) with
    | true =>
      rw [Bool.and_eq_true] at z2
      exact den_let z2.2
    | false =>
      rw [z2] at e
      cases z3 : (decide (p < t ∧ f p = nI 40) && decide (ns < 4)) with
      | false =>
        rw [z3] at e
        cases e
      | true =>
        rw [z3] at e
        cases z4 : ((st (p + 1)).1 && decide ((st (p + 1)).2 < t ∧ f (st (p + 1)).2 = nI 41)) with
        | false =>
          rw [z4] at e
          cases e
        | true =>
          rw [Bool.and_eq_true] at z4
          exact hs (p + 1) z4.1
theorem neg_M (A : Nat → Int32) (v : Int32) (s : List Int32) : stM q cc gc A (v :: s) (nI 3000) = -v :: s := by
  unfold stM
  rw [show pm_cmp .ne (nI 3000) (nI 3000) = false from by decide]
  rfl
theorem neg_X (A : Nat → Int32) (v : Int32) (s : List Int32) : stX q cc gc A (v :: s) (Int32.ofInt (-126)) = -v :: s := by
  unfold stX
  have e : v67 q cc gc (-(Int32.ofInt (-126))) = Int32.ofInt (-1) := by
    rw [show -(Int32.ofInt (-126)) = nI 126 from by decide]
    unfold v67
    rw [show pm_cmp .eq (nI 126) (nI 100) = false from by decide, show pm_cmp .eq (nI 126) (nI 101) = false from by decide, show pm_cmp .eq (nI 126) (nI 104) = false from by decide, show pm_cmp .eq (nI 126) (nI 107) = false from by decide, show pm_cmp .eq (nI 126) (nI 114) = false from by decide, show pm_cmp .eq (nI 126) (nI 115) = false from by decide, show pm_cmp .eq (nI 126) (nI 119) = false from by decide]
    rfl
  rw [show pm_cmp .lt (Int32.ofInt (-126)) 0 = true from by decide, e, show pm_cmp .lt (Int32.ofInt (-1)) 0 = true from by decide]
  show stO q cc gc (v :: s) (Int32.ofInt (-126)) = _
  unfold stO
  rw [show pm_cmp .ne (Int32.ofInt (-126)) (Int32.ofInt (-126)) = false from by decide]
  rfl
theorem neg_neg32 (v : Int32) : -(-v) = v := Int32.neg_neg
theorem neg_rep (A : Nat → Int32) : ∀ (k : Nat) (v : Int32) (s : List Int32), (List.replicate k (nI 3000)).foldl (stM q cc gc A) (v :: s) = cond (decide (k % 2 = 1)) (-v) v :: s
  | 0, _, _ => rfl
  | k + 1, v, s => by
    rw [List.replicate_succ, List.foldl_cons, neg_M, neg_rep A k]
    by_cases z : k % 2 = 1
    · rw [decide_eq_true z, decide_eq_false (by omega)]
      show -(-v) :: s = v :: s
      rw [neg_neg32]
    · rw [decide_eq_false z, decide_eq_true (by omega)]
      rfl
theorem zng_par : ∀ (k p : Nat) (b : Bool), zng f t k p b = cond (decide ((zmi f t k p - p) % 2 = 1)) (!b) b
  | 0, p, b => by
    show b = cond (decide ((p - p) % 2 = 1)) (!b) b
    rw [Nat.sub_self]
    rfl
  | k + 1, p, b => by
    show cond (decide (p < t ∧ f p = nI 45)) (zng f t k (p + 1) (!b)) b = cond (decide ((cond (decide (p < t ∧ f p = nI 45)) (zmi f t k (p + 1)) p - p) % 2 = 1)) (!b) b
    cases decide (p < t ∧ f p = nI 45) with
    | false =>
      show b = cond (decide ((p - p) % 2 = 1)) (!b) b
      rw [Nat.sub_self]
      rfl
    | true =>
      show zng f t k (p + 1) (!b) = cond (decide ((zmi f t k (p + 1) - p) % 2 = 1)) (!b) b
      rw [zng_par k (p + 1) (!b)]
      have hg := zmi_ge (f := f) (t := t) k (p + 1)
      by_cases z : (zmi f t k (p + 1) - (p + 1)) % 2 = 1
      · rw [decide_eq_true z, decide_eq_false (by omega)]
        cases b <;> rfl
      · rw [decide_eq_false z, decide_eq_true (by omega)]
        rfl
theorem den_neg (k : Nat) : denL q cc gc (cond (decide (k % 2 = 1)) [Int32.ofInt (-126)] []) (List.replicate k (nI 3000)) := by
  refine ⟨fun _ v => cond (decide (k % 2 = 1)) (-v) v, fun A v s => ⟨?_, neg_rep A k v s⟩⟩
  cases decide (k % 2 = 1) with
  | true => exact neg_X (q := q) (cc := cc) (gc := gc) A v s
  | false => rfl
/-- operations of one level, one behind the other -/
theorem den_lp {st : Nat → Bool × Nat} {sc rc : Nat → List Int32} {o : Nat} (ho : o < 3) (hs : ∀ p, (st p).1 = true → den q cc gc (sc p) (rc p)) : ∀ (k p : Nat), (zlp st f t o k p).1 = true → denL q cc gc (clp sc st f t o k p) (rlp rc st f t o k p)
  | 0, _, _ => denL_nil
  | k + 1, p, e => by
    have e : (cond (decide (p < t) && zlev o (f p)) (cond (st (p + 1)).1 (zlp st f t o k (st (p + 1)).2) (false, (st (p + 1)).2)) (true, p)).1 = true := e
    show denL q cc gc (cond (decide (p < t) && zlev o (f p)) (sc (p + 1) ++ (-(f p)) :: clp sc st f t o k (st (p + 1)).2) []) (cond (decide (p < t) && zlev o (f p)) (rc (p + 1) ++ rop o (f p) :: rlp rc st f t o k (st (p + 1)).2) [])
    cases z1 : (decide (p < t) && zlev o (f p)) with
    | false => exact denL_nil
    | true =>
      rw [z1] at e
      cases z2 : (st (p + 1)).1 with
      | false =>
        rw [z2] at e
        cases e
      | true =>
        rw [z2] at e
        rw [Bool.and_eq_true] at z1
        obtain ⟨J, hJ⟩ := op_lev (q := q) (cc := cc) (gc := gc) ho z1.2
        exact denL_op (hs (p + 1) z2) hJ (den_lp ho hs k (st (p + 1)).2 e)
theorem den_all : ∀ (m o ns p : Nat), o ≤ 3 → (pz f t m o ns p).1 = true → den q cc gc (pc f t m o ns p) (pr f t m o ns p)
  | 0, _, _, _, _, e => by cases e
  | m + 1, o, ns, p, ho, e => by
    have e : (cond (Nat.ble 3 o) (zth (pz f t m 0 (ns + 1)) f t ns (zmi f t 40 p)) (cond (pz f t m (o + 1) ns p).1 (zlp (pz f t m (o + 1) ns) f t o (cond (Nat.beq o 0) 1 40) (pz f t m (o + 1) ns p).2) (false, (pz f t m (o + 1) ns p).2))).1 = true := e
    show den q cc gc (cond (Nat.ble 3 o) (cth (pc f t m 0 (ns + 1)) f t (zmi f t 40 p) ++ cond (zng f t 40 p false) [Int32.ofInt (-126)] []) (pc f t m (o + 1) ns p ++ clp (pc f t m (o + 1) ns) (pz f t m (o + 1) ns) f t o (cond (Nat.beq o 0) 1 40) (pz f t m (o + 1) ns p).2)) (cond (Nat.ble 3 o) (rth (pr f t m 0 (ns + 1)) f t (zmi f t 40 p) ++ List.replicate (zmi f t 40 p - p) (nI 3000)) (pr f t m (o + 1) ns p ++ rlp (pr f t m (o + 1) ns) (pz f t m (o + 1) ns) f t o (cond (Nat.beq o 0) 1 40) (pz f t m (o + 1) ns p).2))
    cases z1 : Nat.ble 3 o with
    | true =>
      rw [z1] at e
      have h1 := den_th (q := q) (cc := cc) (gc := gc) (sc := pc f t m 0 (ns + 1)) (rc := pr f t m 0 (ns + 1)) (fun p y => den_all m 0 (ns + 1) p (by omega) y) e
      have h2 : zng f t 40 p false = decide ((zmi f t 40 p - p) % 2 = 1) := by
        rw [zng_par]
        cases decide ((zmi f t 40 p - p) % 2 = 1) <;> rfl
      rw [h2]
      exact den_app h1 (den_neg _)
    | false =>
      rw [z1] at e
      have e : (cond (pz f t m (o + 1) ns p).1 (zlp (pz f t m (o + 1) ns) f t o (cond (Nat.beq o 0) 1 40) (pz f t m (o + 1) ns p).2) (false, (pz f t m (o + 1) ns p).2)).1 = true := e
      have ho2 : o < 3 := by
        rcases Nat.lt_or_ge o 3 with y | y
        · exact y
        · rw [Nat.ble_eq_true_of_le y] at z1
          cases z1
      cases z2 : (pz f t m (o + 1) ns p).1 with
      | false =>
        rw [z2] at e
        cases e
      | true =>
        rw [z2] at e
        exact den_app (den_all m (o + 1) ns p (by omega) z2) (den_lp ho2 (fun p y => den_all m (o + 1) ns p (by omega) y) _ _ e)
end DEN
end MG95zzyax1
section MG95zzyax2
/-! what evaluations answer -/
section EVA
variable {cc gc : Nat} {q : QT} {h : pm_H} {s : List Int32}
def stkX (o : Nat) (h : pm_H) (s : List Int32) : Prop := Fi h o 3 = nI s.length ∧ ∀ j, j < s.length → s[j]? = some (Ar h (o + 2) (s.length - 1 - j))
def evl (st : List Int32 → Int32 → List Int32) (C : Nat → Int32) : Nat → List Int32
  | 0 => []
  | i + 1 => st (evl st C i) (C i)
theorem stX_len {A : Nat → Int32} {c : Int32} : (stX q cc gc A s c).length ≤ s.length + 1 := by
  have opn : (stO q cc gc s c).length ≤ s.length + 1 := by
    unfold stO
    cases pm_cmp .ne c (Int32.ofInt (-126)) with
    | true =>
      show s.tail.tail.length + 1 ≤ _
      rw [List.length_tail, List.length_tail]
      omega
    | false =>
      show s.tail.length + 1 ≤ _
      rw [List.length_tail]
      omega
  unfold stX
  cases pm_cmp .lt c 0 with
  | false => exact Nat.le_refl _
  | true =>
    cases pm_cmp .lt (v67 q cc gc (-c)) 0 with
    | true => exact opn
    | false =>
      cases pm_cmp .ge (v67 q cc gc (-c)) (nI 7) with
      | true => exact opn
      | false => exact Nat.le_refl _
theorem evl_len {A C : Nat → Int32} : ∀ i, (evl (stX q cc gc A) C i).length ≤ i
  | 0 => Nat.le_refl _
  | i + 1 => Nat.le_trans stX_len (Nat.add_le_add_right (evl_len i) 1)
theorem evl_take (st : List Int32 → Int32 → List Int32) (C : Nat → Int32) (cs : List Int32) (hc : ∀ j, j < cs.length → cs[j]? = some (C j)) : ∀ k, k ≤ cs.length → evl st C k = (cs.take k).foldl st []
  | 0, _ => rfl
  | k + 1, hk => by
    rw [List.take_succ, hc k hk, List.foldl_append, ← evl_take st C cs hc k (by omega)]
    rfl
theorem evl_fold (st : List Int32 → Int32 → List Int32) (C : Nat → Int32) (cs : List Int32) (hc : ∀ j, j < cs.length → cs[j]? = some (C j)) : evl st C cs.length = cs.foldl st [] := by
  rw [evl_take st C cs hc cs.length (Nat.le_refl _), List.take_length]
theorem pusha {v : Int32} (hc : HC q cc gc h) (hl : s.length < 40) (k : stkX 142 h s) : HC q cc gc (v69a q cc gc h v) ∧ frm [144, 142] [(142, 3)] h (v69a q cc gc h v) ∧ stkX 142 (v69a q cc gc h v) (v :: s) := by
  have e : v69a q cc gc h v = fset (aset h 144 40 (upd (Ar h 144) s.length v)) 142 3 (.int (nI (s.length + 1))) := by
    unfold v69a
    rw [k.1, hI_ge (by omega) (by decide), decide_eq_false (by omega), nI_clamp (by omega), nI_add]
    rfl
  have h1 : HC q cc gc (aset h 144 40 (upd (Ar h 144) s.length v)) := hc_a rfl rfl hc
  rw [e]
  refine ⟨hc_f rfl rfl (by decide) rfl h1, fr_f rfl rfl (fr_a rfl rfl fr_0), Fi_s h1.wt (by decide) rfl (by decide) rfl, fun j hj => ?_⟩
  rw [show Ar (fset (aset h 144 40 (upd (Ar h 144) s.length v)) 142 3 (.int (nI (s.length + 1)))) 144 = upd (Ar h 144) s.length v from Ar_f.trans Ar_s]
  cases j with
  | zero =>
    show some v = some (upd (Ar h 144) s.length v (s.length + 1 - 1 - 0))
    unfold upd
    rw [if_pos (by omega)]
  | succ j =>
    have hj : j + 1 < s.length + 1 := hj
    show s[j]? = some (upd (Ar h 144) s.length v (s.length + 1 - 1 - (j + 1)))
    unfold upd
    rw [if_neg (by omega), k.2 j (by omega)]
    rw [show s.length + 1 - 1 - (j + 1) = s.length - 1 - j by omega]
theorem nI_s1 (n : Nat) : nI (n + 1) - nI 1 = nI n := nI_pred n
theorem popa (hc : HC q cc gc h) (hl : s.length < 100) (k : stkX 142 h s) : (v70a q cc gc h).1 = s.headD 0 ∧ HC q cc gc (v70a q cc gc h).2 ∧ frm [144, 142] [(142, 3)] h (v70a q cc gc h).2 ∧ stkX 142 (v70a q cc gc h).2 s.tail := by
  cases s with
  | nil =>
    have e : v70a q cc gc h = (nI 0, h) := by
      unfold v70a
      rw [k.1, show pm_cmp .gt (nI ([] : List Int32).length) 0 = false from by decide]
      rfl
    rw [e]
    exact ⟨rfl, hc, fr_0, k⟩
  | cons x r =>
    have hl : r.length + 1 < 100 := hl
    have k1 : Fi h 142 3 = nI (r.length + 1) := k.1
    have e : v70a q cc gc h = (Ar h 144 r.length, fset h 142 3 (.int (nI r.length))) := by
      unfold v70a
      rw [k1, show pm_cmp .gt (nI (r.length + 1)) 0 = true from (hI_gt (a := r.length + 1) (b := 0) (by omega) (by decide)).trans (decide_eq_true (by omega)), show nI (r.length + 1) - nI 1 = nI r.length from nI_s1 _, nI_clamp (by omega)]
      rfl
    have k2 : ∀ j, j < r.length + 1 → (x :: r)[j]? = some (Ar h 144 (r.length + 1 - 1 - j)) := k.2
    rw [e]
    refine ⟨?_, hc_f rfl rfl (by decide) rfl hc, fr_f rfl rfl fr_0, Fi_s hc.wt (by decide) rfl (by decide) rfl, fun j hj => ?_⟩
    · have q := k2 0 (by omega)
      rw [show r.length + 1 - 1 - 0 = r.length by omega] at q
      exact (Option.some.inj q).symm
    · have hj : j < r.length := hj
      have q := k2 (j + 1) (by omega)
      rw [show r.length + 1 - 1 - (j + 1) = r.length - 1 - j by omega] at q
      show r[j]? = some (Ar (fset h 142 3 (.int (nI r.length))) 144 (r.length - 1 - j))
      rw [Ar_f]
      exact q
theorem stepa {z i : Nat} (hc : HC q cc gc h) (hl : s.length < 40) (k : stkX 142 h s) : HC q cc gc (v68a_7b q cc gc h z i) ∧ frm [144, 142] [(142, 3)] h (v68a_7b q cc gc h z i) ∧ stkX 142 (v68a_7b q cc gc h z i) (stX q cc gc (Ar h 12) s (Ar h 143 i)) := by
  have opn : HC q cc gc (cond (pm_cmp .ne ((Ar h 143) i) (Int32.ofInt (-126))) (v69a q cc gc ((v70a q cc gc ((v70a q cc gc h).2)).2) (v71 q cc gc (-((Ar h 143) i)) ((v70a q cc gc ((v70a q cc gc h).2)).1) ((v70a q cc gc h).1))) (v69a q cc gc ((v70a q cc gc h).2) (-((v70a q cc gc h).1)))) ∧ frm [144, 142] [(142, 3)] h (cond (pm_cmp .ne ((Ar h 143) i) (Int32.ofInt (-126))) (v69a q cc gc ((v70a q cc gc ((v70a q cc gc h).2)).2) (v71 q cc gc (-((Ar h 143) i)) ((v70a q cc gc ((v70a q cc gc h).2)).1) ((v70a q cc gc h).1))) (v69a q cc gc ((v70a q cc gc h).2) (-((v70a q cc gc h).1)))) ∧ stkX 142 (cond (pm_cmp .ne ((Ar h 143) i) (Int32.ofInt (-126))) (v69a q cc gc ((v70a q cc gc ((v70a q cc gc h).2)).2) (v71 q cc gc (-((Ar h 143) i)) ((v70a q cc gc ((v70a q cc gc h).2)).1) ((v70a q cc gc h).1))) (v69a q cc gc ((v70a q cc gc h).2) (-((v70a q cc gc h).1)))) (stO q cc gc s (Ar h 143 i)) := by
    obtain ⟨p1, p2, p3, p4⟩ := popa hc (by omega) k
    have hl1 : s.tail.length ≤ s.length := by rw [List.length_tail]; omega
    obtain ⟨r1, r2, r3, r4⟩ := popa p2 (by omega) p4
    have hl2 : s.tail.tail.length ≤ s.tail.length := by rw [List.length_tail]; omega
    unfold stO
    rw [p1, r1]
    cases pm_cmp .ne ((Ar h 143) i) (Int32.ofInt (-126)) with
    | true =>
      simp only [cond_true]
      obtain ⟨a1, a2, a3⟩ := pusha (v := v71 q cc gc (-((Ar h 143) i)) (s.tail.headD 0) (s.headD 0)) r2 (by omega) r4
      exact ⟨a1, fr_t a2 (fr_t r3 p3), a3⟩
    | false =>
      simp only [cond_false]
      obtain ⟨a1, a2, a3⟩ := pusha (v := -(s.headD 0)) p2 (by omega) p4
      exact ⟨a1, fr_t a2 p3, a3⟩
  cases z1 : pm_cmp .lt ((Ar h 143) i) 0 with
  | false =>
    have e1 : v68a_7b q cc gc h z i = v69a q cc gc h ((Ar h 143) i) := by
      unfold v68a_7b
      rw [z1, cond_false]
    have e2 : stX q cc gc (Ar h 12) s ((Ar h 143) i) = (Ar h 143) i :: s := by
      unfold stX
      rw [z1, cond_false]
    rw [e1, e2]
    exact pusha hc hl k
  | true =>
    cases z2 : pm_cmp .lt (v67 q cc gc (-((Ar h 143) i))) 0 with
    | true =>
      have e1 : v68a_7b q cc gc h z i = cond (pm_cmp .ne ((Ar h 143) i) (Int32.ofInt (-126))) (v69a q cc gc ((v70a q cc gc ((v70a q cc gc h).2)).2) (v71 q cc gc (-((Ar h 143) i)) ((v70a q cc gc ((v70a q cc gc h).2)).1) ((v70a q cc gc h).1))) (v69a q cc gc ((v70a q cc gc h).2) (-((v70a q cc gc h).1))) := by
        unfold v68a_7b
        rw [z1, cond_true, z2, cond_true]
      have e2 : stX q cc gc (Ar h 12) s ((Ar h 143) i) = stO q cc gc s ((Ar h 143) i) := by
        unfold stX
        rw [z1, cond_true, z2, cond_true]
      rw [e1, e2]
      exact opn
    | false =>
      cases z3 : pm_cmp .ge (v67 q cc gc (-((Ar h 143) i))) (nI 7) with
      | true =>
        have e1 : v68a_7b q cc gc h z i = cond (pm_cmp .ne ((Ar h 143) i) (Int32.ofInt (-126))) (v69a q cc gc ((v70a q cc gc ((v70a q cc gc h).2)).2) (v71 q cc gc (-((Ar h 143) i)) ((v70a q cc gc ((v70a q cc gc h).2)).1) ((v70a q cc gc h).1))) (v69a q cc gc ((v70a q cc gc h).2) (-((v70a q cc gc h).1))) := by
          unfold v68a_7b
          rw [z1, cond_true, z2, cond_false, z3, cond_true]
        have e2 : stX q cc gc (Ar h 12) s ((Ar h 143) i) = stO q cc gc s ((Ar h 143) i) := by
          unfold stX
          rw [z1, cond_true, z2, cond_false, z3, cond_true]
        rw [e1, e2]
        exact opn
      | false =>
        have e1 : v68a_7b q cc gc h z i = v69a q cc gc h (Ar h 12 ((v67 q cc gc (-((Ar h 143) i))).toNatClampNeg)) := by
          unfold v68a_7b
          rw [z1, cond_true, z2, cond_false, z3, cond_false]
        have e2 : stX q cc gc (Ar h 12) s ((Ar h 143) i) = Ar h 12 ((v67 q cc gc (-((Ar h 143) i))).toNatClampNeg) :: s := by
          unfold stX
          rw [z1, cond_true, z2, cond_false, z3, cond_false]
        rw [e1, e2]
        exact pusha hc hl k
theorem evA {z : Nat} (hz : z ≤ 40) (hc : HC q cc gc h) : (v68a q cc gc h z).1 = (evl (stX q cc gc (Ar h 12)) (Ar h 143) z).headD 0 := by
  have h0 : HC q cc gc (fset h 142 3 (.int (nI 0))) := hc_f rfl rfl (by decide) rfl hc
  have q := lp_in (f := fun i a => v68a_7b q cc gc a z i) (P := fun i g => HC q cc gc g ∧ frm [144, 142] [(142, 3)] h g ∧ stkX 142 g (evl (stX q cc gc (Ar h 12)) (Ar h 143) i)) z 0 (fset h 142 3 (.int (nI 0))) ⟨h0, fr_f rfl rfl fr_0, Fi_s hc.wt (by decide) rfl (by decide) rfl, fun j hj => absurd hj (Nat.not_lt_zero j)⟩ (fun i g _ hi p => by
    obtain ⟨p1, p2, p3⟩ := p
    have hl := evl_len (q := q) (cc := cc) (gc := gc) (A := Ar h 12) (C := Ar h 143) i
    obtain ⟨a1, a2, a3⟩ := stepa (z := z) (i := i) p1 (by omega) p3
    rw [Ar_e (p2.1 12 rfl), Ar_e (p2.1 143 rfl)] at a3
    exact ⟨a1, fr_t a2 p2, a3⟩)
  rw [Nat.zero_add] at q
  obtain ⟨p1, p2, p3⟩ := q
  have hl := evl_len (q := q) (cc := cc) (gc := gc) (A := Ar h 12) (C := Ar h 143) z
  exact (popa p1 (by omega) p3).1
theorem pushb {v : Int32} (hc : HC q cc gc h) (hl : s.length < 40) (k : stkX 145 h s) : HC q cc gc (v69b q cc gc h v) ∧ frm [147, 145] [(145, 3)] h (v69b q cc gc h v) ∧ stkX 145 (v69b q cc gc h v) (v :: s) := by
  have e : v69b q cc gc h v = fset (aset h 147 40 (upd (Ar h 147) s.length v)) 145 3 (.int (nI (s.length + 1))) := by
    unfold v69b
    rw [k.1, hI_ge (by omega) (by decide), decide_eq_false (by omega), nI_clamp (by omega), nI_add]
    rfl
  have h1 : HC q cc gc (aset h 147 40 (upd (Ar h 147) s.length v)) := hc_a rfl rfl hc
  rw [e]
  refine ⟨hc_f rfl rfl (by decide) rfl h1, fr_f rfl rfl (fr_a rfl rfl fr_0), Fi_s h1.wt (by decide) rfl (by decide) rfl, fun j hj => ?_⟩
  rw [show Ar (fset (aset h 147 40 (upd (Ar h 147) s.length v)) 145 3 (.int (nI (s.length + 1)))) 147 = upd (Ar h 147) s.length v from Ar_f.trans Ar_s]
  cases j with
  | zero =>
    show some v = some (upd (Ar h 147) s.length v (s.length + 1 - 1 - 0))
    unfold upd
    rw [if_pos (by omega)]
  | succ j =>
    have hj : j + 1 < s.length + 1 := hj
    show s[j]? = some (upd (Ar h 147) s.length v (s.length + 1 - 1 - (j + 1)))
    unfold upd
    rw [if_neg (by omega), k.2 j (by omega)]
    rw [show s.length + 1 - 1 - (j + 1) = s.length - 1 - j by omega]
theorem popb (hc : HC q cc gc h) (hl : s.length < 100) (k : stkX 145 h s) : (v70b q cc gc h).1 = s.headD 0 ∧ HC q cc gc (v70b q cc gc h).2 ∧ frm [147, 145] [(145, 3)] h (v70b q cc gc h).2 ∧ stkX 145 (v70b q cc gc h).2 s.tail := by
  cases s with
  | nil =>
    have e : v70b q cc gc h = (nI 0, h) := by
      unfold v70b
      rw [k.1, show pm_cmp .gt (nI ([] : List Int32).length) 0 = false from by decide]
      rfl
    rw [e]
    exact ⟨rfl, hc, fr_0, k⟩
  | cons x r =>
    have hl : r.length + 1 < 100 := hl
    have k1 : Fi h 145 3 = nI (r.length + 1) := k.1
    have e : v70b q cc gc h = (Ar h 147 r.length, fset h 145 3 (.int (nI r.length))) := by
      unfold v70b
      rw [k1, show pm_cmp .gt (nI (r.length + 1)) 0 = true from (hI_gt (a := r.length + 1) (b := 0) (by omega) (by decide)).trans (decide_eq_true (by omega)), show nI (r.length + 1) - nI 1 = nI r.length from nI_s1 _, nI_clamp (by omega)]
      rfl
    have k2 : ∀ j, j < r.length + 1 → (x :: r)[j]? = some (Ar h 147 (r.length + 1 - 1 - j)) := k.2
    rw [e]
    refine ⟨?_, hc_f rfl rfl (by decide) rfl hc, fr_f rfl rfl fr_0, Fi_s hc.wt (by decide) rfl (by decide) rfl, fun j hj => ?_⟩
    · have q := k2 0 (by omega)
      rw [show r.length + 1 - 1 - 0 = r.length by omega] at q
      exact (Option.some.inj q).symm
    · have hj : j < r.length := hj
      have q := k2 (j + 1) (by omega)
      rw [show r.length + 1 - 1 - (j + 1) = r.length - 1 - j by omega] at q
      show r[j]? = some (Ar (fset h 145 3 (.int (nI r.length))) 147 (r.length - 1 - j))
      rw [Ar_f]
      exact q
theorem stepb {z i : Nat} (hc : HC q cc gc h) (hl : s.length < 40) (k : stkX 145 h s) : HC q cc gc (v68b_7b q cc gc h z i) ∧ frm [147, 145] [(145, 3)] h (v68b_7b q cc gc h z i) ∧ stkX 145 (v68b_7b q cc gc h z i) (stX q cc gc (Ar h 12) s (Ar h 146 i)) := by
  have opn : HC q cc gc (cond (pm_cmp .ne ((Ar h 146) i) (Int32.ofInt (-126))) (v69b q cc gc ((v70b q cc gc ((v70b q cc gc h).2)).2) (v71 q cc gc (-((Ar h 146) i)) ((v70b q cc gc ((v70b q cc gc h).2)).1) ((v70b q cc gc h).1))) (v69b q cc gc ((v70b q cc gc h).2) (-((v70b q cc gc h).1)))) ∧ frm [147, 145] [(145, 3)] h (cond (pm_cmp .ne ((Ar h 146) i) (Int32.ofInt (-126))) (v69b q cc gc ((v70b q cc gc ((v70b q cc gc h).2)).2) (v71 q cc gc (-((Ar h 146) i)) ((v70b q cc gc ((v70b q cc gc h).2)).1) ((v70b q cc gc h).1))) (v69b q cc gc ((v70b q cc gc h).2) (-((v70b q cc gc h).1)))) ∧ stkX 145 (cond (pm_cmp .ne ((Ar h 146) i) (Int32.ofInt (-126))) (v69b q cc gc ((v70b q cc gc ((v70b q cc gc h).2)).2) (v71 q cc gc (-((Ar h 146) i)) ((v70b q cc gc ((v70b q cc gc h).2)).1) ((v70b q cc gc h).1))) (v69b q cc gc ((v70b q cc gc h).2) (-((v70b q cc gc h).1)))) (stO q cc gc s (Ar h 146 i)) := by
    obtain ⟨p1, p2, p3, p4⟩ := popb hc (by omega) k
    have hl1 : s.tail.length ≤ s.length := by rw [List.length_tail]; omega
    obtain ⟨r1, r2, r3, r4⟩ := popb p2 (by omega) p4
    have hl2 : s.tail.tail.length ≤ s.tail.length := by rw [List.length_tail]; omega
    unfold stO
    rw [p1, r1]
    cases pm_cmp .ne ((Ar h 146) i) (Int32.ofInt (-126)) with
    | true =>
      simp only [cond_true]
      obtain ⟨a1, a2, a3⟩ := pushb (v := v71 q cc gc (-((Ar h 146) i)) (s.tail.headD 0) (s.headD 0)) r2 (by omega) r4
      exact ⟨a1, fr_t a2 (fr_t r3 p3), a3⟩
    | false =>
      simp only [cond_false]
      obtain ⟨a1, a2, a3⟩ := pushb (v := -(s.headD 0)) p2 (by omega) p4
      exact ⟨a1, fr_t a2 p3, a3⟩
  cases z1 : pm_cmp .lt ((Ar h 146) i) 0 with
  | false =>
    have e1 : v68b_7b q cc gc h z i = v69b q cc gc h ((Ar h 146) i) := by
      unfold v68b_7b
      rw [z1, cond_false]
    have e2 : stX q cc gc (Ar h 12) s ((Ar h 146) i) = (Ar h 146) i :: s := by
      unfold stX
      rw [z1, cond_false]
    rw [e1, e2]
    exact pushb hc hl k
  | true =>
    cases z2 : pm_cmp .lt (v67 q cc gc (-((Ar h 146) i))) 0 with
    | true =>
      have e1 : v68b_7b q cc gc h z i = cond (pm_cmp .ne ((Ar h 146) i) (Int32.ofInt (-126))) (v69b q cc gc ((v70b q cc gc ((v70b q cc gc h).2)).2) (v71 q cc gc (-((Ar h 146) i)) ((v70b q cc gc ((v70b q cc gc h).2)).1) ((v70b q cc gc h).1))) (v69b q cc gc ((v70b q cc gc h).2) (-((v70b q cc gc h).1))) := by
        unfold v68b_7b
        rw [z1, cond_true, z2, cond_true]
      have e2 : stX q cc gc (Ar h 12) s ((Ar h 146) i) = stO q cc gc s ((Ar h 146) i) := by
        unfold stX
        rw [z1, cond_true, z2, cond_true]
      rw [e1, e2]
      exact opn
    | false =>
      cases z3 : pm_cmp .ge (v67 q cc gc (-((Ar h 146) i))) (nI 7) with
      | true =>
        have e1 : v68b_7b q cc gc h z i = cond (pm_cmp .ne ((Ar h 146) i) (Int32.ofInt (-126))) (v69b q cc gc ((v70b q cc gc ((v70b q cc gc h).2)).2) (v71 q cc gc (-((Ar h 146) i)) ((v70b q cc gc ((v70b q cc gc h).2)).1) ((v70b q cc gc h).1))) (v69b q cc gc ((v70b q cc gc h).2) (-((v70b q cc gc h).1))) := by
          unfold v68b_7b
          rw [z1, cond_true, z2, cond_false, z3, cond_true]
        have e2 : stX q cc gc (Ar h 12) s ((Ar h 146) i) = stO q cc gc s ((Ar h 146) i) := by
          unfold stX
          rw [z1, cond_true, z2, cond_false, z3, cond_true]
        rw [e1, e2]
        exact opn
      | false =>
        have e1 : v68b_7b q cc gc h z i = v69b q cc gc h (Ar h 12 ((v67 q cc gc (-((Ar h 146) i))).toNatClampNeg)) := by
          unfold v68b_7b
          rw [z1, cond_true, z2, cond_false, z3, cond_false]
        have e2 : stX q cc gc (Ar h 12) s ((Ar h 146) i) = Ar h 12 ((v67 q cc gc (-((Ar h 146) i))).toNatClampNeg) :: s := by
          unfold stX
          rw [z1, cond_true, z2, cond_false, z3, cond_false]
        rw [e1, e2]
        exact pushb hc hl k
theorem evB {z : Nat} (hz : z ≤ 40) (hc : HC q cc gc h) : (v68b q cc gc h z).1 = (evl (stX q cc gc (Ar h 12)) (Ar h 146) z).headD 0 := by
  have h0 : HC q cc gc (fset h 145 3 (.int (nI 0))) := hc_f rfl rfl (by decide) rfl hc
  have q := lp_in (f := fun i a => v68b_7b q cc gc a z i) (P := fun i g => HC q cc gc g ∧ frm [147, 145] [(145, 3)] h g ∧ stkX 145 g (evl (stX q cc gc (Ar h 12)) (Ar h 146) i)) z 0 (fset h 145 3 (.int (nI 0))) ⟨h0, fr_f rfl rfl fr_0, Fi_s hc.wt (by decide) rfl (by decide) rfl, fun j hj => absurd hj (Nat.not_lt_zero j)⟩ (fun i g _ hi p => by
    obtain ⟨p1, p2, p3⟩ := p
    have hl := evl_len (q := q) (cc := cc) (gc := gc) (A := Ar h 12) (C := Ar h 146) i
    obtain ⟨a1, a2, a3⟩ := stepb (z := z) (i := i) p1 (by omega) p3
    rw [Ar_e (p2.1 12 rfl), Ar_e (p2.1 146 rfl)] at a3
    exact ⟨a1, fr_t a2 p2, a3⟩)
  rw [Nat.zero_add] at q
  obtain ⟨p1, p2, p3⟩ := q
  have hl := evl_len (q := q) (cc := cc) (gc := gc) (A := Ar h 12) (C := Ar h 146) z
  exact (popb p1 (by omega) p3).1
/-- the reference's -/
def stkM (h : pm_H) (x : Int32) (s : List Int32) : Prop := x = nI s.length ∧ ∀ j, j < s.length → s[j]? = some (Ar h 176 (s.length - 1 - j))
theorem stkM_push {v : Int32} (hl : s.length < 80) (k : stkM h (nI s.length) s) : stkM (aset h 176 80 (upd (Ar h 176) s.length v)) (nI (s.length + 1)) (v :: s) := by
  refine ⟨rfl, fun j hj => ?_⟩
  rw [Ar_s]
  cases j with
  | zero =>
    show some v = some (upd (Ar h 176) s.length v (s.length + 1 - 1 - 0))
    unfold upd
    rw [if_pos (by omega)]
  | succ j =>
    have hj : j + 1 < s.length + 1 := hj
    show s[j]? = some (upd (Ar h 176) s.length v (s.length + 1 - 1 - (j + 1)))
    unfold upd
    rw [if_neg (by omega), k.2 j (by omega)]
    rw [show s.length + 1 - 1 - (j + 1) = s.length - 1 - j by omega]
theorem stkM_put {v y : Int32} {r : List Int32} (k : stkM h (nI (r.length + 1)) (y :: r)) : stkM (aset h 176 80 (upd (Ar h 176) r.length v)) (nI (r.length + 1)) (v :: r) := by
  refine ⟨rfl, fun j hj => ?_⟩
  have hj : j < r.length + 1 := hj
  rw [Ar_s]
  cases j with
  | zero =>
    show some v = some (upd (Ar h 176) r.length v (r.length + 1 - 1 - 0))
    unfold upd
    rw [if_pos (by omega)]
  | succ j =>
    show r[j]? = some (upd (Ar h 176) r.length v (r.length + 1 - 1 - (j + 1)))
    have q := k.2 (j + 1) hj
    have q : r[j]? = some (Ar h 176 (r.length + 1 - 1 - (j + 1))) := q
    unfold upd
    rw [if_neg (by omega)]
    exact q
theorem stkM_top {y x : Int32} {r : List Int32} (k : stkM h x (y :: r)) : Ar h 176 r.length = y := by
  have q := k.2 0 (Nat.succ_pos _)
  have q : some y = some (Ar h 176 (r.length + 1 - 1 - 0)) := q
  rw [show r.length + 1 - 1 - 0 = r.length by omega] at q
  exact (Option.some.inj q).symm
theorem stkM_pop {y x : Int32} {r : List Int32} (k : stkM h x (y :: r)) : stkM h (nI r.length) r := by
  refine ⟨rfl, fun j hj => ?_⟩
  have q := k.2 (j + 1) (Nat.succ_lt_succ hj)
  have q : r[j]? = some (Ar h 176 (r.length + 1 - 1 - (j + 1))) := q
  rw [show r.length + 1 - 1 - (j + 1) = r.length - 1 - j by omega] at q
  exact q
theorem m1_pre (n : Nat) : nI (n + 1) + Int32.ofInt (-1) = nI n := by
  rw [show nI (n + 1) = nI n + nI 1 from (nI_add n 1).symm, Int32.add_assoc, show nI 1 + Int32.ofInt (-1) = 0 from by decide]
  exact Int32.add_zero _
theorem cmp_ne {c : Int32} {k : Nat} : pm_cmp .ne c (nI k) = !decide (c = nI k) := by
  by_cases z : c = nI k
  · rw [decide_eq_true z]
    exact decide_eq_false (fun y => y z)
  · rw [decide_eq_false z]
    exact decide_eq_true z
theorem cmp_lt {c : Int32} {k : Nat} : pm_cmp .lt c (nI k) = !decide (nI k ≤ c) := by
  by_cases z : nI k ≤ c
  · rw [decide_eq_true z]
    exact decide_eq_false (fun y => Int32.not_lt.mpr z y)
  · rw [decide_eq_false z]
    exact decide_eq_true (Int32.not_le.mp z)
/-- a step of the reference's, where the stack holds enough -/
theorem stepM {i d d' : Nat} {x : Int32} (hc : HC q cc gc h) (hl : s.length < 80) (k : stkM h x s) (hd : s.length = d) (e : dst d (Ar h 174 i) = some d') : HC q cc gc (v200_4b q cc gc h i x).2 ∧ frm [176] [] h (v200_4b q cc gc h i x).2 ∧ stkM (v200_4b q cc gc h i x).2 (v200_4b q cc gc h i x).1 (stM q cc gc (Ar h 177) s (Ar h 174 i)) ∧ (stM q cc gc (Ar h 177) s (Ar h 174 i)).length = d' := by
  subst hd
  have kx := k.1
  subst kx
  unfold dst at e
  unfold v200_4b stM
  rw [show pm_cmp .ne (Ar h 174 i) (nI 3000) = !decide (Ar h 174 i = nI 3000) from cmp_ne, show pm_cmp .lt (Ar h 174 i) (nI 2000) = !decide (nI 2000 ≤ Ar h 174 i) from cmp_lt]
  by_cases z1 : Ar h 174 i = 3000
  · rw [if_pos z1] at e
    rw [decide_eq_true (show Ar h 174 i = nI 3000 from z1)]
    split at e
    · rename_i hs
      cases e
      cases s with
      | nil => exact absurd hs (by decide)
      | cons y r =>
        have hl : r.length + 1 < 80 := hl
        have e1 : nI (y :: r).length - nI 1 = nI r.length := nI_s1 r.length
        simp only [Bool.not_true, cond_false]
        rw [e1, nI_clamp (by omega), stkM_top k]
        exact ⟨hc_a rfl rfl hc, fr_a rfl rfl fr_0, stkM_put k, rfl⟩
    · cases e
  · rw [if_neg z1] at e
    rw [decide_eq_false (show ¬ Ar h 174 i = nI 3000 from z1)]
    by_cases z2 : 2000 ≤ Ar h 174 i
    · rw [if_pos z2] at e
      rw [decide_eq_true (show nI 2000 ≤ Ar h 174 i from z2)]
      split at e
      · rename_i hs
        cases e
        cases s with
        | nil => exact absurd hs.2 (by decide)
        | cons y r =>
          cases r with
          | nil => exact absurd hs.2 (show ¬ 2 ≤ 1 by decide)
          | cons w r =>
            have hl : r.length + 1 + 1 < 80 := hl
            have e1 : nI (y :: w :: r).length + Int32.ofInt (-1) = nI (r.length + 1) := m1_pre (r.length + 1)
            have e2 : nI (r.length + 1) - nI 1 = nI r.length := nI_s1 r.length
            have k1 := stkM_pop k
            have t1 : Ar h 176 (r.length + 1) = y := stkM_top k
            have t2 : Ar h 176 r.length = w := stkM_top k1
            have eb : ((nI (y :: w :: r).length + Int32.ofInt (-1)), aset h 176 80 (upd (Ar h 176) (((nI (y :: w :: r).length + Int32.ofInt (-1)) - (nI 1)).toNatClampNeg) (v199 q cc gc (((Ar h 174) i) - (nI 2000)) ((Ar h 176) (((nI (y :: w :: r).length + Int32.ofInt (-1)) - (nI 1)).toNatClampNeg)) ((Ar h 176) ((nI (y :: w :: r).length + Int32.ofInt (-1)).toNatClampNeg))))) = (nI (r.length + 1), aset h 176 80 (upd (Ar h 176) r.length (v199 q cc gc (((Ar h 174) i) - (nI 2000)) w y))) := by
              rw [e1, e2, nI_clamp (by omega), nI_clamp (by omega), t1, t2]
            show HC q cc gc (((nI (y :: w :: r).length + Int32.ofInt (-1)), aset h 176 80 (upd (Ar h 176) (((nI (y :: w :: r).length + Int32.ofInt (-1)) - (nI 1)).toNatClampNeg) (v199 q cc gc (((Ar h 174) i) - (nI 2000)) ((Ar h 176) (((nI (y :: w :: r).length + Int32.ofInt (-1)) - (nI 1)).toNatClampNeg)) ((Ar h 176) ((nI (y :: w :: r).length + Int32.ofInt (-1)).toNatClampNeg))))) : Int32 × pm_H).2 ∧ frm [176] [] h (((nI (y :: w :: r).length + Int32.ofInt (-1)), aset h 176 80 (upd (Ar h 176) (((nI (y :: w :: r).length + Int32.ofInt (-1)) - (nI 1)).toNatClampNeg) (v199 q cc gc (((Ar h 174) i) - (nI 2000)) ((Ar h 176) (((nI (y :: w :: r).length + Int32.ofInt (-1)) - (nI 1)).toNatClampNeg)) ((Ar h 176) ((nI (y :: w :: r).length + Int32.ofInt (-1)).toNatClampNeg))))) : Int32 × pm_H).2 ∧ stkM (((nI (y :: w :: r).length + Int32.ofInt (-1)), aset h 176 80 (upd (Ar h 176) (((nI (y :: w :: r).length + Int32.ofInt (-1)) - (nI 1)).toNatClampNeg) (v199 q cc gc (((Ar h 174) i) - (nI 2000)) ((Ar h 176) (((nI (y :: w :: r).length + Int32.ofInt (-1)) - (nI 1)).toNatClampNeg)) ((Ar h 176) ((nI (y :: w :: r).length + Int32.ofInt (-1)).toNatClampNeg))))) : Int32 × pm_H).2 (((nI (y :: w :: r).length + Int32.ofInt (-1)), aset h 176 80 (upd (Ar h 176) (((nI (y :: w :: r).length + Int32.ofInt (-1)) - (nI 1)).toNatClampNeg) (v199 q cc gc (((Ar h 174) i) - (nI 2000)) ((Ar h 176) (((nI (y :: w :: r).length + Int32.ofInt (-1)) - (nI 1)).toNatClampNeg)) ((Ar h 176) ((nI (y :: w :: r).length + Int32.ofInt (-1)).toNatClampNeg))))) : Int32 × pm_H).1 (v199 q cc gc (Ar h 174 i - nI 2000) w y :: r) ∧ (v199 q cc gc (Ar h 174 i - nI 2000) w y :: r).length = (y :: w :: r).length - 1
            rw [eb]
            exact ⟨hc_a rfl rfl hc, fr_a rfl rfl fr_0, stkM_put k1, rfl⟩
      · cases e
    · rw [if_neg z2] at e
      rw [decide_eq_false (show ¬ nI 2000 ≤ Ar h 174 i from z2)]
      have ee : d' = s.length + 1 := by
        split at e
        · split at e
          · cases e
            rfl
          · cases e
        · cases e
          rfl
      subst ee
      show HC q cc gc (aset h 176 80 (upd (Ar h 176) ((nI s.length).toNatClampNeg) (cond (pm_cmp .lt ((Ar h 174) i) (nI 1000)) ((Ar h 174) i) ((Ar h 177) ((((Ar h 174) i) - (nI 1000)).toNatClampNeg))))) ∧ frm [176] [] h (aset h 176 80 (upd (Ar h 176) ((nI s.length).toNatClampNeg) (cond (pm_cmp .lt ((Ar h 174) i) (nI 1000)) ((Ar h 174) i) ((Ar h 177) ((((Ar h 174) i) - (nI 1000)).toNatClampNeg))))) ∧ stkM (aset h 176 80 (upd (Ar h 176) ((nI s.length).toNatClampNeg) (cond (pm_cmp .lt ((Ar h 174) i) (nI 1000)) ((Ar h 174) i) ((Ar h 177) ((((Ar h 174) i) - (nI 1000)).toNatClampNeg))))) (nI s.length + Int32.ofInt 1) ((cond (pm_cmp .lt ((Ar h 174) i) (nI 1000)) ((Ar h 174) i) ((Ar h 177) ((((Ar h 174) i) - (nI 1000)).toNatClampNeg))) :: s) ∧ _
      rw [nI_clamp (by omega), show nI s.length + Int32.ofInt 1 = nI (s.length + 1) from nI_inc s.length 1]
      exact ⟨hc_a rfl rfl hc, fr_a rfl rfl fr_0, stkM_push (by omega) k, rfl⟩
theorem evM {dn : Nat} (hz : q.2.2 ≠ 0) (hc : HC q cc gc h) (hd : dep (Ar h 174) q.2.2 = some dn) {V : Int32} (hV : evl (stM q cc gc (Ar h 177)) (Ar h 174) q.2.2 = [V]) : (v200 q cc gc h).1 = V := by
  have hz8 := hc.zr
  have p := lp_in (f := fun i (a : Int32 × pm_H) => v200_4b q cc gc a.2 i a.1) (P := fun i g => HC q cc gc g.2 ∧ frm [176] [] h g.2 ∧ stkM g.2 g.1 (evl (stM q cc gc (Ar h 177)) (Ar h 174) i) ∧ dep (Ar h 174) i = some (evl (stM q cc gc (Ar h 177)) (Ar h 174) i).length) q.2.2 0 (nI 0, h) ⟨hc, fr_0, ⟨rfl, fun j hj => absurd hj (Nat.not_lt_zero j)⟩, rfl⟩ (fun i g _ hi p => by
    obtain ⟨p1, p2, p3, p4⟩ := p
    obtain ⟨d1, e1⟩ := dep_pre (f := Ar h 174) (k := i + 1) (m := q.2.2 - (i + 1)) (d := dn) (by rw [show i + 1 + (q.2.2 - (i + 1)) = q.2.2 by omega]; exact hd)
    obtain ⟨d0, e2, e3⟩ := dep_step e1
    rw [p4] at e2
    have e2 := Option.some.inj e2
    have hl := dep_le p4
    have e4 : Ar g.2 174 = Ar h 174 := Ar_e (p2.1 174 rfl)
    have e5 : Ar g.2 177 = Ar h 177 := Ar_e (p2.1 177 rfl)
    obtain ⟨a1, a2, a3, a4⟩ := stepM (d := d0) (d' := d1) (i := i) p1 (by omega) p3 e2 (by rw [e4]; exact e3)
    rw [e4, e5] at a3 a4
    refine ⟨a1, fr_t a2 p2, a3, ?_⟩
    rw [e1]
    exact congrArg some a4.symm)
  rw [Nat.zero_add, hV] at p
  obtain ⟨p1, p2, p3, p4⟩ := p
  unfold v200
  rw [decide_eq_true hz]
  exact stkM_top p3
end EVA
end MG95zzyax2
section MG95zzyax3
/-! VALUE: both sides -/
section VAL
variable {cc gc : Nat} {q : QT} {h hx hm : pm_H} {x m : Int32} {g c : Nat}
theorem stX_cg {A B : Nat → Int32} (e : ∀ k, k < 7 → A k = B k) (s : List Int32) (c : Int32) : stX q cc gc A s c = stX q cc gc B s c := by
  unfold stX
  cases z1 : pm_cmp .lt c 0 with
  | false => rfl
  | true =>
    cases z2 : pm_cmp .lt (v67 q cc gc (-c)) 0 with
    | true => rfl
    | false =>
      cases z3 : pm_cmp .ge (v67 q cc gc (-c)) (nI 7) with
      | true => rfl
      | false =>
        have h2 : ¬ v67 q cc gc (-c) < 0 := of_decide_eq_false z2
        have h3 : ¬ nI 7 ≤ v67 q cc gc (-c) := of_decide_eq_false z3
        rw [Int32.lt_iff_toInt_lt, show (0 : Int32).toInt = 0 by decide] at h2
        rw [Int32.le_iff_toInt_le, show (nI 7).toInt = 7 by decide] at h3
        obtain ⟨j, ej, hj, ei⟩ := hI_of (x := v67 q cc gc (-c)) (by omega)
        rw [ej, nI_clamp hj]
        show A j :: s = B j :: s
        rw [e j (by omega)]
theorem fold_cg {A B : Nat → Int32} (e : ∀ k, k < 7 → A k = B k) : ∀ (cs s : List Int32), cs.foldl (stX q cc gc A) s = cs.foldl (stX q cc gc B) s
  | [], _ => rfl
  | c :: cs, s => by
    rw [List.foldl_cons, List.foldl_cons, stX_cg e]
    exact fold_cg e cs _
/-- THE RULE of both sides tells the same values -/
def VR (q : QT) (cc gc : Nat) (C D : Nat → Int32) : Prop := ∃ V : (Nat → Int32) → Int32, (∀ A B, (∀ k, k < 7 → A k = B k) → V A = V B) ∧ (∀ A, (evl (stX q cc gc A) C q.2.1).headD 0 = V A) ∧ (q.2.2 = 0 → ∀ A : Nat → Int32, A 0 * A 1 / nI 5 = V A) ∧ (q.2.2 ≠ 0 → (∃ dn, dep D q.2.2 = some dn) ∧ ∀ A, evl (stM q cc gc A) D q.2.2 = [V A])
def in7 (f : Nat → Int32) (a0 a1 a2 a3 a4 a5 a6 : Int32) : Nat → Int32 := upd (upd (upd (upd (upd (upd (upd f 0 a0) 1 a1) 2 a2) 3 a3) 4 a4) 5 a5) 6 a6
theorem in7_cg {f f' : Nat → Int32} {a0 a1 a2 a3 a4 a5 a6 : Int32} : ∀ k, k < 7 → in7 f a0 a1 a2 a3 a4 a5 a6 k = in7 f' a0 a1 a2 a3 a4 a5 a6 k := by
  intro k hk
  rcases (by omega : k = 0 ∨ k = 1 ∨ k = 2 ∨ k = 3 ∨ k = 4 ∨ k = 5 ∨ k = 6) with rfl | rfl | rfl | rfl | rfl | rfl | rfl <;> rfl
theorem v68_val (hc : HC q cc gc h) : (v68 q cc gc h).1 = (evl (stX q cc gc (Ar h 12)) (Ar h (q.1 + 1)) q.2.1).headD 0 := by
  unfold v68
  rcases hc.qq with e | e
  · rw [if_pos e, evA hc.zx hc, e]
  · rw [if_neg (by rw [e]; decide), evB hc.zx hc, e]
theorem v200_val {A : Nat → Int32} (hc : HC q cc gc h) {C : Nat → Int32} {V : (Nat → Int32) → Int32} (v1 : q.2.2 = 0 → ∀ A : Nat → Int32, A 0 * A 1 / nI 5 = V A) (v2 : q.2.2 ≠ 0 → (∃ dn, dep (Ar h 174) q.2.2 = some dn) ∧ ∀ A, evl (stM q cc gc A) (Ar h 174) q.2.2 = [V A]) : (v200 q cc gc h).1 = V (Ar h 177) := by
  by_cases z : q.2.2 = 0
  · unfold v200
    rw [decide_eq_false (fun y => y z)]
    exact v1 z (Ar h 177)
  · obtain ⟨⟨dn, hd⟩, hV⟩ := v2 z
    exact evM z hc hd (hV (Ar h 177))
/-- what courts and gifts are -/
def RMm (cc gc : Nat) (hx hm : pm_H) : Prop := (∀ c, c < cc → (Ar hx 6 c = Ar hm 164 c ∧ ∃ k, k < 10 ∧ Ar hm 164 c = nI k) ∧ ∀ k, k < 5 → Ar hx 7 (c * 5 + k) = Ar hm 165 (5 * c + k)) ∧ ∀ g, g < gc → (Ar hx 9 g = Ar hm 166 g ∧ ∃ k, k < 5 ∧ Ar hm 166 g = nI k) ∧ Ar hx 10 g = Ar hm 167 g ∧ (Ar hx 11 g = Ar hm 168 g ∧ ∃ k, k < 10 ∧ Ar hm 168 g = nI k)
/-- where the gifts are -/
def HO (cc gc : Nat) (r : Nat → Int32) : Prop := ∀ j, j < gc → ∃ c, c < cc ∧ r (78 + j) = nI c
theorem v39_val : (v39 q cc gc h g c).1 = imax (nI 0) (imin (nI 999) ((v68 q cc gc (aset h 12 7 (in7 (Ar h 12) (Ar h 10 g) (v28t q cc gc (Ar h 7) c (Ar h 9 g)) (Ar h 6 c) (Ar h 6 ((Ar h 17 g).toNatClampNeg)) (v270 q cc gc (Ar h 18 g)) (Ar h 11 g) (cond (v74 q cc gc (Fi h 13 5) g) 1 0)))).1)) := by
  unfold v39 in7
  cases v74 q cc gc (Fi h 13 5) g <;> rfl
theorem v201_val : (v201 q cc gc h g c).1 = imax (nI 0) (imin (nI 999) ((v200 q cc gc (aset h 177 7 (in7 (Ar h 177) (Ar h 167 g) (Ar h 165 ((nI (5 * c) + Ar h 166 g).toNatClampNeg)) (Ar h 164 c) (Ar h 164 ((Ar h 170 (78 + g)).toNatClampNeg)) (v270 q cc gc (Ar h 170 (86 + g))) (Ar h 168 g) (cond (v173 q cc gc (Ar h 170) g) 1 0)))).1)) := rfl
theorem val_eq (cx : HC q cc gc hx) (cm : HC q cc gc hm) (vr : VR q cc gc (Ar hx (q.1 + 1)) (Ar hm 174)) (rm : RMm cc gc hx hm) (s : RS cc gc (Ar hx 14) (Ar hx 15) (Ar hx 16) (Ar hx 17) (Ar hx 18) (Fi hx 13 5) (Fi hx 13 6) (Ar hm 170)) (ho : HO cc gc (Ar hm 170)) (hg : g < gc) (hc : c < cc) : (v39 q cc gc hx g c).1 = (v201 q cc gc hm g c).1 := by
  rw [v39_val, v201_val]
  have c6 := cx.cb
  have c1 : HC q cc gc (aset hx 12 7 (in7 (Ar hx 12) (Ar hx 10 g) (v28t q cc gc (Ar hx 7) c (Ar hx 9 g)) (Ar hx 6 c) (Ar hx 6 ((Ar hx 17 g).toNatClampNeg)) (v270 q cc gc (Ar hx 18 g)) (Ar hx 11 g) (cond (v74 q cc gc (Fi hx 13 5) g) 1 0))) := hc_a rfl rfl cx
  have c2 : HC q cc gc (aset hm 177 7 (in7 (Ar hm 177) (Ar hm 167 g) (Ar hm 165 ((nI (5 * c) + Ar hm 166 g).toNatClampNeg)) (Ar hm 164 c) (Ar hm 164 ((Ar hm 170 (78 + g)).toNatClampNeg)) (v270 q cc gc (Ar hm 170 (86 + g))) (Ar hm 168 g) (cond (v173 q cc gc (Ar hm 170) g) 1 0))) := hc_a rfl rfl cm
  obtain ⟨V, v0, v1, v2, v3⟩ := vr
  rw [v68_val c1, Ar_s, Ar_n (show q.1 + 1 ≠ 12 by have := cx.qq; omega), v1, v200_val (V := V) (A := Ar hm 177) (C := Ar hm 177) c2 v2 (by rw [Ar_n (by decide)]; exact v3), Ar_s]
  obtain ⟨⟨g1, kk, hk, g2⟩, g3, g4, -⟩ := rm.2 g hg
  obtain ⟨⟨r1, -⟩, r2⟩ := rm.1 c hc
  obtain ⟨d, hd, ed⟩ := ho g hg
  have e1 : v28t q cc gc (Ar hx 7) c (Ar hx 9 g) = Ar hm 165 ((nI (5 * c) + Ar hm 166 g).toNatClampNeg) := by
    unfold v28t
    rw [g1, g2, nI_add, nI_add, nI_clamp (by omega), nI_clamp (by omega)]
    exact r2 kk hk
  have e2 : Ar hx 6 ((Ar hx 17 g).toNatClampNeg) = Ar hm 164 ((Ar hm 170 (78 + g)).toNatClampNeg) := by
    rw [s.2.2.2.1 g hg, ed, nI_clamp (by omega)]
    exact ((rm.1 d hd).1).1
  rw [e1, e2, g3, r1, g4, s.2.2.2.2.1 g hg, eq_74 s g]
  exact congrArg (fun y => imax (nI 0) (imin (nI 999) y)) (v0 _ _ in7_cg)
end VAL
end MG95zzyax3
end MH95zzxkx1
section MH95zzxkx2
section MG95zzyex0
/-! a GIFT IS SENT: both sides -/
section SND
variable {cc gc : Nat} {q : QT} {g0 e d hd ha B : Nat → Int32} {x m V G : Int32} {g c F : Nat} {had dead : Bool}
theorem up_e {f : Nat → Int32} {k j : Nat} {v : Int32} (z : j = k) : upd f k v j = v := if_pos z
theorem up_n {f : Nat → Int32} {k j : Nat} {v : Int32} (z : j ≠ k) : upd f k v j = f j := if_neg z
theorem imax_i {a b : Int32} : (imax a b).toInt = max a.toInt b.toInt := by
  unfold imax
  by_cases z : a < b
  · rw [if_pos z]
    rw [Int32.lt_iff_toInt_lt] at z
    omega
  · rw [if_neg z]
    rw [Int32.lt_iff_toInt_lt] at z
    omega
theorem imin_i {a b : Int32} : (imin a b).toInt = min a.toInt b.toInt := by
  unfold imin
  by_cases z : b < a
  · rw [if_pos z]
    rw [Int32.lt_iff_toInt_lt] at z
    omega
  · rw [if_neg z]
    rw [Int32.lt_iff_toInt_lt] at z
    omega
theorem clamp_i {k : Nat} {y : Int32} (hk : k < 2 ^ 31) : 0 ≤ (imax (nI 0) (imin (nI k) y)).toInt ∧ (imax (nI 0) (imin (nI k) y)).toInt ≤ (k : Int) := by
  rw [imax_i, imin_i, nI_toInt (by decide), nI_toInt hk]
  omega
/-- a bit -/
def bit (x : Int32) (k : Nat) : Bool := x.toBitVec.getLsbD k
/-- what is known of a row -/
def RI (cc gc : Nat) (B : Nat → Int32) : Prop := (∀ c, c < 6 → 0 ≤ (B c).toInt ∧ (B c).toInt ≤ 999) ∧ (∀ a b, a < cc → b < cc → a ≠ b → 0 ≤ (B (6 + 6 * a + b)).toInt ∧ (B (6 + 6 * a + b)).toInt ≤ 20) ∧ (∀ a b, a < 6 → b < 6 → (0 ≤ (B (42 + 6 * a + b)).toInt ∧ (B (42 + 6 * a + b)).toInt ≤ 9999) ∧ ((cc ≤ a ∨ cc ≤ b ∨ a = b) → B (42 + 6 * a + b) = 0)) ∧ HO cc gc B ∧ ∀ k, gc ≤ k → k < 32 → bit (B 94) k = false
/-- the reference's row, when gift g goes from F to c -/
def sndE (B : Nat → Int32) (F c : Nat) (G : Int32) : Nat → Int32 := upd B (6 + 6 * c + F) (imax (nI 0) (imin (nI 20) (B (6 + 6 * c + F) + G)))
def sndD (B : Nat → Int32) (F c : Nat) (had dead : Bool) (G V : Int32) : Nat → Int32 := cond had (sndE B F c G) (cond dead (sndE B F c G) (upd (upd (sndE B F c G) (42 + 6 * c + F) (cond (pm_cmp .le (sndE B F c G (42 + 6 * F + c)) 0) (imin (nI 9999) (sndE B F c G (42 + 6 * c + F) + V)) (sndE B F c G (42 + 6 * c + F)))) (42 + 6 * F + c) (nI 0)))
def snd (B : Nat → Int32) (F g c : Nat) (had dead : Bool) (G V : Int32) : Nat → Int32 := upd (upd (sndD B F c had dead G V) (78 + g) (nI c)) (86 + g) (upd (sndD B F c had dead G V) (78 + g) (nI c) (86 + g) ||| shl (nI 1) (nI c))
theorem sndE_n {j : Nat} (z : j ≠ 6 + 6 * c + F) : sndE B F c G j = B j := up_n z
theorem sndD_n {j : Nat} (z1 : j ≠ 6 + 6 * c + F) (z2 : j ≠ 42 + 6 * c + F) (z3 : j ≠ 42 + 6 * F + c) : sndD B F c had dead G V j = B j := by
  unfold sndD
  cases had with
  | true => exact sndE_n z1
  | false =>
    cases dead with
    | true => exact sndE_n z1
    | false => exact (up_n z3).trans ((up_n z2).trans (sndE_n z1))
theorem snd_n {j : Nat} (z1 : j ≠ 6 + 6 * c + F) (z2 : j ≠ 42 + 6 * c + F) (z3 : j ≠ 42 + 6 * F + c) (z4 : j ≠ 78 + g) (z5 : j ≠ 86 + g) : snd B F g c had dead G V j = B j := (up_n z5).trans ((up_n z4).trans (sndD_n z1 z2 z3))
/-- ESTEEM -/
theorem snd_e {j : Nat} (hj : j < 42) (hc : c < 6) (hF : F < 6) : snd B F g c had dead G V j = sndE B F c G j := by
  refine (up_n (by omega)).trans ((up_n (by omega)).trans ?_)
  unfold sndD
  cases had with
  | true => rfl
  | false =>
    cases dead with
    | true => rfl
    | false => exact (up_n (by omega)).trans (up_n (by omega))
/-- DUES -/
def dueD (D : Nat → Int32) (F c : Nat) (had dead : Bool) (V : Int32) (a b : Nat) : Int32 := cond had (D (42 + 6 * a + b)) (cond dead (D (42 + 6 * a + b)) (if a = F ∧ b = c then nI 0 else if a = c ∧ b = F then cond (pm_cmp .le (D (42 + 6 * F + c)) 0) (imin (nI 9999) (D (42 + 6 * c + F) + V)) (D (42 + 6 * c + F)) else D (42 + 6 * a + b)))
theorem snd_d {a b : Nat} (h1 : a < 6) (h2 : b < 6) (hc : c < 6) (hF : F < 6) : snd B F g c had dead G V (42 + 6 * a + b) = dueD B F c had dead V a b := by
  refine (up_n (by omega)).trans ((up_n (by omega)).trans ?_)
  unfold sndD dueD
  cases had with
  | true => exact sndE_n (by omega)
  | false =>
    cases dead with
    | true => exact sndE_n (by omega)
    | false =>
      show upd (upd (sndE B F c G) (42 + 6 * c + F) (cond (pm_cmp .le (sndE B F c G (42 + 6 * F + c)) 0) (imin (nI 9999) (sndE B F c G (42 + 6 * c + F) + V)) (sndE B F c G (42 + 6 * c + F)))) (42 + 6 * F + c) (nI 0) (42 + 6 * a + b) = (if a = F ∧ b = c then nI 0 else if a = c ∧ b = F then cond (pm_cmp .le (B (42 + 6 * F + c)) 0) (imin (nI 9999) (B (42 + 6 * c + F) + V)) (B (42 + 6 * c + F)) else B (42 + 6 * a + b))
      rw [sndE_n (show 42 + 6 * F + c ≠ 6 + 6 * c + F by omega), sndE_n (show 42 + 6 * c + F ≠ 6 + 6 * c + F by omega)]
      by_cases y1 : a = F ∧ b = c
      · rw [if_pos y1]
        exact up_e (by omega)
      · rw [if_neg y1, up_n (by omega)]
        by_cases y2 : a = c ∧ b = F
        · rw [if_pos y2]
          exact up_e (by omega)
        · rw [if_neg y2, up_n (by omega)]
          exact sndE_n (by omega)
theorem snd_h {j : Nat} (hj : j < 8) (hg : g < 8) (hc : c < 6) (hF : F < 6) : snd B F g c had dead G V (78 + j) = upd (fun j => B (78 + j)) g (nI c) j := by
  refine (up_n (by omega)).trans ?_
  by_cases z : j = g
  · rw [up_e z]
    exact up_e (by omega)
  · rw [up_n z]
    exact (up_n (by omega)).trans (sndD_n (by omega) (by omega) (by omega))
theorem snd_w {j : Nat} (hj : j < 8) (hg : g < 8) (hc : c < 6) (hF : F < 6) : snd B F g c had dead G V (86 + j) = upd (fun j => B (86 + j)) g (B (86 + g) ||| shl (nI 1) (nI c)) j := by
  by_cases z : j = g
  · rw [up_e z]
    refine (up_e (by omega)).trans ?_
    rw [up_n (show 86 + g ≠ 78 + g by omega), sndD_n (by omega) (by omega) (by omega)]
  · rw [up_n z]
    exact snd_n (by omega) (by omega) (by omega) (by omega) (by omega)
/-- a row stays one -/
theorem RI_snd (ri : RI cc gc B) (h6 : cc ≤ 6) (h8 : gc ≤ 8) (hg : g < gc) (hc : c < cc) (hF : F < cc) (hn : F ≠ c) (hV : 0 ≤ V.toInt ∧ V.toInt ≤ 999) : RI cc gc (snd B F g c had dead G V) := by
  obtain ⟨r1, r2, r3, r4, r5⟩ := ri
  refine ⟨fun k hk => ?_, fun a b ha hb hab => ?_, fun a b ha hb => ?_, fun j hj => ?_, ?_⟩
  · rw [snd_e (by omega) (by omega) (by omega), sndE_n (by omega)]
    exact r1 k hk
  · rw [snd_e (by omega) (by omega) (by omega)]
    by_cases z : 6 + 6 * a + b = 6 + 6 * c + F
    · unfold sndE
      rw [up_e z]
      exact clamp_i (k := 20) (by decide)
    · rw [sndE_n z]
      exact r2 a b ha hb hab
  · rw [snd_d ha hb (by omega) (by omega)]
    unfold dueD
    have r0 := r3 a b ha hb
    cases had with
    | true => exact r0
    | false =>
      cases dead with
      | true => exact r0
      | false =>
        show (0 ≤ (if a = F ∧ b = c then nI 0 else if a = c ∧ b = F then cond (pm_cmp .le (B (42 + 6 * F + c)) 0) (imin (nI 9999) (B (42 + 6 * c + F) + V)) (B (42 + 6 * c + F)) else B (42 + 6 * a + b)).toInt ∧ (if a = F ∧ b = c then nI 0 else if a = c ∧ b = F then cond (pm_cmp .le (B (42 + 6 * F + c)) 0) (imin (nI 9999) (B (42 + 6 * c + F) + V)) (B (42 + 6 * c + F)) else B (42 + 6 * a + b)).toInt ≤ 9999) ∧ ((cc ≤ a ∨ cc ≤ b ∨ a = b) → (if a = F ∧ b = c then nI 0 else if a = c ∧ b = F then cond (pm_cmp .le (B (42 + 6 * F + c)) 0) (imin (nI 9999) (B (42 + 6 * c + F) + V)) (B (42 + 6 * c + F)) else B (42 + 6 * a + b)) = 0)
        by_cases y1 : a = F ∧ b = c
        · rw [if_pos y1]
          exact ⟨by decide, fun _ => rfl⟩
        · rw [if_neg y1]
          by_cases y2 : a = c ∧ b = F
          · rw [if_pos y2]
            refine ⟨?_, fun y => by omega⟩
            have rc := (r3 c F (by omega) (by omega)).1
            cases pm_cmp .le (B (42 + 6 * F + c)) 0 with
            | false => exact rc
            | true =>
              have e1 : (B (42 + 6 * c + F) + V).toInt = (B (42 + 6 * c + F)).toInt + V.toInt := by
                rw [Int32.toInt_add, Int.bmod_eq_of_le] <;> omega
              show 0 ≤ (imin (nI 9999) (B (42 + 6 * c + F) + V)).toInt ∧ (imin (nI 9999) (B (42 + 6 * c + F) + V)).toInt ≤ 9999
              rw [imin_i, e1, nI_toInt (by decide)]
              omega
          · rw [if_neg y2]
            exact r0
  · rw [snd_h (by omega) (by omega) (by omega) (by omega)]
    by_cases z : j = g
    · rw [up_e z]
      exact ⟨c, hc, rfl⟩
    · rw [up_n z]
      exact r4 j hj
  · rw [snd_n (by omega) (by omega) (by omega) (by omega) (by omega)]
    exact r5
/-- what the class writes -/
def dueX (D : Nat → Int32) (F c : Nat) (had dead : Bool) (V : Int32) : Nat → Int32 := cond had D (cond dead D (cond (pm_cmp .le (D (F * 6 + c)) 0) (upd D (c * 6 + F) (imin (nI 9999) (D (c * 6 + F) + V))) (upd D (F * 6 + c) (nI 0))))
theorem le_0 {y : Int32} (h : 0 ≤ y.toInt) (z : pm_cmp .le y 0 = true) : y = 0 := by
  have z : y ≤ 0 := of_decide_eq_true z
  rw [Int32.le_iff_toInt_le, show (0 : Int32).toInt = 0 by decide] at z
  apply Int32.toInt_inj.mp
  rw [show (0 : Int32).toInt = 0 by decide]
  omega
theorem RS_snd (s : RS cc gc g0 e d hd ha x m B) (ri : RI cc gc B) (h6 : cc ≤ 6) (h8 : gc ≤ 8) (hg : g < gc) (hc : c < cc) (hF : F < cc) (hn : F ≠ c) : RS cc gc g0 (upd e (c * 6 + F) (imax (nI 0) (imin (nI 20) (e (c * 6 + F) + G)))) (dueX d F c had dead V) (upd hd g (nI c)) (upd ha g (ha g ||| shl (nI 1) (nI c))) x m (snd B F g c had dead G V) := by
  obtain ⟨s1, s2, s3, s4, s5, s6, s7⟩ := s
  refine ⟨fun k hk => ?_, fun a b h1 h2 h3 => ?_, fun a b h1 h2 => ?_, fun j hj => ?_, fun j hj => ?_, ?_, ?_⟩
  · rw [snd_e (by omega) (by omega) (by omega), sndE_n (by omega)]
    exact s1 k hk
  · rw [snd_e (by omega) (by omega) (by omega)]
    unfold sndE
    by_cases z : a * 6 + b = c * 6 + F
    · rw [up_e z, up_e (by omega), s2 c F hc hF (Ne.symm hn)]
    · rw [up_n z, up_n (by omega)]
      exact s2 a b h1 h2 h3
  · rw [snd_d h1 h2 (by omega) (by omega)]
    unfold dueX dueD
    have t0 := s3 a b h1 h2
    cases had with
    | true => exact t0
    | false =>
      cases dead with
      | true => exact t0
      | false =>
        show cond (pm_cmp .le (d (F * 6 + c)) 0) (upd d (c * 6 + F) (imin (nI 9999) (d (c * 6 + F) + V))) (upd d (F * 6 + c) (nI 0)) (a * 6 + b) = (if a = F ∧ b = c then nI 0 else if a = c ∧ b = F then cond (pm_cmp .le (B (42 + 6 * F + c)) 0) (imin (nI 9999) (B (42 + 6 * c + F) + V)) (B (42 + 6 * c + F)) else B (42 + 6 * a + b))
        rw [s3 F c (by omega) (by omega)]
        cases z : pm_cmp .le (B (42 + 6 * F + c)) 0 with
        | true =>
          show upd d (c * 6 + F) (imin (nI 9999) (d (c * 6 + F) + V)) (a * 6 + b) = (if a = F ∧ b = c then nI 0 else if a = c ∧ b = F then imin (nI 9999) (B (42 + 6 * c + F) + V) else B (42 + 6 * a + b))
          by_cases y1 : a = F ∧ b = c
          · rw [if_pos y1, up_n (by omega), t0]
            obtain ⟨rfl, rfl⟩ := y1
            exact le_0 (ri.2.2.1 a b h1 h2).1.1 z
          · rw [if_neg y1]
            by_cases y2 : a = c ∧ b = F
            · rw [if_pos y2, up_e (by omega), s3 c F (by omega) (by omega)]
            · rw [if_neg y2, up_n (by omega)]
              exact t0
        | false =>
          show upd d (F * 6 + c) (nI 0) (a * 6 + b) = (if a = F ∧ b = c then nI 0 else if a = c ∧ b = F then B (42 + 6 * c + F) else B (42 + 6 * a + b))
          by_cases y1 : a = F ∧ b = c
          · rw [if_pos y1, up_e (by omega)]
          · rw [if_neg y1, up_n (by omega), t0]
            by_cases y2 : a = c ∧ b = F
            · rw [if_pos y2, y2.1, y2.2]
            · rw [if_neg y2]
  · rw [snd_h (by omega) (by omega) (by omega) (by omega)]
    by_cases z : j = g
    · rw [up_e z, up_e z]
    · rw [up_n z, up_n z]
      exact s4 j hj
  · rw [snd_w (by omega) (by omega) (by omega) (by omega)]
    by_cases z : j = g
    · rw [up_e z, up_e z, s5 g hg]
    · rw [up_n z, up_n z]
      exact s5 j hj
  · rw [snd_n (by omega) (by omega) (by omega) (by omega) (by omega)]
    exact s6
  · rw [snd_n (by omega) (by omega) (by omega) (by omega) (by omega)]
    exact s7
/-- how much more is thought of the sender -/
theorem gain_eq {o : Int32} {had dead : Bool} (ho : 0 ≤ o.toInt) : cond had (Int32.ofInt (-6)) (cond dead (Int32.ofInt (-4)) (cond (pm_cmp .gt o 0) (cond (pm_cmp .ge (nI 2 * V) o) (cond (pm_cmp .le V (nI 2 * o)) (nI 4) (Int32.ofInt (-2))) (Int32.ofInt (-5))) (nI 2))) = cond had (Int32.ofInt (-6)) (cond dead (Int32.ofInt (-4)) (v216 q cc gc V o)) := by
  unfold v216
  have e : pm_cmp .gt o 0 = pm_cmp .ne o 0 := by
    simp only [pm_cmp]
    rw [decide_eq_decide, Int32.lt_iff_toInt_lt, show (0 : Int32).toInt = 0 by decide]
    constructor
    · rintro h rfl
      exact absurd h (by decide)
    · intro h
      have : o.toInt ≠ 0 := fun y => h (Int32.toInt_inj.mp (by rw [y]; decide))
      omega
  rw [e]
/-- the class's deliver, told by its arrays -/
theorem v40_is {h : pm_H} : v40 q cc gc h g c V = cond (v76 q cc gc (Ar h 18) (Fi h 13 5) g c) (cond (pm_cmp .le (Ar h 16 (((Ar h 17 g).toNatClampNeg) * 6 + c)) 0) (aset (aset (aset (aset h 15 36 (upd (Ar h 15) (c * 6 + ((Ar h 17 g).toNatClampNeg)) (imax (nI 0) (imin (nI 20) (Ar h 15 (c * 6 + ((Ar h 17 g).toNatClampNeg)) + v77 q cc gc (Ar h 18) (Fi h 13 5) g c (Ar h 16 (((Ar h 17 g).toNatClampNeg) * 6 + c)) V))))) 16 36 (upd (Ar h 16) (c * 6 + ((Ar h 17 g).toNatClampNeg)) (imin (nI 9999) (Ar h 16 (c * 6 + ((Ar h 17 g).toNatClampNeg)) + V)))) 17 8 (upd (Ar h 17) g (nI c))) 18 8 (upd (Ar h 18) g (Ar h 18 g ||| shl (nI 1) (nI c)))) (aset (aset (aset (aset h 15 36 (upd (Ar h 15) (c * 6 + ((Ar h 17 g).toNatClampNeg)) (imax (nI 0) (imin (nI 20) (Ar h 15 (c * 6 + ((Ar h 17 g).toNatClampNeg)) + v77 q cc gc (Ar h 18) (Fi h 13 5) g c (Ar h 16 (((Ar h 17 g).toNatClampNeg) * 6 + c)) V))))) 16 36 (upd (Ar h 16) (((Ar h 17 g).toNatClampNeg) * 6 + c) (nI 0))) 17 8 (upd (Ar h 17) g (nI c))) 18 8 (upd (Ar h 18) g (Ar h 18 g ||| shl (nI 1) (nI c))))) (aset (aset (aset h 15 36 (upd (Ar h 15) (c * 6 + ((Ar h 17 g).toNatClampNeg)) (imax (nI 0) (imin (nI 20) (Ar h 15 (c * 6 + ((Ar h 17 g).toNatClampNeg)) + v77 q cc gc (Ar h 18) (Fi h 13 5) g c (Ar h 16 (((Ar h 17 g).toNatClampNeg) * 6 + c)) V))))) 17 8 (upd (Ar h 17) g (nI c))) 18 8 (upd (Ar h 18) g (Ar h 18 g ||| shl (nI 1) (nI c)))) := rfl
theorem v40_ar {h : pm_H} : Ar (v40 q cc gc h g c V) 15 = upd (Ar h 15) (c * 6 + ((Ar h 17 g).toNatClampNeg)) (imax (nI 0) (imin (nI 20) (Ar h 15 (c * 6 + ((Ar h 17 g).toNatClampNeg)) + v77 q cc gc (Ar h 18) (Fi h 13 5) g c (Ar h 16 (((Ar h 17 g).toNatClampNeg) * 6 + c)) V))) ∧ Ar (v40 q cc gc h g c V) 16 = dueX (Ar h 16) ((Ar h 17 g).toNatClampNeg) c (v75 q cc gc (Ar h 18) g c) (v74 q cc gc (Fi h 13 5) g) V ∧ Ar (v40 q cc gc h g c V) 17 = upd (Ar h 17) g (nI c) ∧ Ar (v40 q cc gc h g c V) 18 = upd (Ar h 18) g (Ar h 18 g ||| shl (nI 1) (nI c)) := by
  rw [v40_is]
  unfold dueX v76
  cases v75 q cc gc (Ar h 18) g c with
  | true =>
    refine ⟨?_, ?_, ?_, ?_⟩
    · exact (Ar_n (by decide)).trans ((Ar_n (by decide)).trans Ar_s)
    · exact (Ar_n (by decide)).trans ((Ar_n (by decide)).trans (Ar_n (by decide)))
    · exact (Ar_n (by decide)).trans Ar_s
    · exact Ar_s
  | false =>
    cases v74 q cc gc (Fi h 13 5) g with
    | true =>
      refine ⟨?_, ?_, ?_, ?_⟩
      · exact (Ar_n (by decide)).trans ((Ar_n (by decide)).trans Ar_s)
      · exact (Ar_n (by decide)).trans ((Ar_n (by decide)).trans (Ar_n (by decide)))
      · exact (Ar_n (by decide)).trans Ar_s
      · exact Ar_s
    | false =>
      cases pm_cmp .le (Ar h 16 (((Ar h 17 g).toNatClampNeg) * 6 + c)) 0 with
      | true =>
        refine ⟨?_, ?_, ?_, ?_⟩
        · exact (Ar_n (by decide)).trans ((Ar_n (by decide)).trans ((Ar_n (by decide)).trans Ar_s))
        · exact (Ar_n (by decide)).trans ((Ar_n (by decide)).trans Ar_s)
        · exact (Ar_n (by decide)).trans Ar_s
        · exact Ar_s
      | false =>
        refine ⟨?_, ?_, ?_, ?_⟩
        · exact (Ar_n (by decide)).trans ((Ar_n (by decide)).trans ((Ar_n (by decide)).trans Ar_s))
        · exact (Ar_n (by decide)).trans ((Ar_n (by decide)).trans Ar_s)
        · exact (Ar_n (by decide)).trans Ar_s
        · exact Ar_s
/-- the reference's sends, where it goes through -/
theorem v217_is {h : pm_H} (hg : g < gc) (hc : c < cc) (hn : ((Ar h 170 (78 + g)).toNatClampNeg) ≠ c) : ∃ h2, (v217 q cc gc h g c).1 = sndE (Ar h 170) ((Ar h 170 (78 + g)).toNatClampNeg) c (cond (v164 q cc gc (Ar h 170 (86 + g)) (nI c)) (Int32.ofInt (-6)) (cond (v173 q cc gc (Ar h 170) g) (Int32.ofInt (-4)) (v216 q cc gc ((v201 q cc gc h g c).1) (Ar h 170 (42 + 6 * ((Ar h 170 (78 + g)).toNatClampNeg) + c))))) (6 + 6 * c + ((Ar h 170 (78 + g)).toNatClampNeg)) ∧ (v217 q cc gc h g c).2 = aset h2 170 96 (snd (Ar h 170) ((Ar h 170 (78 + g)).toNatClampNeg) g c (v164 q cc gc (Ar h 170 (86 + g)) (nI c)) (v173 q cc gc (sndE (Ar h 170) ((Ar h 170 (78 + g)).toNatClampNeg) c (cond (v164 q cc gc (Ar h 170 (86 + g)) (nI c)) (Int32.ofInt (-6)) (cond (v173 q cc gc (Ar h 170) g) (Int32.ofInt (-4)) (v216 q cc gc ((v201 q cc gc h g c).1) (Ar h 170 (42 + 6 * ((Ar h 170 (78 + g)).toNatClampNeg) + c)))))) g) (cond (v164 q cc gc (Ar h 170 (86 + g)) (nI c)) (Int32.ofInt (-6)) (cond (v173 q cc gc (Ar h 170) g) (Int32.ofInt (-4)) (v216 q cc gc ((v201 q cc gc h g c).1) (Ar h 170 (42 + 6 * ((Ar h 170 (78 + g)).toNatClampNeg) + c))))) ((v201 q cc gc h g c).1)) := by
  unfold v217
  have en : decide (¬ ((Ar h 170 (78 + g)).toNatClampNeg) = c) = true := decide_eq_true hn
  rw [decide_eq_true hg, decide_eq_true hc, en]
  unfold snd sndD
  cases v164 q cc gc (Ar h 170 (86 + g)) (nI c) with
  | true => exact ⟨_, rfl, rfl⟩
  | false =>
    unfold sndE
    simp only [cond_true, cond_false]
    cases v173 q cc gc (upd (Ar h 170) (6 + 6 * c + ((Ar h 170 (78 + g)).toNatClampNeg)) (imax (nI 0) (imin (nI 20) (Ar h 170 (6 + 6 * c + ((Ar h 170 (78 + g)).toNatClampNeg)) + cond (v173 q cc gc (Ar h 170) g) (Int32.ofInt (-4)) (v216 q cc gc ((v201 q cc gc h g c).1) (Ar h 170 (42 + 6 * ((Ar h 170 (78 + g)).toNatClampNeg) + c))))))) g with
    | true => exact ⟨_, rfl, rfl⟩
    | false => exact ⟨_, rfl, rfl⟩
/-- the class's deliver, told by its arrays -/
theorem v40t_is {h : pm_H} : v40t q cc gc h g c V = cond (v76 q cc gc (Ar h 24) (Fi h 19 5) g c) (cond (pm_cmp .le (Ar h 22 (((Ar h 23 g).toNatClampNeg) * 6 + c)) 0) (aset (aset (aset (aset h 21 36 (upd (Ar h 21) (c * 6 + ((Ar h 23 g).toNatClampNeg)) (imax (nI 0) (imin (nI 20) (Ar h 21 (c * 6 + ((Ar h 23 g).toNatClampNeg)) + v77 q cc gc (Ar h 24) (Fi h 19 5) g c (Ar h 22 (((Ar h 23 g).toNatClampNeg) * 6 + c)) V))))) 22 36 (upd (Ar h 22) (c * 6 + ((Ar h 23 g).toNatClampNeg)) (imin (nI 9999) (Ar h 22 (c * 6 + ((Ar h 23 g).toNatClampNeg)) + V)))) 23 8 (upd (Ar h 23) g (nI c))) 24 8 (upd (Ar h 24) g (Ar h 24 g ||| shl (nI 1) (nI c)))) (aset (aset (aset (aset h 21 36 (upd (Ar h 21) (c * 6 + ((Ar h 23 g).toNatClampNeg)) (imax (nI 0) (imin (nI 20) (Ar h 21 (c * 6 + ((Ar h 23 g).toNatClampNeg)) + v77 q cc gc (Ar h 24) (Fi h 19 5) g c (Ar h 22 (((Ar h 23 g).toNatClampNeg) * 6 + c)) V))))) 22 36 (upd (Ar h 22) (((Ar h 23 g).toNatClampNeg) * 6 + c) (nI 0))) 23 8 (upd (Ar h 23) g (nI c))) 24 8 (upd (Ar h 24) g (Ar h 24 g ||| shl (nI 1) (nI c))))) (aset (aset (aset h 21 36 (upd (Ar h 21) (c * 6 + ((Ar h 23 g).toNatClampNeg)) (imax (nI 0) (imin (nI 20) (Ar h 21 (c * 6 + ((Ar h 23 g).toNatClampNeg)) + v77 q cc gc (Ar h 24) (Fi h 19 5) g c (Ar h 22 (((Ar h 23 g).toNatClampNeg) * 6 + c)) V))))) 23 8 (upd (Ar h 23) g (nI c))) 24 8 (upd (Ar h 24) g (Ar h 24 g ||| shl (nI 1) (nI c)))) := rfl
theorem v40t_ar {h : pm_H} : Ar (v40t q cc gc h g c V) 21 = upd (Ar h 21) (c * 6 + ((Ar h 23 g).toNatClampNeg)) (imax (nI 0) (imin (nI 20) (Ar h 21 (c * 6 + ((Ar h 23 g).toNatClampNeg)) + v77 q cc gc (Ar h 24) (Fi h 19 5) g c (Ar h 22 (((Ar h 23 g).toNatClampNeg) * 6 + c)) V))) ∧ Ar (v40t q cc gc h g c V) 22 = dueX (Ar h 22) ((Ar h 23 g).toNatClampNeg) c (v75 q cc gc (Ar h 24) g c) (v74 q cc gc (Fi h 19 5) g) V ∧ Ar (v40t q cc gc h g c V) 23 = upd (Ar h 23) g (nI c) ∧ Ar (v40t q cc gc h g c V) 24 = upd (Ar h 24) g (Ar h 24 g ||| shl (nI 1) (nI c)) := by
  rw [v40t_is]
  unfold dueX v76
  cases v75 q cc gc (Ar h 24) g c with
  | true =>
    refine ⟨?_, ?_, ?_, ?_⟩
    · exact (Ar_n (by decide)).trans ((Ar_n (by decide)).trans Ar_s)
    · exact (Ar_n (by decide)).trans ((Ar_n (by decide)).trans (Ar_n (by decide)))
    · exact (Ar_n (by decide)).trans Ar_s
    · exact Ar_s
  | false =>
    cases v74 q cc gc (Fi h 19 5) g with
    | true =>
      refine ⟨?_, ?_, ?_, ?_⟩
      · exact (Ar_n (by decide)).trans ((Ar_n (by decide)).trans Ar_s)
      · exact (Ar_n (by decide)).trans ((Ar_n (by decide)).trans (Ar_n (by decide)))
      · exact (Ar_n (by decide)).trans Ar_s
      · exact Ar_s
    | false =>
      cases pm_cmp .le (Ar h 22 (((Ar h 23 g).toNatClampNeg) * 6 + c)) 0 with
      | true =>
        refine ⟨?_, ?_, ?_, ?_⟩
        · exact (Ar_n (by decide)).trans ((Ar_n (by decide)).trans ((Ar_n (by decide)).trans Ar_s))
        · exact (Ar_n (by decide)).trans ((Ar_n (by decide)).trans Ar_s)
        · exact (Ar_n (by decide)).trans Ar_s
        · exact Ar_s
      | false =>
        refine ⟨?_, ?_, ?_, ?_⟩
        · exact (Ar_n (by decide)).trans ((Ar_n (by decide)).trans ((Ar_n (by decide)).trans Ar_s))
        · exact (Ar_n (by decide)).trans ((Ar_n (by decide)).trans Ar_s)
        · exact (Ar_n (by decide)).trans Ar_s
        · exact Ar_s
/-- the reference's sends, where it goes through -/
theorem v217t_is {h : pm_H} (hg : g < gc) (hc : c < cc) (hn : ((Ar h 171 (78 + g)).toNatClampNeg) ≠ c) : ∃ h2, (v217t q cc gc h g c).1 = sndE (Ar h 171) ((Ar h 171 (78 + g)).toNatClampNeg) c (cond (v164 q cc gc (Ar h 171 (86 + g)) (nI c)) (Int32.ofInt (-6)) (cond (v173 q cc gc (Ar h 171) g) (Int32.ofInt (-4)) (v216 q cc gc ((v201t q cc gc h g c).1) (Ar h 171 (42 + 6 * ((Ar h 171 (78 + g)).toNatClampNeg) + c))))) (6 + 6 * c + ((Ar h 171 (78 + g)).toNatClampNeg)) ∧ (v217t q cc gc h g c).2 = aset h2 171 96 (snd (Ar h 171) ((Ar h 171 (78 + g)).toNatClampNeg) g c (v164 q cc gc (Ar h 171 (86 + g)) (nI c)) (v173 q cc gc (sndE (Ar h 171) ((Ar h 171 (78 + g)).toNatClampNeg) c (cond (v164 q cc gc (Ar h 171 (86 + g)) (nI c)) (Int32.ofInt (-6)) (cond (v173 q cc gc (Ar h 171) g) (Int32.ofInt (-4)) (v216 q cc gc ((v201t q cc gc h g c).1) (Ar h 171 (42 + 6 * ((Ar h 171 (78 + g)).toNatClampNeg) + c)))))) g) (cond (v164 q cc gc (Ar h 171 (86 + g)) (nI c)) (Int32.ofInt (-6)) (cond (v173 q cc gc (Ar h 171) g) (Int32.ofInt (-4)) (v216 q cc gc ((v201t q cc gc h g c).1) (Ar h 171 (42 + 6 * ((Ar h 171 (78 + g)).toNatClampNeg) + c))))) ((v201t q cc gc h g c).1)) := by
  unfold v217t
  have en : decide (¬ ((Ar h 171 (78 + g)).toNatClampNeg) = c) = true := decide_eq_true hn
  rw [decide_eq_true hg, decide_eq_true hc, en]
  unfold snd sndD
  cases v164 q cc gc (Ar h 171 (86 + g)) (nI c) with
  | true => exact ⟨_, rfl, rfl⟩
  | false =>
    unfold sndE
    simp only [cond_true, cond_false]
    cases v173 q cc gc (upd (Ar h 171) (6 + 6 * c + ((Ar h 171 (78 + g)).toNatClampNeg)) (imax (nI 0) (imin (nI 20) (Ar h 171 (6 + 6 * c + ((Ar h 171 (78 + g)).toNatClampNeg)) + cond (v173 q cc gc (Ar h 171) g) (Int32.ofInt (-4)) (v216 q cc gc ((v201t q cc gc h g c).1) (Ar h 171 (42 + 6 * ((Ar h 171 (78 + g)).toNatClampNeg) + c))))))) g with
    | true => exact ⟨_, rfl, rfl⟩
    | false => exact ⟨_, rfl, rfl⟩
end SND
end MG95zzyex0
section MG95zzyex1
/-! a MONTH goes: both sides -/
section MON
variable {cc gc : Nat} {q : QT} {g0 e d hd ha B : Nat → Int32} {x m y z : Int32} {k c : Nat}
theorem bit_or : bit (x ||| y) k = (bit x k || bit y k) := by
  unfold bit
  rw [Int32.toBitVec_or]
  exact BitVec.getLsbD_or
theorem bit_ext (h : ∀ k, k < 32 → bit x k = bit y k) : x = y := by
  apply Int32.toBitVec_inj.mp
  apply BitVec.eq_of_getLsbD_eq
  intro i hi
  exact h i hi
theorem bit_shl {j k : Nat} (hj : j < 8) (hk : k < 32) : bit (shl (nI 1) (nI j)) k = decide (k = j) := by
  have e : ∀ j, j < 8 → ∀ k, k < 32 → bit (shl (nI 1) (nI j)) k = decide (k = j) := by decide +kernel
  exact e j hj k hk
theorem bit_0 : bit (nI 0) k = false := by
  unfold bit
  rw [show (nI 0).toBitVec = 0#32 from rfl]
  exact BitVec.getLsbD_zero
theorem bit_74 {k : Nat} (hk : k < 8) : v74 q cc gc x k = bit x k := by
  have key : ∀ (s : Nat), s < 32 → (x.toBitVec.sshiftRight s).getLsbD 0 = x.toBitVec.getLsbD s := by
    intro s hs
    rw [BitVec.getLsbD_sshiftRight]
    simp [hs]
  have sh : ∀ (s : Nat) (y : Int32), s < 32 → y.toBitVec = x.toBitVec.sshiftRight s → cond (pm_cmp .eq (y &&& nI 1) 0) false true = x.toBitVec.getLsbD s := by
    intro s y hs ey
    have e : (y &&& nI 1).toBitVec = BitVec.setWidth 32 (BitVec.ofBool (y.toBitVec.getLsbD 0)) := BitVec.and_one_eq_setWidth_ofBool_getLsbD
    rw [ey, key s hs] at e
    cases z : x.toBitVec.getLsbD s with
    | false =>
      rw [z] at e
      rw [show y &&& nI 1 = 0 from Int32.toBitVec_inj.mp e]
      decide
    | true =>
      rw [z] at e
      rw [show y &&& nI 1 = nI 1 from Int32.toBitVec_inj.mp e]
      decide
  unfold v74 shr bit
  rcases (by omega : k = 0 ∨ k = 1 ∨ k = 2 ∨ k = 3 ∨ k = 4 ∨ k = 5 ∨ k = 6 ∨ k = 7) with rfl | rfl | rfl | rfl | rfl | rfl | rfl | rfl
  · exact sh 0 _ (by decide) rfl
  · exact sh 1 _ (by decide) rfl
  · exact sh 2 _ (by decide) rfl
  · exact sh 3 _ (by decide) rfl
  · exact sh 4 _ (by decide) rfl
  · exact sh 5 _ (by decide) rfl
  · exact sh 6 _ (by decide) rfl
  · exact sh 7 _ (by decide) rfl
/-- a beast, a bear -/
def kok (k : Int32) : Bool := cond (pm_cmp .eq k (nI 1)) true (cond (pm_cmp .ne k (nI 4)) false true)
theorem v41_is {kd : Nat → Int32} : v41 q cc gc kd x k = (kok (kd k) && !(v74 q cc gc x k)) := by
  unfold v41 kok
  cases pm_cmp .eq (kd k) (nI 1) <;> cases pm_cmp .ne (kd k) (nI 4) <;> cases v74 q cc gc x k <;> rfl
theorem v218_is {kd r : Nat → Int32} : v218 q cc gc kd r k = (kok (kd k) && !(v173 q cc gc r k)) := by
  unfold v218 kok
  cases pm_cmp .eq (kd k) (nI 1) <;> cases pm_cmp .ne (kd k) (nI 4) <;> cases v173 q cc gc r k <;> rfl
/-- who eats at all, what is left, who dies -/
def eat (D : Int32) (kd : Nat → Int32) (i : Nat) : Bool := kok (kd i) && !(bit D i)
def gx (D : Int32) (kd ea : Nat → Int32) (hol : Nat → Nat) (G : Nat → Int32) : Nat → Nat → Int32
  | 0, c => G c
  | i + 1, c => if hol i = c then cond (eat D kd i) (imax (nI 0) (gx D kd ea hol G i c - ea i)) (gx D kd ea hol G i c) else gx D kd ea hol G i c
def dy (D : Int32) (kd ea : Nat → Int32) (hol : Nat → Nat) (G : Nat → Int32) (i : Nat) : Bool := eat D kd i && !(pm_cmp .ge (gx D kd ea hol G i (hol i)) (ea i))
theorem sub_i {a b : Int32} (h1 : 0 ≤ a.toInt ∧ a.toInt ≤ 999) (h2 : 0 ≤ b.toInt ∧ b.toInt ≤ 9) : (a - b).toInt = a.toInt - b.toInt := by
  rw [Int32.toInt_sub, Int.bmod_eq_of_le] <;> omega
theorem eat_x {a b : Int32} (h1 : 0 ≤ a.toInt ∧ a.toInt ≤ 999) (h2 : 0 ≤ b.toInt ∧ b.toInt ≤ 9) : imax (nI 0) (a - b) = cond (pm_cmp .ge a b) (a - b) (nI 0) := by
  unfold imax
  have e : (nI 0 < a - b) ↔ b.toInt < a.toInt := by
    rw [Int32.lt_iff_toInt_lt, sub_i h1 h2, nI_toInt (by decide)]
    omega
  have e2 : pm_cmp .ge a b = decide (b.toInt ≤ a.toInt) := by
    simp only [pm_cmp]
    rw [decide_eq_decide, Int32.le_iff_toInt_le]
  rw [e2]
  by_cases z1 : b.toInt < a.toInt
  · rw [if_pos (e.mpr z1), decide_eq_true (show b.toInt ≤ a.toInt by omega)]
    rfl
  · rw [if_neg (fun y => z1 (e.mp y))]
    by_cases z2 : b.toInt ≤ a.toInt
    · rw [decide_eq_true z2]
      show nI 0 = a - b
      apply Int32.toInt_inj.mp
      rw [sub_i h1 h2, nI_toInt (by decide)]
      omega
    · rw [decide_eq_false z2]
      rfl
theorem imx_i {a b : Int32} (h1 : 0 ≤ a.toInt ∧ a.toInt ≤ 999) (h2 : 0 ≤ b.toInt ∧ b.toInt ≤ 9) : 0 ≤ (imax (nI 0) (a - b)).toInt ∧ (imax (nI 0) (a - b)).toInt ≤ 999 := by
  rw [imax_i, sub_i h1 h2, nI_toInt (by decide)]
  omega
variable {D : Int32} {kd ea G : Nat → Int32} {hol : Nat → Nat}
theorem gx_i (hG : ∀ c, c < cc → 0 ≤ (G c).toInt ∧ (G c).toInt ≤ 999) (hE : ∀ j, j < gc → 0 ≤ (ea j).toInt ∧ (ea j).toInt ≤ 9) : ∀ i c, i ≤ gc → c < cc → 0 ≤ (gx D kd ea hol G i c).toInt ∧ (gx D kd ea hol G i c).toInt ≤ 999
  | 0, c, _, hc => hG c hc
  | i + 1, c, hi, hc => by
    have h0 := gx_i hG hE i c (by omega) hc
    unfold gx
    by_cases z : hol i = c
    · rw [if_pos z]
      cases eat D kd i with
      | false => exact h0
      | true => exact imx_i h0 (hE i (by omega))
    · rw [if_neg z]
      exact h0
/-- the class's month of one court -/
theorem mon_in {hx : pm_H} (h8 : gc ≤ 8) (hw : HC q cc gc hx) (hh : ∀ j, j < gc → Ar hx 17 j = nI (hol j) ∧ hol j < 6) (hG : ∀ c, c < cc → 0 ≤ (G c).toInt ∧ (G c).toInt ≤ 999) (hE : ∀ j, j < gc → 0 ≤ (Ar hx 11 j).toInt ∧ (Ar hx 11 j).toInt ≤ 9) {c : Nat} (hc : c < cc) (hb : ∀ k, k < 32 → bit (Fi hx 13 5) k = (bit D k || (decide (k < gc) && (dy D (Ar hx 9) (Ar hx 11) hol G k && decide (hol k < c))))) : ∀ i, i ≤ gc → HC q cc gc (v43_25 q cc gc c i 0 (G c, hx)).2 ∧ frm [13] [(13, 5)] hx (v43_25 q cc gc c i 0 (G c, hx)).2 ∧ (v43_25 q cc gc c i 0 (G c, hx)).1 = gx D (Ar hx 9) (Ar hx 11) hol G i c ∧ ∀ k, k < 32 → bit (Fi (v43_25 q cc gc c i 0 (G c, hx)).2 13 5) k = (bit D k || (decide (k < gc) && (dy D (Ar hx 9) (Ar hx 11) hol G k && (decide (hol k < c) || (decide (hol k = c) && decide (k < i)))))) := by
  intro i hi
  have p := lp_in (f := fun i (a : Int32 × pm_H) => v43_25b q cc gc a.2 c i a.1) (P := fun i a => HC q cc gc a.2 ∧ frm [13] [(13, 5)] hx a.2 ∧ a.1 = gx D (Ar hx 9) (Ar hx 11) hol G i c ∧ ∀ k, k < 32 → bit (Fi a.2 13 5) k = (bit D k || (decide (k < gc) && (dy D (Ar hx 9) (Ar hx 11) hol G k && (decide (hol k < c) || (decide (hol k = c) && decide (k < i))))))) i 0 (G c, hx) ⟨hw, fr_0, rfl, fun k hk => by
      rw [hb k hk, decide_eq_false (Nat.not_lt_zero k), Bool.and_false, Bool.or_false]⟩ (fun i a _ hi2 p => by
    obtain ⟨p1, p2, p3, p4⟩ := p
    obtain ⟨x3, h'⟩ := a
    dsimp only at p1 p2 p3 p4 ⊢
    have hig : i < gc := by omega
    have a17 : Ar h' 17 = Ar hx 17 := Ar_e (p2.1 17 rfl)
    have a11 : Ar h' 11 = Ar hx 11 := Ar_e (p2.1 11 rfl)
    have a9 : Ar h' 9 = Ar hx 9 := Ar_e (p2.1 9 rfl)
    have ri := gx_i (D := D) (kd := Ar hx 9) (hol := hol) hG hE i c (by omega) hc
    have hc6 := p1.cb
    -- the bits do not change where the gift isn't the court's
    have stay : (hol i = c → dy D (Ar hx 9) (Ar hx 11) hol G i = false) → ∀ k, k < 32 → bit (Fi h' 13 5) k = (bit D k || (decide (k < gc) && (dy D (Ar hx 9) (Ar hx 11) hol G k && (decide (hol k < c) || (decide (hol k = c) && decide (k < i + 1)))))) := by
      intro hd k hk
      rw [p4 k hk]
      by_cases z : k = i
      · subst z
        by_cases y : hol k = c
        · rw [hd y, Bool.false_and, Bool.false_and]
        · rw [decide_eq_false y, Bool.false_and, Bool.false_and]
      · have : decide (k < i + 1) = decide (k < i) := by
          rw [decide_eq_decide]
          omega
        rw [this]
    unfold v43_25b
    rw [a17, a11, a9, (hh i hig).1]
    by_cases y : hol i = c
    · rw [show pm_cmp .ne (nI (hol i)) (nI c) = false from (hI_ne (by have := (hh i hig).2; omega) (by omega)).trans (decide_eq_false (fun w => w y))]
      have ev : v41 q cc gc (Ar hx 9) (Fi h' 13 5) i = eat D (Ar hx 9) i := by
        rw [v41_is, bit_74 (by omega), p4 i (by omega), decide_eq_false (Nat.lt_irrefl i), y, decide_eq_false (Nat.lt_irrefl c)]
        unfold eat
        rw [Bool.and_false, Bool.or_false, Bool.and_false, Bool.and_false, Bool.or_false]
      rw [ev]
      have eg : gx D (Ar hx 9) (Ar hx 11) hol G (i + 1) c = cond (eat D (Ar hx 9) i) (imax (nI 0) (gx D (Ar hx 9) (Ar hx 11) hol G i c - Ar hx 11 i)) (gx D (Ar hx 9) (Ar hx 11) hol G i c) := by
        show (if hol i = c then _ else _) = _
        rw [if_pos y]
      cases ze : eat D (Ar hx 9) i with
      | false =>
        refine ⟨p1, p2, by rw [eg, ze]; exact p3, stay (fun _ => ?_)⟩
        unfold dy
        rw [ze]
        rfl
      | true =>
        rw [p3]
        have ex := eat_x ri (hE i hig)
        cases zg : pm_cmp .ge (gx D (Ar hx 9) (Ar hx 11) hol G i c) (Ar hx 11 i) with
        | true =>
          refine ⟨p1, p2, by rw [eg, ze, ex, zg]; rfl, stay (fun _ => ?_)⟩
          unfold dy
          rw [y, zg, Bool.not_true, Bool.and_false]
        | false =>
          refine ⟨hc_f rfl rfl (by decide) rfl p1, fr_f rfl rfl p2, by rw [eg, ze, ex, zg]; rfl, fun k hk => ?_⟩
          show bit (Fi (fset h' 13 5 (.int (Fi h' 13 5 ||| shl (nI 1) (nI i)))) 13 5) k = _
          rw [Fi_s p1.wt (by decide) rfl (by decide) rfl, bit_or, bit_shl (by omega) hk, p4 k hk]
          by_cases z : k = i
          · subst z
            have ed : dy D (Ar hx 9) (Ar hx 11) hol G k = true := by
              unfold dy
              rw [ze, y, zg]
              rfl
            rw [ed, y, decide_eq_true (rfl : k = k), decide_eq_true hig, decide_eq_true (rfl : c = c), decide_eq_true (Nat.lt_succ_self k)]
            simp
          · have : decide (k < i + 1) = decide (k < i) := by
              rw [decide_eq_decide]
              omega
            rw [decide_eq_false z, this, Bool.or_false]
    · rw [show pm_cmp .ne (nI (hol i)) (nI c) = true from (hI_ne (by have := (hh i hig).2; omega) (by omega)).trans (decide_eq_true y)]
      refine ⟨p1, p2, ?_, stay (fun w => absurd w y)⟩
      show x3 = (if hol i = c then _ else gx D (Ar hx 9) (Ar hx 11) hol G i c)
      rw [if_neg y]
      exact p3)
  rw [Nat.zero_add] at p
  exact p
/-- all courts, one behind the other -/
theorem mon_x {hx : pm_H} (h8 : gc ≤ 8) (h6 : cc ≤ 6) (hw : HC q cc gc hx) (hh : ∀ j, j < gc → Ar hx 17 j = nI (hol j) ∧ hol j < 6) (hE : ∀ j, j < gc → 0 ≤ (Ar hx 11 j).toInt ∧ (Ar hx 11 j).toInt ≤ 9) (hR : ∀ c, c < cc → 0 ≤ (imin (nI 999) (Ar hx 14 c + nI 2 * Ar hx 6 c)).toInt ∧ (imin (nI 999) (Ar hx 14 c + nI 2 * Ar hx 6 c)).toInt ≤ 999) : HC q cc gc (v42_2 q cc gc cc 0 hx) ∧ frm [13, 14] [(13, 5)] hx (v42_2 q cc gc cc 0 hx) ∧ (∀ k, k < 6 → Ar (v42_2 q cc gc cc 0 hx) 14 k = if k < cc then gx (Fi hx 13 5) (Ar hx 9) (Ar hx 11) hol (fun c => imin (nI 999) (Ar hx 14 c + nI 2 * Ar hx 6 c)) gc k else Ar hx 14 k) ∧ ∀ k, k < 32 → bit (Fi (v42_2 q cc gc cc 0 hx) 13 5) k = (bit (Fi hx 13 5) k || (decide (k < gc) && (dy (Fi hx 13 5) (Ar hx 9) (Ar hx 11) hol (fun c => imin (nI 999) (Ar hx 14 c + nI 2 * Ar hx 6 c)) k && decide (hol k < cc)))) := by
  have p := lp_in (f := fun i (a : pm_H) => v42_2b q cc gc a i) (P := fun c a => HC q cc gc a ∧ frm [13, 14] [(13, 5)] hx a ∧ (∀ k, k < 6 → Ar a 14 k = if k < c then gx (Fi hx 13 5) (Ar hx 9) (Ar hx 11) hol (fun c => imin (nI 999) (Ar hx 14 c + nI 2 * Ar hx 6 c)) gc k else Ar hx 14 k) ∧ ∀ k, k < 32 → bit (Fi a 13 5) k = (bit (Fi hx 13 5) k || (decide (k < gc) && (dy (Fi hx 13 5) (Ar hx 9) (Ar hx 11) hol (fun c => imin (nI 999) (Ar hx 14 c + nI 2 * Ar hx 6 c)) k && decide (hol k < c))))) cc 0 hx ⟨hw, fr_0, fun k hk => (by rw [if_neg (Nat.not_lt_zero k)]), fun k hk => (by rw [decide_eq_false (Nat.not_lt_zero (hol k)), Bool.and_false, Bool.and_false, Bool.or_false])⟩ (fun c a _ hc p => by
    obtain ⟨p1, p2, p3, p4⟩ := p
    have a17 : Ar a 17 = Ar hx 17 := Ar_e (p2.1 17 rfl)
    have a11 : Ar a 11 = Ar hx 11 := Ar_e (p2.1 11 rfl)
    have a9 : Ar a 9 = Ar hx 9 := Ar_e (p2.1 9 rfl)
    have a6 : Ar a 6 = Ar hx 6 := Ar_e (p2.1 6 rfl)
    have hcc : c < cc := by omega
    obtain ⟨w1, w2, w3, w4⟩ := mon_in (hol := hol) (D := Fi hx 13 5) (G := fun c => imin (nI 999) (Ar hx 14 c + nI 2 * Ar hx 6 c)) h8 p1 (fun j hj => by rw [a17]; exact hh j hj) hR (fun j hj => by rw [a11]; exact hE j hj) hcc (by rw [a9, a11]; exact p4) gc (Nat.le_refl gc)
    rw [a9, a11] at w3 w4
    have eG : imin (nI 999) (Ar a 14 c + nI 2 * Ar a 6 c) = imin (nI 999) (Ar hx 14 c + nI 2 * Ar hx 6 c) := by
      rw [a6, p3 c (by omega), if_neg (Nat.lt_irrefl c)]
    rw [show v42_2b q cc gc a c = v43 q cc gc a c from rfl]
    unfold v43
    rw [eG]
    refine ⟨hc_a rfl rfl w1, fr_a rfl rfl (fr_g rfl rfl w2 p2), fun k hk => ?_, fun k hk => ?_⟩
    · rw [Ar_s, w3]
      by_cases z : k = c
      · rw [up_e z, if_pos (by omega), z]
      · rw [up_n z, p3 k hk]
        by_cases y : k < c
        · rw [if_pos y, if_pos (by omega)]
        · rw [if_neg y, if_neg (by omega)]
    · rw [Fi_a (by decide), w4 k hk]
      have e3 : (decide (hol k < c) || (decide (hol k = c) && decide (k < gc))) = ((decide (hol k < c + 1) && decide (k < gc)) || decide (hol k < c)) := by
        rw [Bool.eq_iff_iff]
        simp only [Bool.or_eq_true, Bool.and_eq_true, decide_eq_true_iff]
        omega
      rw [e3]
      cases z : decide (k < gc) with
      | false => rw [Bool.false_and, Bool.false_and]
      | true =>
        rw [Bool.and_true]
        have e4 : (decide (hol k < c + 1) || decide (hol k < c)) = decide (hol k < c + 1) := by
          rw [Bool.eq_iff_iff]
          simp only [Bool.or_eq_true, decide_eq_true_iff]
          omega
        rw [e4])
  rw [Nat.zero_add] at p
  exact p
/-- the reference's month -/
theorem mon_m {hm : pm_H} (h8 : gc ≤ 8) (h6 : cc ≤ 6) (hw : HC q cc gc hm) (hh : ∀ j, j < gc → Ar hm 170 (78 + j) = nI (hol j) ∧ hol j < cc) (hE : ∀ j, j < gc → 0 ≤ (Ar hm 168 j).toInt ∧ (Ar hm 168 j).toInt ≤ 9) (hR : ∀ c, c < cc → 0 ≤ (imin (nI 999) (Ar hm 170 c + nI 2 * Ar hm 164 c)).toInt ∧ (imin (nI 999) (Ar hm 170 c + nI 2 * Ar hm 164 c)).toInt ≤ 999) : HC q cc gc (v219 q cc gc hm) ∧ frm [170] [] hm (v219 q cc gc hm) ∧ (∀ k, k < 6 → Ar (v219 q cc gc hm) 170 k = if k < cc then gx (Ar hm 170 94) (Ar hm 166) (Ar hm 168) hol (fun c => imin (nI 999) (Ar hm 170 c + nI 2 * Ar hm 164 c)) gc k else Ar hm 170 k) ∧ (∀ k, 6 ≤ k → k < 94 → Ar (v219 q cc gc hm) 170 k = Ar hm 170 k) ∧ (∀ k, k < 32 → bit (Ar (v219 q cc gc hm) 170 94) k = (bit (Ar hm 170 94) k || (decide (k < gc) && dy (Ar hm 170 94) (Ar hm 166) (Ar hm 168) hol (fun c => imin (nI 999) (Ar hm 170 c + nI 2 * Ar hm 164 c)) k))) ∧ Ar (v219 q cc gc hm) 170 95 = Ar hm 170 95 + nI 1 := by
  have p := lp_in (f := fun i (a : pm_H) => v219_2b q cc gc a i) (P := fun c a => HC q cc gc a ∧ frm [170] [] hm a ∧ ∀ k, k < 96 → Ar a 170 k = if k < c then imin (nI 999) (Ar hm 170 k + nI 2 * Ar hm 164 k) else Ar hm 170 k) cc 0 hm ⟨hw, fr_0, fun k hk => (by rw [if_neg (Nat.not_lt_zero k)])⟩ (fun c a _ hc p => by
    obtain ⟨p1, p2, p3⟩ := p
    have a4 : Ar a 164 = Ar hm 164 := Ar_e (p2.1 164 rfl)
    unfold v219_2b
    refine ⟨hc_a rfl rfl p1, fr_a rfl rfl p2, fun k hk => ?_⟩
    rw [Ar_s, a4]
    by_cases z : k = c
    · rw [up_e z, if_pos (by omega), p3 c (by omega), if_neg (Nat.lt_irrefl c), z]
    · rw [up_n z, p3 k hk]
      by_cases y : k < c
      · rw [if_pos y, if_pos (by omega)]
      · rw [if_neg y, if_neg (by omega)])
  rw [Nat.zero_add] at p
  obtain ⟨p1, p2, p3⟩ := p
  have b0 : lp (fun i (a : pm_H) => v219_2b q cc gc a i) cc 0 hm = v219_2 q cc gc cc 0 hm := rfl
  rw [b0] at p1 p2 p3
  have r := lp_in (f := fun i (a : pm_H) => v219_39b q cc gc a i) (P := fun i a => HC q cc gc a ∧ frm [170] [] hm a ∧ (∀ k, k < 6 → Ar a 170 k = if k < cc then gx (Ar hm 170 94) (Ar hm 166) (Ar hm 168) hol (fun c => imin (nI 999) (Ar hm 170 c + nI 2 * Ar hm 164 c)) i k else Ar hm 170 k) ∧ (∀ k, 6 ≤ k → k < 96 → k ≠ 94 → Ar a 170 k = Ar hm 170 k) ∧ ∀ k, k < 32 → bit (Ar a 170 94) k = (bit (Ar hm 170 94) k || (decide (k < gc) && (dy (Ar hm 170 94) (Ar hm 166) (Ar hm 168) hol (fun c => imin (nI 999) (Ar hm 170 c + nI 2 * Ar hm 164 c)) k && decide (k < i))))) gc 0 (v219_2 q cc gc cc 0 hm) ⟨p1, p2, fun k hk => p3 k (by omega), fun k h1 h2 _ => (by rw [p3 k h2, if_neg (by omega)]), fun k hk => (by rw [p3 94 (by decide), if_neg (by omega), decide_eq_false (Nat.not_lt_zero k), Bool.and_false, Bool.and_false, Bool.or_false])⟩ (fun i a _ hi p => by
    obtain ⟨p1, p2, p3, p4, p5⟩ := p
    have a6 : Ar a 166 = Ar hm 166 := Ar_e (p2.1 166 rfl)
    have a8 : Ar a 168 = Ar hm 168 := Ar_e (p2.1 168 rfl)
    have hig : i < gc := by omega
    obtain ⟨e1, e2⟩ := hh i hig
    have e3 : Ar a 170 (78 + i) = nI (hol i) := (p4 (78 + i) (by omega) (by omega) (by omega)).trans e1
    have ri := gx_i (D := Ar hm 170 94) (kd := Ar hm 166) (hol := hol) hR hE i (hol i) (by omega) e2
    have ev : v218 q cc gc (Ar a 166) (Ar a 170) i = eat (Ar hm 170 94) (Ar hm 166) i := by
      rw [v218_is, a6]
      unfold v173
      rw [bt_eq, bit_74 (by omega), p5 i (by omega), decide_eq_false (Nat.lt_irrefl i), Bool.and_false, Bool.and_false, Bool.or_false]
      rfl
    have er : Ar a 170 (hol i) = gx (Ar hm 170 94) (Ar hm 166) (Ar hm 168) hol (fun c => imin (nI 999) (Ar hm 170 c + nI 2 * Ar hm 164 c)) i (hol i) := by
      rw [p3 (hol i) (by omega), if_pos e2]
    show HC q cc gc (v219_39b q cc gc a i) ∧ frm [170] [] hm (v219_39b q cc gc a i) ∧ _
    unfold v219_39b
    rw [ev, e3, nI_clamp (by omega), a8]
    have egn : ∀ k, k ≠ hol i → gx (Ar hm 170 94) (Ar hm 166) (Ar hm 168) hol (fun c => imin (nI 999) (Ar hm 170 c + nI 2 * Ar hm 164 c)) (i + 1) k = gx (Ar hm 170 94) (Ar hm 166) (Ar hm 168) hol (fun c => imin (nI 999) (Ar hm 170 c + nI 2 * Ar hm 164 c)) i k := by
      intro k hk
      show (if hol i = k then _ else _) = _
      rw [if_neg (fun y => hk y.symm)]
    have stay : dy (Ar hm 170 94) (Ar hm 166) (Ar hm 168) hol (fun c => imin (nI 999) (Ar hm 170 c + nI 2 * Ar hm 164 c)) i = false → ∀ k, k < 32 → bit (Ar a 170 94) k = (bit (Ar hm 170 94) k || (decide (k < gc) && (dy (Ar hm 170 94) (Ar hm 166) (Ar hm 168) hol (fun c => imin (nI 999) (Ar hm 170 c + nI 2 * Ar hm 164 c)) k && decide (k < i + 1)))) := by
      intro hd k hk
      rw [p5 k hk]
      by_cases z : k = i
      · subst z
        rw [hd, Bool.false_and, Bool.false_and]
      · have : decide (k < i + 1) = decide (k < i) := by
          rw [decide_eq_decide]
          omega
        rw [this]
    cases ze : eat (Ar hm 170 94) (Ar hm 166) i with
    | false =>
      refine ⟨p1, p2, fun k hk => ?_, p4, stay ?_⟩
      · show Ar a 170 k = _
        rw [p3 k hk]
        by_cases y : k < cc
        · rw [if_pos y, if_pos y]
          by_cases w : k = hol i
          · show _ = (if hol i = k then cond (eat (Ar hm 170 94) (Ar hm 166) i) _ _ else _)
            rw [if_pos w.symm, ze]
            rfl
          · rw [egn k w]
        · rw [if_neg y, if_neg y]
      · unfold dy
        rw [ze]
        rfl
    | true =>
      simp only [cond_true]
      refine ⟨hc_a rfl rfl p1, fr_a rfl rfl p2, fun k hk => ?_, fun k h1 h2 h3 => ?_, fun k hk => ?_⟩
      · rw [Ar_s]
        by_cases w : k = hol i
        · rw [up_e w, up_n (show hol i ≠ 94 by omega), if_pos (by omega), er, w]
          show _ = (if hol i = hol i then cond (eat (Ar hm 170 94) (Ar hm 166) i) _ _ else _)
          rw [if_pos rfl, ze]
          rfl
        · rw [up_n w, up_n (by omega), p3 k hk]
          by_cases y : k < cc
          · rw [if_pos y, if_pos y, egn k w]
          · rw [if_neg y, if_neg y]
      · rw [Ar_s, up_n (by omega), up_n h3]
        exact p4 k h1 h2 h3
      · rw [Ar_s, up_n (show 94 ≠ hol i by omega), up_e rfl, er, bit_or]
        cases zg : pm_cmp .ge (gx (Ar hm 170 94) (Ar hm 166) (Ar hm 168) hol (fun c => imin (nI 999) (Ar hm 170 c + nI 2 * Ar hm 164 c)) i (hol i)) (Ar hm 168 i) with
        | true =>
          show (bit (Ar a 170 94) k || bit (nI 0) k) = _
          rw [bit_0, Bool.or_false]
          refine stay ?_ k hk
          unfold dy
          rw [zg, Bool.not_true, Bool.and_false]
        | false =>
          show (bit (Ar a 170 94) k || bit (shl (nI 1) (nI i)) k) = _
          rw [bit_shl (by omega) hk, p5 k hk]
          by_cases z : k = i
          · subst z
            have ed : dy (Ar hm 170 94) (Ar hm 166) (Ar hm 168) hol (fun c => imin (nI 999) (Ar hm 170 c + nI 2 * Ar hm 164 c)) k = true := by
              unfold dy
              rw [ze, zg]
              rfl
            rw [ed, decide_eq_true (rfl : k = k), decide_eq_true hig, decide_eq_true (Nat.lt_succ_self k)]
            simp
          · have : decide (k < i + 1) = decide (k < i) := by
              rw [decide_eq_decide]
              omega
            rw [decide_eq_false z, this, Bool.or_false])
  rw [Nat.zero_add] at r
  obtain ⟨r1, r2, r3, r4, r5⟩ := r
  have b1 : lp (fun i (a : pm_H) => v219_39b q cc gc a i) gc 0 (v219_2 q cc gc cc 0 hm) = v219_39 q cc gc gc 0 (v219_2 q cc gc cc 0 hm) := rfl
  rw [b1] at r1 r2 r3 r4 r5
  unfold v219
  refine ⟨hc_a rfl rfl r1, fr_a rfl rfl r2, fun k hk => ?_, fun k h1 h2 => ?_, fun k hk => ?_, ?_⟩
  · rw [Ar_s, up_n (by omega)]
    exact r3 k hk
  · rw [Ar_s, up_n (by omega)]
    exact r4 k h1 (by omega) (by omega)
  · rw [Ar_s, up_n (by decide), r5 k hk]
    cases z : decide (k < gc) with
    | false => rw [Bool.false_and, Bool.false_and]
    | true => rw [Bool.and_true]
  · rw [Ar_s, up_e rfl, r4 95 (by decide) (by decide) (by decide)]
end MON
end MG95zzyex1
section MG95zzyex2
/-! one act: both sides keep alike -/
section ACT
variable {cc gc : Nat} {q : QT} {hx hm : pm_H} {V : Int32} {g c F : Nat}
theorem gx_cg {D : Int32} {kd ea G kd' ea' G' : Nat → Int32} {hol : Nat → Nat} {n : Nat} (h1 : ∀ j, j < n → kd j = kd' j ∧ ea j = ea' j) : ∀ i c, i ≤ n → G c = G' c → gx D kd ea hol G i c = gx D kd' ea' hol G' i c
  | 0, _, _, e => e
  | i + 1, c, hi, e => by
    unfold gx eat
    rw [(h1 i (by omega)).1, (h1 i (by omega)).2, gx_cg h1 i c (by omega) e]
theorem dy_cg {D : Int32} {kd ea G kd' ea' G' : Nat → Int32} {hol : Nat → Nat} {n : Nat} (h1 : ∀ j, j < n → kd j = kd' j ∧ ea j = ea' j) {i : Nat} (hi : i < n) (e : G (hol i) = G' (hol i)) : dy D kd ea hol G i = dy D kd' ea' hol G' i := by
  unfold dy
  rw [gx_cg h1 i (hol i) (by omega) e]
  unfold eat
  rw [(h1 i hi).1, (h1 i hi).2]
theorem mon_G {a b : Int32} {k : Nat} (h1 : 0 ≤ a.toInt ∧ a.toInt ≤ 999) (hk : k < 10) (e : b = nI k) : 0 ≤ (imin (nI 999) (a + nI 2 * b)).toInt ∧ (imin (nI 999) (a + nI 2 * b)).toInt ≤ 999 := by
  rw [e, hI_mul, imin_i, nI_toInt (by decide)]
  have : (a + nI (2 * k)).toInt = a.toInt + (2 * k : Nat) := by
    rw [Int32.toInt_add, nI_toInt (by omega), Int.bmod_eq_of_le] <;> omega
  rw [this]
  omega
theorem nI_rgz {k n : Nat} {b : Int32} (hk : k < n) (hn : n ≤ 1000) (e : b = nI k) : 0 ≤ b.toInt ∧ b.toInt ≤ (n : Int) - 1 := by
  rw [e, nI_toInt (by omega)]
  omega
/-- a GIFT IS SENT -/
theorem send_rel (cx : HC q cc gc hx) (s : RS cc gc (Ar hx 14) (Ar hx 15) (Ar hx 16) (Ar hx 17) (Ar hx 18) (Fi hx 13 5) (Fi hx 13 6) (Ar hm 170)) (ri : RI cc gc (Ar hm 170)) (hV : V = (v201 q cc gc hm g c).1) (hg : g < gc) (hc : c < cc) (hF : F < cc) (eF : Ar hm 170 (78 + g) = nI F) (hn : F ≠ c) : RS cc gc (Ar hx 14) (Ar (v40 q cc gc hx g c V) 15) (Ar (v40 q cc gc hx g c V) 16) (Ar (v40 q cc gc hx g c V) 17) (Ar (v40 q cc gc hx g c V) 18) (Fi hx 13 5) (Fi hx 13 6) (Ar (v217 q cc gc hm g c).2 170) ∧ RI cc gc (Ar (v217 q cc gc hm g c).2 170) ∧ (v217 q cc gc hm g c).1 = Ar (v40 q cc gc hx g c V) 15 (c * 6 + F) ∧ 0 ≤ (v217 q cc gc hm g c).1.toInt := by
  have h6 := cx.cb
  have h8 := cx.gb
  have eX : Ar hx 17 g = nI F := (s.2.2.2.1 g hg).trans eF
  obtain ⟨b1, b2, b3, b4⟩ := v40_ar (q := q) (cc := cc) (gc := gc) (h := hx) (g := g) (c := c) (V := V)
  rw [eX, nI_clamp (by omega)] at b1 b2
  obtain ⟨hz, m1, m2⟩ := v217_is (q := q) (h := hm) hg hc (by rw [eF, nI_clamp (by omega)]; exact hn)
  rw [eF, nI_clamp (by omega), ← hV] at m1 m2
  have hdead : ∀ G, v173 q cc gc (sndE (Ar hm 170) F c G) g = v173 q cc gc (Ar hm 170) g := by
    intro G
    unfold v173
    rw [sndE_n (by omega)]
  rw [hdead] at m2
  have eg : v77 q cc gc (Ar hx 18) (Fi hx 13 5) g c (Ar hx 16 (F * 6 + c)) V = cond (v164 q cc gc (Ar hm 170 (86 + g)) (nI c)) (Int32.ofInt (-6)) (cond (v173 q cc gc (Ar hm 170) g) (Int32.ofInt (-4)) (v216 q cc gc V (Ar hm 170 (42 + 6 * F + c)))) := by
    unfold v77
    rw [s.2.2.1 F c (by omega) (by omega), eq_75 s hg, eq_74 s g]
    exact gain_eq (ri.2.2.1 F c (by omega) (by omega)).1.1
  rw [eg] at b1
  have hVr : 0 ≤ V.toInt ∧ V.toInt ≤ 999 := by
    rw [hV, v201_val]
    exact clamp_i (k := 999) (by decide)
  refine ⟨?_, ?_, ?_, ?_⟩
  · rw [m2, Ar_s, b1, b2, b3, b4, eq_75 s hg, eq_74 s g]
    exact RS_snd s ri h6 h8 hg hc hF hn
  · rw [m2, Ar_s]
    exact RI_snd ri h6 h8 hg hc hF hn hVr
  · rw [m1, b1, up_e rfl]
    unfold sndE
    rw [up_e rfl, s.2.1 c F hc hF (fun y => hn y.symm)]
  · rw [m1]
    unfold sndE
    rw [up_e rfl]
    exact (clamp_i (k := 20) (by decide)).1
/-- a MONTH goes -/
theorem mon_rel (cx : HC q cc gc hx) (cm : HC q cc gc hm) (rm : RMm cc gc hx hm) (s : RS cc gc (Ar hx 14) (Ar hx 15) (Ar hx 16) (Ar hx 17) (Ar hx 18) (Fi hx 13 5) (Fi hx 13 6) (Ar hm 170)) (ri : RI cc gc (Ar hm 170)) : RS cc gc (Ar (v42 q cc gc hx) 14) (Ar hx 15) (Ar hx 16) (Ar hx 17) (Ar hx 18) (Fi (v42 q cc gc hx) 13 5) (Fi (v42 q cc gc hx) 13 6) (Ar (v219 q cc gc hm) 170) ∧ RI cc gc (Ar (v219 q cc gc hm) 170) := by
  have h6 := cx.cb
  have h8 := cx.gb
  obtain ⟨r1, r2, r3, r4, r5⟩ := ri
  obtain ⟨hol, hH⟩ : ∃ hol : Nat → Nat, ∀ j, j < gc → Ar hm 170 (78 + j) = nI (hol j) ∧ hol j < cc := by
    refine ⟨fun j => (Ar hm 170 (78 + j)).toNatClampNeg, fun j hj => ?_⟩
    obtain ⟨c, hc, e⟩ := r4 j hj
    show Ar hm 170 (78 + j) = nI ((Ar hm 170 (78 + j)).toNatClampNeg) ∧ (Ar hm 170 (78 + j)).toNatClampNeg < cc
    rw [e, nI_clamp (by omega)]
    exact ⟨rfl, hc⟩
  have gR : ∀ c, c < cc → 0 ≤ (imin (nI 999) (Ar hm 170 c + nI 2 * Ar hm 164 c)).toInt ∧ (imin (nI 999) (Ar hm 170 c + nI 2 * Ar hm 164 c)).toInt ≤ 999 := by
    intro c hc
    obtain ⟨⟨-, k, hk, e⟩, -⟩ := rm.1 c hc
    exact mon_G (r1 c (by omega)) hk e
  have eE : ∀ j, j < gc → 0 ≤ (Ar hm 168 j).toInt ∧ (Ar hm 168 j).toInt ≤ 9 := by
    intro j hj
    obtain ⟨-, -, -, k, hk, e⟩ := rm.2 j hj
    exact nI_rgz hk (by decide) e
  have eqG : ∀ c, c < cc → imin (nI 999) (Ar hx 14 c + nI 2 * Ar hx 6 c) = imin (nI 999) (Ar hm 170 c + nI 2 * Ar hm 164 c) := by
    intro c hc
    rw [s.1 c (by omega), ((rm.1 c hc).1).1]
  have eK : ∀ j, j < gc → Ar hx 9 j = Ar hm 166 j ∧ Ar hx 11 j = Ar hm 168 j := fun j hj => ⟨((rm.2 j hj).1).1, ((rm.2 j hj).2.2).1⟩
  obtain ⟨x1, x2, x3, x4⟩ := mon_x (hol := hol) h8 h6 cx (fun j hj => ⟨(s.2.2.2.1 j hj).trans (hH j hj).1, by have := (hH j hj).2; omega⟩) (fun j hj => by rw [(eK j hj).2]; exact eE j hj) (fun c hc => by rw [eqG c hc]; exact gR c hc)
  obtain ⟨m1, m2, m3, m4, m5, m6⟩ := mon_m (hol := hol) h8 h6 cm hH eE gR
  have eD : Fi hx 13 5 = Ar hm 170 94 := s.2.2.2.2.2.1
  have ef5 : Fi (v42 q cc gc hx) 13 5 = Fi (v42_2 q cc gc cc 0 hx) 13 5 := Fi_n (Or.inr (by decide))
  have ef6 : Fi (v42 q cc gc hx) 13 6 = Fi hx 13 6 + nI 1 := by
    show Fi (fset (v42_2 q cc gc cc 0 hx) 13 6 (.int (Fi hx 13 6 + nI 1))) 13 6 = _
    exact Fi_s x1.wt (by decide) rfl (by decide) rfl
  have eag : Ar (v42 q cc gc hx) 14 = Ar (v42_2 q cc gc cc 0 hx) 14 := Ar_f
  have gxe : ∀ k, k < cc → gx (Fi hx 13 5) (Ar hx 9) (Ar hx 11) hol (fun c => imin (nI 999) (Ar hx 14 c + nI 2 * Ar hx 6 c)) gc k = gx (Ar hm 170 94) (Ar hm 166) (Ar hm 168) hol (fun c => imin (nI 999) (Ar hm 170 c + nI 2 * Ar hm 164 c)) gc k := by
    intro k hk
    rw [eD]
    exact gx_cg eK gc k (Nat.le_refl _) (eqG k hk)
  have bits : Fi (v42_2 q cc gc cc 0 hx) 13 5 = Ar (v219 q cc gc hm) 170 94 := by
    refine bit_ext (fun k hk => ?_)
    rw [x4 k hk, m5 k hk, eD]
    by_cases z : k < gc
    · rw [decide_eq_true z, decide_eq_true (hH k z).2, Bool.and_true, dy_cg (G := fun c => imin (nI 999) (Ar hx 14 c + nI 2 * Ar hx 6 c)) (G' := fun c => imin (nI 999) (Ar hm 170 c + nI 2 * Ar hm 164 c)) eK z (eqG (hol k) (hH k z).2)]
    · rw [decide_eq_false z, Bool.false_and, Bool.false_and]
  refine ⟨⟨fun k hk => ?_, fun a b h1 h2 h3 => ?_, fun a b h1 h2 => ?_, fun j hj => ?_, fun j hj => ?_, ?_, ?_⟩, fun k hk => ?_, fun a b h1 h2 h3 => ?_, fun a b h1 h2 => ?_, fun j hj => ?_, fun k h1 h2 => ?_⟩
  · rw [eag, x3 k hk, m3 k hk]
    by_cases z : k < cc
    · rw [if_pos z, if_pos z]
      exact gxe k z
    · rw [if_neg z, if_neg z]
      exact s.1 k hk
  · rw [m4 _ (by omega) (by omega)]
    exact s.2.1 a b h1 h2 h3
  · rw [m4 _ (by omega) (by omega)]
    exact s.2.2.1 a b h1 h2
  · rw [m4 _ (by omega) (by omega)]
    exact s.2.2.2.1 j hj
  · rw [m4 _ (by omega) (by omega)]
    exact s.2.2.2.2.1 j hj
  · rw [ef5]
    exact bits
  · rw [ef6, m6, s.2.2.2.2.2.2]
  · rw [m3 k hk]
    by_cases z : k < cc
    · rw [if_pos z]
      exact gx_i gR eE gc k (Nat.le_refl _) z
    · rw [if_neg z]
      exact r1 k hk
  · rw [m4 _ (by omega) (by omega)]
    exact r2 a b h1 h2 h3
  · rw [m4 _ (by omega) (by omega)]
    exact r3 a b h1 h2
  · rw [m4 _ (by omega) (by omega)]
    exact r4 j hj
  · rw [m5 k h2, r5 k h1 h2, decide_eq_false (by omega)]
    rfl
/-- an envoy is heard -/
theorem env_rel {a b : Nat} {y : Int32} (h6 : cc ≤ 6) (h8 : gc ≤ 8) (s : RS cc gc (Ar hx 14) (Ar hx 15) (Ar hx 16) (Ar hx 17) (Ar hx 18) (Fi hx 13 5) (Fi hx 13 6) (Ar hm 170)) (ri : RI cc gc (Ar hm 170)) (ha : a < cc) (hb : b < cc) (hab : a ≠ b) : RS cc gc (Ar hx 14) (upd (Ar hx 15) (a * 6 + b) (imax (nI 0) (imin (nI 20) (Ar hx 15 (a * 6 + b) + y)))) (Ar hx 16) (Ar hx 17) (Ar hx 18) (Fi hx 13 5) (Fi hx 13 6) (upd (Ar hm 170) (6 + 6 * a + b) (imax (nI 0) (imin (nI 20) (Ar hm 170 (6 + 6 * a + b) + y)))) ∧ RI cc gc (upd (Ar hm 170) (6 + 6 * a + b) (imax (nI 0) (imin (nI 20) (Ar hm 170 (6 + 6 * a + b) + y)))) := by
  obtain ⟨r1, r2, r3, r4, r5⟩ := ri
  refine ⟨⟨fun k hk => ?_, fun a' b' h1 h2 h3 => ?_, fun a' b' h1 h2 => ?_, fun j hj => ?_, fun j hj => ?_, ?_, ?_⟩, fun k hk => ?_, fun a' b' h1 h2 h3 => ?_, fun a' b' h1 h2 => ?_, fun j hj => ?_, fun k h1 h2 => ?_⟩
  · rw [up_n (by omega)]
    exact s.1 k hk
  · by_cases z : a' * 6 + b' = a * 6 + b
    · rw [up_e z, up_e (by omega), s.2.1 a b ha hb hab]
    · rw [up_n z, up_n (by omega)]
      exact s.2.1 a' b' h1 h2 h3
  · rw [up_n (by omega)]
    exact s.2.2.1 a' b' h1 h2
  · rw [up_n (by omega)]
    exact s.2.2.2.1 j hj
  · rw [up_n (by omega)]
    exact s.2.2.2.2.1 j hj
  · rw [up_n (by omega)]
    exact s.2.2.2.2.2.1
  · rw [up_n (by omega)]
    exact s.2.2.2.2.2.2
  · rw [up_n (by omega)]
    exact r1 k hk
  · by_cases z : 6 + 6 * a' + b' = 6 + 6 * a + b
    · rw [up_e z]
      exact clamp_i (k := 20) (by decide)
    · rw [up_n z]
      exact r2 a' b' h1 h2 h3
  · rw [up_n (by omega)]
    exact r3 a' b' h1 h2
  · rw [up_n (by omega)]
    exact r4 j hj
  · rw [up_n (by omega)]
    exact r5 k h1 h2
/-- a DUE is forgiven -/
theorem fgv_rel {a b : Nat} (h6 : cc ≤ 6) (h8 : gc ≤ 8) (s : RS cc gc (Ar hx 14) (Ar hx 15) (Ar hx 16) (Ar hx 17) (Ar hx 18) (Fi hx 13 5) (Fi hx 13 6) (Ar hm 170)) (ri : RI cc gc (Ar hm 170)) (ha : a < cc) (hb : b < cc) : RS cc gc (Ar hx 14) (Ar hx 15) (upd (Ar hx 16) (a * 6 + b) (nI 0)) (Ar hx 17) (Ar hx 18) (Fi hx 13 5) (Fi hx 13 6) (upd (Ar hm 170) (42 + 6 * a + b) (nI 0)) ∧ RI cc gc (upd (Ar hm 170) (42 + 6 * a + b) (nI 0)) := by
  obtain ⟨r1, r2, r3, r4, r5⟩ := ri
  refine ⟨⟨fun k hk => ?_, fun a' b' h1 h2 h3 => ?_, fun a' b' h1 h2 => ?_, fun j hj => ?_, fun j hj => ?_, ?_, ?_⟩, fun k hk => ?_, fun a' b' h1 h2 h3 => ?_, fun a' b' h1 h2 => ?_, fun j hj => ?_, fun k h1 h2 => ?_⟩
  · rw [up_n (by omega)]
    exact s.1 k hk
  · rw [up_n (by omega)]
    exact s.2.1 a' b' h1 h2 h3
  · by_cases z : a' * 6 + b' = a * 6 + b
    · rw [up_e z, up_e (by omega)]
    · rw [up_n z, up_n (by omega)]
      exact s.2.2.1 a' b' h1 h2
  · rw [up_n (by omega)]
    exact s.2.2.2.1 j hj
  · rw [up_n (by omega)]
    exact s.2.2.2.2.1 j hj
  · rw [up_n (by omega)]
    exact s.2.2.2.2.2.1
  · rw [up_n (by omega)]
    exact s.2.2.2.2.2.2
  · rw [up_n (by omega)]
    exact r1 k hk
  · rw [up_n (by omega)]
    exact r2 a' b' h1 h2 h3
  · by_cases z : 42 + 6 * a' + b' = 42 + 6 * a + b
    · rw [up_e z]
      exact ⟨by decide, fun _ => rfl⟩
    · rw [up_n z]
      exact r3 a' b' h1 h2
  · rw [up_n (by omega)]
    exact r4 j hj
  · rw [up_n (by omega)]
    exact r5 k h1 h2
end ACT
end MG95zzyex2
section MG95zzyex3
/-! drawn numbers; what keeps the HOLDERS small numbers -/
section NAK
variable {q : QT} {cc gc g c : Nat} {h h' : pm_H} {x : Int32} {m : Nat}
def dN (x : Int32) : Nat := x.toNatClampNeg
theorem dN_irm (hm : m < 10000) (h0 : 0 < m) : ∃ k, k < m ∧ irm (ushr x (nI 16)) (nI m) = nI k := by
  have h1 := ag_ushr_ok ai_top (0, 16, 16) (0, 0, 65535) x (nI 16) (by decide) (ai_top_ok x).2.1 (ai_top_ok x).2.2 (by decide) (by decide)
  have h1 : av_ok (.int (ushr x (nI 16))) (0, 0, 65535) := h1
  generalize ushr x (nI 16) = u at h1 ⊢
  have em := nI_toInt (n := m) (by omega)
  have h2 := ag_rem_ok (0, 0, 65535) (0, (m : Int), (m : Int)) (0, 0, (m : Int) - 1) u (nI m) (by unfold ag_rem; exact if_pos ⟨by show (0 : Int) < (m : Int); omega, by decide⟩) h1.2.1 h1.2.2 (Int.le_of_eq em.symm) (Int.le_of_eq em)
  have h2 : av_ok (.int (irm u (nI m))) (0, 0, (m : Int) - 1) := h2
  have h3 : (0 : Int) ≤ (irm u (nI m)).toInt := h2.2.1
  have h4 : (irm u (nI m)).toInt ≤ (m : Int) - 1 := h2.2.2
  obtain ⟨k, hk, e, hx⟩ := ab_nn h3 (Int.le_refl 0)
  rw [hx] at h4
  exact ⟨k, by omega, e⟩
theorem en_d262 (hm : m < 10000) (h0 : 0 < m) : irm (ushr x (nI 16)) (nI m) = nI (dN (irm (ushr x (nI 16)) (nI m))) ∧ dN (irm (ushr x (nI 16)) (nI m)) < m := by
  obtain ⟨k, hk, e⟩ := dN_irm (x := x) hm h0
  have z : dN (nI k) = k := nI_clamp (by omega)
  rw [e, z]
  exact ⟨rfl, hk⟩
theorem en_d156 (hm : m < 10000) : cond (decide (m ≤ 0)) (nI 0) (irm (ushr x (nI 16)) (nI m)) = nI (dN (cond (decide (m ≤ 0)) (nI 0) (irm (ushr x (nI 16)) (nI m)))) ∧ dN (cond (decide (m ≤ 0)) (nI 0) (irm (ushr x (nI 16)) (nI m))) ≤ m - 1 := by
  cases z : decide (m ≤ 0) with
  | true =>
    have z0 : dN (nI 0) = 0 := nI_clamp (by omega)
    show nI 0 = nI (dN (nI 0)) ∧ dN (nI 0) ≤ m - 1
    rw [z0]
    exact ⟨rfl, Nat.zero_le _⟩
  | false =>
    have z := of_decide_eq_false z
    have h1 := en_d262 (x := x) hm (by omega)
    have h2 := h1.2
    show irm (ushr x (nI 16)) (nI m) = nI (dN (irm (ushr x (nI 16)) (nI m))) ∧ dN (irm (ushr x (nI 16)) (nI m)) ≤ m - 1
    exact ⟨h1.1, by omega⟩
def NAf (f : Nat → Int32) (l m b : Nat) : Prop := ∀ j, l ≤ j → j < m → f j = nI (f j).toNatClampNeg ∧ (f j).toNatClampNeg < b
theorem NAf_up {f : Nat → Int32} {l m b k : Nat} {v : Int32} (hv : (∃ z, z < b ∧ v = nI z) ∨ k < l ∨ m ≤ k) (hb : b ≤ 1000) (z : NAf f l m b) : NAf (upd f k v) l m b := by
  intro j h1 h2
  by_cases y : j = k
  · rw [up_e y]
    rcases hv with ⟨w, hw, rfl⟩ | hv | hv
    · rw [nI_clamp (by omega)]
      exact ⟨rfl, hw⟩
    · omega
    · omega
  · rw [up_n y]
    exact z j h1 h2
theorem NA_as {a n l m b : Nat} {f : Nat → Int32} (z : NAf f l m b) : NA (aset h a n f) a l m b := by
  show NAf (Ar (aset h a n f) a) l m b
  rw [Ar_s]
  exact z
theorem cp73_na (hw : HC q cc gc h) (z : NA h 17 0 8 6) : NA (cp73 h 19 13) 23 0 8 6 := by
  intro j h1 h2
  rw [show Ar (cp73 h 19 13) 23 j = Ar h 17 j from cp73_a (s := 19) (t := 13) (i := 4) (m := 8) (Or.inr (Or.inr (Or.inr (Or.inl ⟨rfl, rfl⟩)))) h2]
  exact z j h1 h2
theorem v145_na (hw : HC q cc gc h) (hc : c < 6) (z : NA h 23 0 8 6) : NA (v145 q cc gc h g c).2 23 0 8 6 := by
  unfold v145
  cases decide (¬ ((Ar h 23) g).toNatClampNeg = c) with
  | false => exact z
  | true =>
    have e := (v39t_fr (g := g) (c := c) hw).2.1 23 rfl
    show NAf (Ar (v40t q cc gc ((v39t q cc gc h g c).2) g c ((v39t q cc gc h g c).1)) 23) 0 8 6
    rw [v40t_ar.2.2.1, Ar_e e]
    exact NAf_up (Or.inl ⟨c, hc, rfl⟩) (by decide) z
theorem v217_na (hw : HC q cc gc h) (z : NA h 170 78 86 6) : NA (v217 q cc gc h g c).2 170 78 86 6 := by
  by_cases hg : g < gc
  · by_cases hc : c < cc
    · by_cases hn : ((Ar h 170 (78 + g)).toNatClampNeg) ≠ c
      · obtain ⟨h2, -, e⟩ := v217_is hg hc hn
        have h6 := hw.cb
        have h8 := hw.gb
        rw [e]
        refine NA_as (fun j h1 h2 => ?_)
        obtain ⟨i, rfl⟩ : ∃ i, j = 78 + i := ⟨j - 78, by omega⟩
        have hF := (z (78 + g) (by omega) (by omega)).2
        rw [snd_h (by omega) (by omega) (by omega) hF]
        by_cases y : i = g
        · rw [up_e y, nI_clamp (by omega)]
          exact ⟨rfl, by omega⟩
        · rw [up_n y]
          exact z _ h1 h2
      · have e : decide (¬ ((Ar h 170 (78 + g)).toNatClampNeg) = c) = false := decide_eq_false hn
        unfold v217
        rw [decide_eq_true hg, decide_eq_true hc, e]
        exact z
    · unfold v217
      rw [decide_eq_true hg, decide_eq_false hc]
      exact z
  · unfold v217
    rw [decide_eq_false hg]
    exact z
theorem v219_na (hw : HC q cc gc h) (z : NA h 170 78 86 6) : NA (v219 q cc gc h) 170 78 86 6 := by
  have h6 := hw.cb
  have h8 := hw.gb
  have z1 : NA (v219_2 q cc gc cc 0 h) 170 78 86 6 := lp_in (P := fun _ h => NA h 170 78 86 6) cc 0 h z (fun k a _ hk z => by
    show NA (v219_2b q cc gc a k) 170 78 86 6
    unfold v219_2b
    exact NA_as (NAf_up (Or.inr (Or.inl (by omega))) (by decide) z))
  have z2 : NA (v219_39 q cc gc gc 0 (v219_2 q cc gc cc 0 h)) 170 78 86 6 := lp_in (P := fun _ h => NA h 170 78 86 6) gc 0 _ z1 (fun k a _ hk z => by
    show NA (v219_39b q cc gc a k) 170 78 86 6
    have hF := (z (78 + k) (by omega) (by omega)).2
    unfold v219_39b
    cases v218 q cc gc (Ar a 166) (Ar a 170) k with
    | false => exact z
    | true => exact NA_as (NAf_up (Or.inr (Or.inl (by omega))) (by decide) (NAf_up (Or.inr (Or.inr (by omega))) (by decide) z)))
  exact NA_as (NAf_up (Or.inr (Or.inr (by omega))) (by decide) z2)
theorem v217t_na (hw : HC q cc gc h) (z : NA h 171 78 86 6) : NA (v217t q cc gc h g c).2 171 78 86 6 := by
  by_cases hg : g < gc
  · by_cases hc : c < cc
    · by_cases hn : ((Ar h 171 (78 + g)).toNatClampNeg) ≠ c
      · obtain ⟨h2, -, e⟩ := v217t_is hg hc hn
        have h6 := hw.cb
        have h8 := hw.gb
        rw [e]
        refine NA_as (fun j h1 h2 => ?_)
        obtain ⟨i, rfl⟩ : ∃ i, j = 78 + i := ⟨j - 78, by omega⟩
        have hF := (z (78 + g) (by omega) (by omega)).2
        rw [snd_h (by omega) (by omega) (by omega) hF]
        by_cases y : i = g
        · rw [up_e y, nI_clamp (by omega)]
          exact ⟨rfl, by omega⟩
        · rw [up_n y]
          exact z _ h1 h2
      · have e : decide (¬ ((Ar h 171 (78 + g)).toNatClampNeg) = c) = false := decide_eq_false hn
        unfold v217t
        rw [decide_eq_true hg, decide_eq_true hc, e]
        exact z
    · unfold v217t
      rw [decide_eq_true hg, decide_eq_false hc]
      exact z
  · unfold v217t
    rw [decide_eq_false hg]
    exact z
theorem v219t_na (hw : HC q cc gc h) (z : NA h 171 78 86 6) : NA (v219t q cc gc h) 171 78 86 6 := by
  have h6 := hw.cb
  have h8 := hw.gb
  have z1 : NA (v219t_2 q cc gc cc 0 h) 171 78 86 6 := lp_in (P := fun _ h => NA h 171 78 86 6) cc 0 h z (fun k a _ hk z => by
    show NA (v219t_2b q cc gc a k) 171 78 86 6
    unfold v219t_2b
    exact NA_as (NAf_up (Or.inr (Or.inl (by omega))) (by decide) z))
  have z2 : NA (v219t_39 q cc gc gc 0 (v219t_2 q cc gc cc 0 h)) 171 78 86 6 := lp_in (P := fun _ h => NA h 171 78 86 6) gc 0 _ z1 (fun k a _ hk z => by
    show NA (v219t_39b q cc gc a k) 171 78 86 6
    have hF := (z (78 + k) (by omega) (by omega)).2
    unfold v219t_39b
    cases v218 q cc gc (Ar a 166) (Ar a 171) k with
    | false => exact z
    | true => exact NA_as (NAf_up (Or.inr (Or.inl (by omega))) (by decide) (NAf_up (Or.inr (Or.inr (by omega))) (by decide) z)))
  exact NA_as (NAf_up (Or.inr (Or.inr (by omega))) (by decide) z2)
/-- the trial row is the row now -/
theorem v229_is : ∀ j, j < 96 → Ar (v229 q cc gc h) 171 j = Ar h 170 j := by
  have z := lp_in (f := fun i a => v229_2b q cc gc a i) (P := fun i a => Ar a 170 = Ar h 170 ∧ ∀ j, j < i → Ar a 171 j = Ar h 170 j) 96 0 h ⟨rfl, fun j hj => absurd hj (Nat.not_lt_zero j)⟩ (fun k a _ hk z => by
    show Ar (v229_2b q cc gc a k) 170 = Ar h 170 ∧ ∀ j, j < k + 1 → Ar (v229_2b q cc gc a k) 171 j = Ar h 170 j
    unfold v229_2b
    refine ⟨(Ar_n (by decide)).trans z.1, fun j hj => ?_⟩
    rw [Ar_s]
    by_cases y : j = k
    · rw [up_e y, y, z.1]
    · rw [up_n y]
      exact z.2 j (by omega))
  intro j hj
  unfold v229 v229_2
  exact z.2 j (by omega)
theorem v229_na (hw : HC q cc gc h) (z : NA h 170 78 86 6) : NA (v229 q cc gc h) 171 78 86 6 := by
  intro j h1 h2
  rw [v229_is j (by omega)]
  exact z j h1 h2
end NAK
end MG95zzyex3
end MH95zzxkx2
section MH95zzxkx3
/-! runs told exactly, written by ext.py -/
section EH
theorem p2s {α β : Type} {a : α} {b : β} : (a, b).2 = b := Eq.trans (Eq.refl b) rfl
theorem p1s {α β : Type} {a : α} {b : β} : (a, b).1 = a := Eq.trans (Eq.refl a) rfl
theorem lp_s {α : Type} {f : Nat → α → α} {j i : Nat} {a : α} : lp f (j + 1) i a = lp f j (i + 1) (f i a) := rfl
def v124_32b (q : QT) (cc gc : Nat) (h : pm_H) (t1 : Int32) (m2 : Nat) (i : Nat) (x3 : Int32) (x4 : Int32) : Int32 × Int32 × pm_H := cond (decide (¬ (dN (v156 q cc gc (v155 q cc gc x3) 3)) = 0)) (cond (decide (gc ≤ 0)) (v155 q cc gc x3, x4, h) (v155 q cc gc (v155 q cc gc (v155 q cc gc x3)), x4 + (cond (cond ((v145 q cc gc h (dN (v156 q cc gc (v155 q cc gc (v155 q cc gc x3)) gc)) (dN (v156 q cc gc (v155 q cc gc (v155 q cc gc (v155 q cc gc x3))) cc))).1) true false) 1 0), (v145 q cc gc h (dN (v156 q cc gc (v155 q cc gc (v155 q cc gc x3)) gc)) (dN (v156 q cc gc (v155 q cc gc (v155 q cc gc (v155 q cc gc x3))) cc))).2)) (v155 q cc gc x3, x4, v42t q cc gc h)
def v124_32 (q : QT) (cc gc : Nat) (t1 : Int32) (m2 : Nat) (j i : Nat) (a : Int32 × Int32 × pm_H) : Int32 × Int32 × pm_H := lp (fun i a => v124_32b q cc gc a.2.2 t1 m2 i a.1 a.2.1) j i a
theorem v124_32_e {n fr lo sl cc gc : Nat} {q : QT} {h : pm_H} {R : pm_Rs} {t1 : Int32} {m2 : Nat} {i : Nat} {x3 : Int32} {x4 : Int32} {o6 : Option Value} {o7 : Option Value} (hw : HC q cc gc h) (h_m2 : m2 < 10000) (hol : NA h 23 0 8 6) (hi : m2 ≤ i) (hI : i < 1000000) (hh : pm_run PT n fr lo 124 (32, [some (.ref 0), some (.int t1), some (.int (nI m2)), some (.int x3), some (.int x4), some (.int (nI i)), o6, o7], [], h, 198, sl) = some R) : ∃ m, pm_run PT m fr lo 124 (138, [some (.ref 0), some (.int t1), some (.int (nI m2)), some (.int x3), some (.int x4), some (.int (nI i)), o6, o7], [], h, 198, sl) = some R := by
  have hcc := hw.cb
  have hgc := hw.gb
  have hzr := hw.zr
  obtain ⟨n, hh⟩ := rn_i rfl rfl rfl rfl hh
  obtain ⟨n, hh⟩ := rn_i rfl rfl rfl rfl hh
  have hh : pm_run PT n fr lo 124 (35, [some (.ref 0), some (.int t1), some (.int (nI m2)), some (.int x3), some (.int x4), some (.int (nI i)), o6, o7], [.int (nI m2), .int (nI i)], h, 198, sl) = some R := hh
  obtain ⟨n, hh⟩ := en_cn (cc := .ge) (off := 103) (t := 138) (b := decide (m2 ≤ i)) (hI_ge (by omega) (by omega)) rfl rfl hh
  have hh := en_t (show decide (m2 ≤ i) = true from decide_eq_true (by omega)) hh
  have hh : pm_run PT n fr lo 124 (138, [some (.ref 0), some (.int t1), some (.int (nI m2)), some (.int x3), some (.int x4), some (.int (nI i)), o6, o7], [], h, 198, sl) = some R := hh
  exact ⟨n, hh⟩
theorem v124_32_s {n fr lo sl cc gc : Nat} {q : QT} {h : pm_H} {R : pm_Rs} {t1 : Int32} {m2 : Nat} {i : Nat} {x3 : Int32} {x4 : Int32} {o6 : Option Value} {o7 : Option Value} (hw : HC q cc gc h) (h_m2 : m2 < 10000) (hol : NA h 23 0 8 6) (hi : i < m2) (hI : i < 1000000) (hh : pm_run PT n fr lo 124 (32, [some (.ref 0), some (.int t1), some (.int (nI m2)), some (.int x3), some (.int x4), some (.int (nI i)), o6, o7], [], h, 198, sl) = some R) : ∃ m w6 w7, HC q cc gc ((v124_32b q cc gc h t1 m2 i x3 x4).2.2) ∧ frm [12, 19, 20, 21, 22, 23, 24, 142, 144, 145, 147] [(19, 5), (19, 6), (142, 3), (145, 3)] h ((v124_32b q cc gc h t1 m2 i x3 x4).2.2) ∧ NA ((v124_32b q cc gc h t1 m2 i x3 x4).2.2) 23 0 8 6 ∧ pm_run PT m fr lo 124 (32, [some (.ref 0), some (.int t1), some (.int (nI m2)), some (.int ((v124_32b q cc gc h t1 m2 i x3 x4).1)), some (.int ((v124_32b q cc gc h t1 m2 i x3 x4).2.1)), some (.int (nI (i + 1))), w6, w7], [], (v124_32b q cc gc h t1 m2 i x3 x4).2.2, 198, sl) = some R := by
  have hcc := hw.cb
  have hgc := hw.gb
  have hzr := hw.zr
  obtain ⟨n, hh⟩ := rn_i rfl rfl rfl rfl hh
  obtain ⟨n, hh⟩ := rn_i rfl rfl rfl rfl hh
  have hh : pm_run PT n fr lo 124 (35, [some (.ref 0), some (.int t1), some (.int (nI m2)), some (.int x3), some (.int x4), some (.int (nI i)), o6, o7], [.int (nI m2), .int (nI i)], h, 198, sl) = some R := hh
  obtain ⟨n, hh⟩ := en_cn (cc := .ge) (off := 103) (t := 138) (b := decide (m2 ≤ i)) (hI_ge (by omega) (by omega)) rfl rfl hh
  have hh := en_f (show decide (m2 ≤ i) = false from decide_eq_false (by omega)) hh
  have hh : pm_run PT n fr lo 124 (38, [some (.ref 0), some (.int t1), some (.int (nI m2)), some (.int x3), some (.int x4), some (.int (nI i)), o6, o7], [], h, 198, sl) = some R := hh
  obtain ⟨n, hh⟩ := rn_i rfl rfl rfl rfl hh
  have hh : pm_run PT n fr lo 124 (39, [some (.ref 0), some (.int t1), some (.int (nI m2)), some (.int x3), some (.int x4), some (.int (nI i)), o6, o7], [.int x3], h, 198, sl) = some R := hh
  obtain ⟨n, fr1, lo1, r1, hh1, hh⟩ := rn_call (w := 2) (t := 155) rfl rfl hh
  have er9 := v155_ok (r := x3) hw hh1
  subst er9
  obtain ⟨n, hh⟩ := rn_i rfl rfl rfl rfl hh
  obtain ⟨n, hh⟩ := rn_i rfl rfl rfl rfl hh
  obtain ⟨n, hh⟩ := rn_i rfl rfl rfl rfl hh
  have hh : pm_run PT n fr lo 124 (45, [some (.ref 0), some (.int t1), some (.int (nI m2)), some (.int (v155 q cc gc x3)), some (.int x4), some (.int (nI i)), o6, o7], [.int (nI 3), .int (v155 q cc gc x3)], h, 198, sl) = some R := hh
  obtain ⟨n, fr1, lo1, r1, hh1, hh⟩ := rn_call (w := 2) (t := 156) rfl rfl hh
  have er10 := v156_ok (r := v155 q cc gc x3) (m := 3) hw (by omega) hh1
  subst er10
  have hh : pm_run PT n fr lo 124 (48, [some (.ref 0), some (.int t1), some (.int (nI m2)), some (.int (v155 q cc gc x3)), some (.int x4), some (.int (nI i)), o6, o7], [.int (v156 q cc gc (v155 q cc gc x3) 3)], h, 198, sl) = some R := hh
  have hd11 : v156 q cc gc (v155 q cc gc x3) 3 = nI (dN (v156 q cc gc (v155 q cc gc x3) 3)) ∧ dN (v156 q cc gc (v155 q cc gc x3) 3) ≤ 3 - 1 := en_d156 (by omega)
  rw [hd11.1] at hh
  have hb12 := hd11.2
  have hh : pm_run PT n fr lo 124 (48, [some (.ref 0), some (.int t1), some (.int (nI m2)), some (.int (v155 q cc gc x3)), some (.int x4), some (.int (nI i)), o6, o7], [.int (nI (dN (v156 q cc gc (v155 q cc gc x3) 3)))], h, 198, sl) = some R := hh
  obtain ⟨n, hh⟩ := en_zn (cc := .ne) (off := 17) (t := 65) (b := decide (¬ (dN (v156 q cc gc (v155 q cc gc x3) 3)) = 0)) (hI_ne (b := 0) (by omega) (by omega)) rfl rfl hh
  cases z13 : decide (¬ (dN (v156 q cc gc (v155 q cc gc x3) 3)) = 0) with
  | true =>
    have hh := en_t z13 hh
    have hh : pm_run PT n fr lo 124 (65, [some (.ref 0), some (.int t1), some (.int (nI m2)), some (.int (v155 q cc gc x3)), some (.int x4), some (.int (nI i)), o6, o7], [], h, 198, sl) = some R := hh
    have y14 := of_decide_eq_true z13
    obtain ⟨n, hh⟩ := rn_i rfl rfl rfl rfl hh
    have hh : pm_run PT n fr lo 124 (66, [some (.ref 0), some (.int t1), some (.int (nI m2)), some (.int (v155 q cc gc x3)), some (.int x4), some (.int (nI i)), o6, o7], [.ref 0], h, 198, sl) = some R := hh
    obtain ⟨n, hh⟩ := rn_gr hw.wt rfl rfl (by decide) rfl (by decide) (show _ = some (2, ((5 : Nat) : Int), 1) from rfl) rfl hh
    have hh : pm_run PT n fr lo 124 (69, [some (.ref 0), some (.int t1), some (.int (nI m2)), some (.int (v155 q cc gc x3)), some (.int x4), some (.int (nI i)), o6, o7], [.ref 5], h, 198, sl) = some R := hh
    obtain ⟨n, hh⟩ := rn_gi (x := nI gc) hw.wt rfl rfl (by decide) rfl (by decide) rfl hw.x1 hh
    have hh : pm_run PT n fr lo 124 (72, [some (.ref 0), some (.int t1), some (.int (nI m2)), some (.int (v155 q cc gc x3)), some (.int x4), some (.int (nI i)), o6, o7], [.int (nI gc)], h, 198, sl) = some R := hh
    obtain ⟨n, hh⟩ := en_zn (cc := .le) (off := 60) (t := 132) (b := decide (gc ≤ 0)) (hI_le (b := 0) (by omega) (by omega)) rfl rfl hh
    cases z15 : decide (gc ≤ 0) with
    | true =>
      have hh := en_t z15 hh
      have hh : pm_run PT n fr lo 124 (132, [some (.ref 0), some (.int t1), some (.int (nI m2)), some (.int (v155 q cc gc x3)), some (.int x4), some (.int (nI i)), o6, o7], [], h, 198, sl) = some R := hh
      have y16 := of_decide_eq_true z15
      have hh : pm_run PT n fr lo 124 (132, [some (.ref 0), some (.int t1), some (.int (nI m2)), some (.int (v155 q cc gc x3)), some (.int x4), some (.int (nI i)), o6, o7], [], h, 198, sl) = some R := hh
      obtain ⟨n, hh⟩ := en_inc (x := i) (c := 1) (j := 5) rfl rfl (by decide) hh
      have hh : pm_run PT n fr lo 124 (135, [some (.ref 0), some (.int t1), some (.int (nI m2)), some (.int (v155 q cc gc x3)), some (.int x4), some (.int (nI (i + 1))), o6, o7], [], h, 198, sl) = some R := hh
      obtain ⟨n, hh⟩ := rn_i rfl rfl rfl rfl hh
      have ed : v124_32b q cc gc h t1 m2 i x3 x4 = (v155 q cc gc x3, x4, h) := (ct z13).trans ((ct z15).trans rfl)
      rw [ed]
      rw [p2s, p2s, p1s, p1s]
      exact ⟨n, o6, o7, hw, fr_0, hol, hh⟩
    | false =>
      have hh := en_f z15 hh
      have hh : pm_run PT n fr lo 124 (75, [some (.ref 0), some (.int t1), some (.int (nI m2)), some (.int (v155 q cc gc x3)), some (.int x4), some (.int (nI i)), o6, o7], [], h, 198, sl) = some R := hh
      have y17 := of_decide_eq_false z15
      obtain ⟨n, hh⟩ := rn_i rfl rfl rfl rfl hh
      have hh : pm_run PT n fr lo 124 (76, [some (.ref 0), some (.int t1), some (.int (nI m2)), some (.int (v155 q cc gc x3)), some (.int x4), some (.int (nI i)), o6, o7], [.int (v155 q cc gc x3)], h, 198, sl) = some R := hh
      obtain ⟨n, fr1, lo1, r1, hh1, hh⟩ := rn_call (w := 2) (t := 155) rfl rfl hh
      have er18 := v155_ok (r := (v155 q cc gc x3)) hw hh1
      subst er18
      obtain ⟨n, hh⟩ := rn_i rfl rfl rfl rfl hh
      obtain ⟨n, hh⟩ := rn_i rfl rfl rfl rfl hh
      obtain ⟨n, hh⟩ := rn_i rfl rfl rfl rfl hh
      have hh : pm_run PT n fr lo 124 (82, [some (.ref 0), some (.int t1), some (.int (nI m2)), some (.int (v155 q cc gc (v155 q cc gc x3))), some (.int x4), some (.int (nI i)), o6, o7], [.ref 0, .int (v155 q cc gc (v155 q cc gc x3))], h, 198, sl) = some R := hh
      obtain ⟨n, hh⟩ := rn_gr hw.wt rfl rfl (by decide) rfl (by decide) (show _ = some (2, ((5 : Nat) : Int), 1) from rfl) rfl hh
      have hh : pm_run PT n fr lo 124 (85, [some (.ref 0), some (.int t1), some (.int (nI m2)), some (.int (v155 q cc gc (v155 q cc gc x3))), some (.int x4), some (.int (nI i)), o6, o7], [.ref 5, .int (v155 q cc gc (v155 q cc gc x3))], h, 198, sl) = some R := hh
      obtain ⟨n, hh⟩ := rn_gi (x := nI gc) hw.wt rfl rfl (by decide) rfl (by decide) rfl hw.x1 hh
      have hh : pm_run PT n fr lo 124 (88, [some (.ref 0), some (.int t1), some (.int (nI m2)), some (.int (v155 q cc gc (v155 q cc gc x3))), some (.int x4), some (.int (nI i)), o6, o7], [.int (nI gc), .int (v155 q cc gc (v155 q cc gc x3))], h, 198, sl) = some R := hh
      obtain ⟨n, fr1, lo1, r1, hh1, hh⟩ := rn_call (w := 2) (t := 156) rfl rfl hh
      have er19 := v156_ok (r := v155 q cc gc (v155 q cc gc x3)) (m := gc) hw (by omega) hh1
      subst er19
      have hh : pm_run PT n fr lo 124 (91, [some (.ref 0), some (.int t1), some (.int (nI m2)), some (.int (v155 q cc gc (v155 q cc gc x3))), some (.int x4), some (.int (nI i)), o6, o7], [.int (v156 q cc gc (v155 q cc gc (v155 q cc gc x3)) gc)], h, 198, sl) = some R := hh
      have hd20 : v156 q cc gc (v155 q cc gc (v155 q cc gc x3)) gc = nI (dN (v156 q cc gc (v155 q cc gc (v155 q cc gc x3)) gc)) ∧ dN (v156 q cc gc (v155 q cc gc (v155 q cc gc x3)) gc) ≤ gc - 1 := en_d156 (by omega)
      rw [hd20.1] at hh
      have hb21 := hd20.2
      obtain ⟨n, hh⟩ := rn_i rfl rfl rfl rfl hh
      obtain ⟨n, hh⟩ := rn_i rfl rfl rfl rfl hh
      have hh : pm_run PT n fr lo 124 (94, [some (.ref 0), some (.int t1), some (.int (nI m2)), some (.int (v155 q cc gc (v155 q cc gc x3))), some (.int x4), some (.int (nI i)), some (.int (nI (dN (v156 q cc gc (v155 q cc gc (v155 q cc gc x3)) gc)))), o7], [.int (v155 q cc gc (v155 q cc gc x3))], h, 198, sl) = some R := hh
      obtain ⟨n, fr1, lo1, r1, hh1, hh⟩ := rn_call (w := 2) (t := 155) rfl rfl hh
      have er22 := v155_ok (r := (v155 q cc gc (v155 q cc gc x3))) hw hh1
      subst er22
      obtain ⟨n, hh⟩ := rn_i rfl rfl rfl rfl hh
      obtain ⟨n, hh⟩ := rn_i rfl rfl rfl rfl hh
      obtain ⟨n, hh⟩ := rn_i rfl rfl rfl rfl hh
      have hh : pm_run PT n fr lo 124 (100, [some (.ref 0), some (.int t1), some (.int (nI m2)), some (.int (v155 q cc gc (v155 q cc gc (v155 q cc gc x3)))), some (.int x4), some (.int (nI i)), some (.int (nI (dN (v156 q cc gc (v155 q cc gc (v155 q cc gc x3)) gc)))), o7], [.ref 0, .int (v155 q cc gc (v155 q cc gc (v155 q cc gc x3)))], h, 198, sl) = some R := hh
      obtain ⟨n, hh⟩ := rn_gr hw.wt rfl rfl (by decide) rfl (by decide) (show _ = some (2, ((5 : Nat) : Int), 1) from rfl) rfl hh
      have hh : pm_run PT n fr lo 124 (103, [some (.ref 0), some (.int t1), some (.int (nI m2)), some (.int (v155 q cc gc (v155 q cc gc (v155 q cc gc x3)))), some (.int x4), some (.int (nI i)), some (.int (nI (dN (v156 q cc gc (v155 q cc gc (v155 q cc gc x3)) gc)))), o7], [.ref 5, .int (v155 q cc gc (v155 q cc gc (v155 q cc gc x3)))], h, 198, sl) = some R := hh
      obtain ⟨n, hh⟩ := rn_gi (x := nI cc) hw.wt rfl rfl (by decide) rfl (by decide) rfl hw.x0 hh
      have hh : pm_run PT n fr lo 124 (106, [some (.ref 0), some (.int t1), some (.int (nI m2)), some (.int (v155 q cc gc (v155 q cc gc (v155 q cc gc x3)))), some (.int x4), some (.int (nI i)), some (.int (nI (dN (v156 q cc gc (v155 q cc gc (v155 q cc gc x3)) gc)))), o7], [.int (nI cc), .int (v155 q cc gc (v155 q cc gc (v155 q cc gc x3)))], h, 198, sl) = some R := hh
      obtain ⟨n, fr1, lo1, r1, hh1, hh⟩ := rn_call (w := 2) (t := 156) rfl rfl hh
      have er23 := v156_ok (r := v155 q cc gc (v155 q cc gc (v155 q cc gc x3))) (m := cc) hw (by omega) hh1
      subst er23
      have hh : pm_run PT n fr lo 124 (109, [some (.ref 0), some (.int t1), some (.int (nI m2)), some (.int (v155 q cc gc (v155 q cc gc (v155 q cc gc x3)))), some (.int x4), some (.int (nI i)), some (.int (nI (dN (v156 q cc gc (v155 q cc gc (v155 q cc gc x3)) gc)))), o7], [.int (v156 q cc gc (v155 q cc gc (v155 q cc gc (v155 q cc gc x3))) cc)], h, 198, sl) = some R := hh
      have hd24 : v156 q cc gc (v155 q cc gc (v155 q cc gc (v155 q cc gc x3))) cc = nI (dN (v156 q cc gc (v155 q cc gc (v155 q cc gc (v155 q cc gc x3))) cc)) ∧ dN (v156 q cc gc (v155 q cc gc (v155 q cc gc (v155 q cc gc x3))) cc) ≤ cc - 1 := en_d156 (by omega)
      rw [hd24.1] at hh
      have hb25 := hd24.2
      obtain ⟨n, hh⟩ := rn_i rfl rfl rfl rfl hh
      obtain ⟨n, hh⟩ := rn_i rfl rfl rfl rfl hh
      obtain ⟨n, hh⟩ := rn_i rfl rfl rfl rfl hh
      obtain ⟨n, hh⟩ := rn_i rfl rfl rfl rfl hh
      obtain ⟨n, hh⟩ := rn_i rfl rfl rfl rfl hh
      have hh : pm_run PT n fr lo 124 (118, [some (.ref 0), some (.int t1), some (.int (nI m2)), some (.int (v155 q cc gc (v155 q cc gc (v155 q cc gc x3)))), some (.int x4), some (.int (nI i)), some (.int (nI (dN (v156 q cc gc (v155 q cc gc (v155 q cc gc x3)) gc)))), some (.int (nI (dN (v156 q cc gc (v155 q cc gc (v155 q cc gc (v155 q cc gc x3))) cc))))], [.int (nI (dN (v156 q cc gc (v155 q cc gc (v155 q cc gc (v155 q cc gc x3))) cc))), .int (nI (dN (v156 q cc gc (v155 q cc gc (v155 q cc gc x3)) gc))), .ref 0, .int x4], h, 198, sl) = some R := hh
      obtain ⟨n, fr1, lo1, r1, hh1, hh⟩ := rn_call (w := 0) (t := 145) rfl rfl hh
      obtain ⟨er26, hc27, hf28⟩ := v145_ok (g := (dN (v156 q cc gc (v155 q cc gc (v155 q cc gc x3)) gc))) (c := (dN (v156 q cc gc (v155 q cc gc (v155 q cc gc (v155 q cc gc x3))) cc))) hw (by omega) (by omega) hol hh1
      subst er26
      have hh : pm_run PT n fr lo 124 (121, [some (.ref 0), some (.int t1), some (.int (nI m2)), some (.int (v155 q cc gc (v155 q cc gc (v155 q cc gc x3)))), some (.int x4), some (.int (nI i)), some (.int (nI (dN (v156 q cc gc (v155 q cc gc (v155 q cc gc x3)) gc)))), some (.int (nI (dN (v156 q cc gc (v155 q cc gc (v155 q cc gc (v155 q cc gc x3))) cc))))], [.int (cond ((v145 q cc gc h (dN (v156 q cc gc (v155 q cc gc (v155 q cc gc x3)) gc)) (dN (v156 q cc gc (v155 q cc gc (v155 q cc gc (v155 q cc gc x3))) cc))).1) 1 0), .int x4], (v145 q cc gc h (dN (v156 q cc gc (v155 q cc gc (v155 q cc gc x3)) gc)) (dN (v156 q cc gc (v155 q cc gc (v155 q cc gc (v155 q cc gc x3))) cc))).2, 198, sl) = some R := hh
      obtain ⟨n, hh⟩ := en_zn (cc := .eq) (off := 7) (t := 128) (b := !((v145 q cc gc h (dN (v156 q cc gc (v155 q cc gc (v155 q cc gc x3)) gc)) (dN (v156 q cc gc (v155 q cc gc (v155 q cc gc (v155 q cc gc x3))) cc))).1)) eb_eq rfl rfl hh
      have hj30 : ∃ mJ, pm_run PT mJ fr lo 124 (cond ((v145 q cc gc h (dN (v156 q cc gc (v155 q cc gc (v155 q cc gc x3)) gc)) (dN (v156 q cc gc (v155 q cc gc (v155 q cc gc (v155 q cc gc x3))) cc))).1) (129, [some (.ref 0), some (.int t1), some (.int (nI m2)), some (.int (v155 q cc gc (v155 q cc gc (v155 q cc gc x3)))), some (.int x4), some (.int (nI i)), some (.int (nI (dN (v156 q cc gc (v155 q cc gc (v155 q cc gc x3)) gc)))), some (.int (nI (dN (v156 q cc gc (v155 q cc gc (v155 q cc gc (v155 q cc gc x3))) cc))))], [.int (nI 1), .int x4], (v145 q cc gc h (dN (v156 q cc gc (v155 q cc gc (v155 q cc gc x3)) gc)) (dN (v156 q cc gc (v155 q cc gc (v155 q cc gc (v155 q cc gc x3))) cc))).2, 198, sl) (129, [some (.ref 0), some (.int t1), some (.int (nI m2)), some (.int (v155 q cc gc (v155 q cc gc (v155 q cc gc x3)))), some (.int x4), some (.int (nI i)), some (.int (nI (dN (v156 q cc gc (v155 q cc gc (v155 q cc gc x3)) gc)))), some (.int (nI (dN (v156 q cc gc (v155 q cc gc (v155 q cc gc (v155 q cc gc x3))) cc))))], [.int (nI 0), .int x4], (v145 q cc gc h (dN (v156 q cc gc (v155 q cc gc (v155 q cc gc x3)) gc)) (dN (v156 q cc gc (v155 q cc gc (v155 q cc gc (v155 q cc gc x3))) cc))).2, 198, sl)) = some R := en_J (fun z29 => by
          have hh := en_nt z29 hh
          have hh : pm_run PT n fr lo 124 (124, [some (.ref 0), some (.int t1), some (.int (nI m2)), some (.int (v155 q cc gc (v155 q cc gc (v155 q cc gc x3)))), some (.int x4), some (.int (nI i)), some (.int (nI (dN (v156 q cc gc (v155 q cc gc (v155 q cc gc x3)) gc)))), some (.int (nI (dN (v156 q cc gc (v155 q cc gc (v155 q cc gc (v155 q cc gc x3))) cc))))], [.int x4], (v145 q cc gc h (dN (v156 q cc gc (v155 q cc gc (v155 q cc gc x3)) gc)) (dN (v156 q cc gc (v155 q cc gc (v155 q cc gc (v155 q cc gc x3))) cc))).2, 198, sl) = some R := hh
          obtain ⟨n, hh⟩ := rn_i rfl rfl rfl rfl hh
          obtain ⟨n, hh⟩ := rn_i rfl rfl rfl rfl hh
          exact ⟨n, hh⟩) (fun z29 => by
          have hh := en_nf z29 hh
          have hh : pm_run PT n fr lo 124 (128, [some (.ref 0), some (.int t1), some (.int (nI m2)), some (.int (v155 q cc gc (v155 q cc gc (v155 q cc gc x3)))), some (.int x4), some (.int (nI i)), some (.int (nI (dN (v156 q cc gc (v155 q cc gc (v155 q cc gc x3)) gc)))), some (.int (nI (dN (v156 q cc gc (v155 q cc gc (v155 q cc gc (v155 q cc gc x3))) cc))))], [.int x4], (v145 q cc gc h (dN (v156 q cc gc (v155 q cc gc (v155 q cc gc x3)) gc)) (dN (v156 q cc gc (v155 q cc gc (v155 q cc gc (v155 q cc gc x3))) cc))).2, 198, sl) = some R := hh
          obtain ⟨n, hh⟩ := rn_i rfl rfl rfl rfl hh
          exact ⟨n, hh⟩)
      obtain ⟨n, hh⟩ := hj30
      rw [show (cond ((v145 q cc gc h (dN (v156 q cc gc (v155 q cc gc (v155 q cc gc x3)) gc)) (dN (v156 q cc gc (v155 q cc gc (v155 q cc gc (v155 q cc gc x3))) cc))).1) (129, [some (.ref 0), some (.int t1), some (.int (nI m2)), some (.int (v155 q cc gc (v155 q cc gc (v155 q cc gc x3)))), some (.int x4), some (.int (nI i)), some (.int (nI (dN (v156 q cc gc (v155 q cc gc (v155 q cc gc x3)) gc)))), some (.int (nI (dN (v156 q cc gc (v155 q cc gc (v155 q cc gc (v155 q cc gc x3))) cc))))], [.int (nI 1), .int x4], (v145 q cc gc h (dN (v156 q cc gc (v155 q cc gc (v155 q cc gc x3)) gc)) (dN (v156 q cc gc (v155 q cc gc (v155 q cc gc (v155 q cc gc x3))) cc))).2, 198, sl) (129, [some (.ref 0), some (.int t1), some (.int (nI m2)), some (.int (v155 q cc gc (v155 q cc gc (v155 q cc gc x3)))), some (.int x4), some (.int (nI i)), some (.int (nI (dN (v156 q cc gc (v155 q cc gc (v155 q cc gc x3)) gc)))), some (.int (nI (dN (v156 q cc gc (v155 q cc gc (v155 q cc gc (v155 q cc gc x3))) cc))))], [.int (nI 0), .int x4], (v145 q cc gc h (dN (v156 q cc gc (v155 q cc gc (v155 q cc gc x3)) gc)) (dN (v156 q cc gc (v155 q cc gc (v155 q cc gc (v155 q cc gc x3))) cc))).2, 198, sl) : pm_St) = (129, [some (.ref 0), some (.int t1), some (.int (nI m2)), some (.int (v155 q cc gc (v155 q cc gc (v155 q cc gc x3)))), some (.int x4), some (.int (nI i)), some (.int (nI (dN (v156 q cc gc (v155 q cc gc (v155 q cc gc x3)) gc)))), some (.int (nI (dN (v156 q cc gc (v155 q cc gc (v155 q cc gc (v155 q cc gc x3))) cc))))], [.int (cond (cond ((v145 q cc gc h (dN (v156 q cc gc (v155 q cc gc (v155 q cc gc x3)) gc)) (dN (v156 q cc gc (v155 q cc gc (v155 q cc gc (v155 q cc gc x3))) cc))).1) true false) 1 0), .int x4], (v145 q cc gc h (dN (v156 q cc gc (v155 q cc gc (v155 q cc gc x3)) gc)) (dN (v156 q cc gc (v155 q cc gc (v155 q cc gc (v155 q cc gc x3))) cc))).2, 198, sl) from by cases ((v145 q cc gc h (dN (v156 q cc gc (v155 q cc gc (v155 q cc gc x3)) gc)) (dN (v156 q cc gc (v155 q cc gc (v155 q cc gc (v155 q cc gc x3))) cc))).1) <;> rfl] at hh
      obtain ⟨n, hh⟩ := rn_i rfl rfl rfl rfl hh
      obtain ⟨n, hh⟩ := rn_i rfl rfl rfl rfl hh
      have hh : pm_run PT n fr lo 124 (132, [some (.ref 0), some (.int t1), some (.int (nI m2)), some (.int (v155 q cc gc (v155 q cc gc (v155 q cc gc x3)))), some (.int (x4 + (cond (cond ((v145 q cc gc h (dN (v156 q cc gc (v155 q cc gc (v155 q cc gc x3)) gc)) (dN (v156 q cc gc (v155 q cc gc (v155 q cc gc (v155 q cc gc x3))) cc))).1) true false) 1 0))), some (.int (nI i)), some (.int (nI (dN (v156 q cc gc (v155 q cc gc (v155 q cc gc x3)) gc)))), some (.int (nI (dN (v156 q cc gc (v155 q cc gc (v155 q cc gc (v155 q cc gc x3))) cc))))], [], (v145 q cc gc h (dN (v156 q cc gc (v155 q cc gc (v155 q cc gc x3)) gc)) (dN (v156 q cc gc (v155 q cc gc (v155 q cc gc (v155 q cc gc x3))) cc))).2, 198, sl) = some R := hh
      obtain ⟨n, hh⟩ := en_inc (x := i) (c := 1) (j := 5) rfl rfl (by decide) hh
      have hh : pm_run PT n fr lo 124 (135, [some (.ref 0), some (.int t1), some (.int (nI m2)), some (.int (v155 q cc gc (v155 q cc gc (v155 q cc gc x3)))), some (.int (x4 + (cond (cond ((v145 q cc gc h (dN (v156 q cc gc (v155 q cc gc (v155 q cc gc x3)) gc)) (dN (v156 q cc gc (v155 q cc gc (v155 q cc gc (v155 q cc gc x3))) cc))).1) true false) 1 0))), some (.int (nI (i + 1))), some (.int (nI (dN (v156 q cc gc (v155 q cc gc (v155 q cc gc x3)) gc)))), some (.int (nI (dN (v156 q cc gc (v155 q cc gc (v155 q cc gc (v155 q cc gc x3))) cc))))], [], (v145 q cc gc h (dN (v156 q cc gc (v155 q cc gc (v155 q cc gc x3)) gc)) (dN (v156 q cc gc (v155 q cc gc (v155 q cc gc (v155 q cc gc x3))) cc))).2, 198, sl) = some R := hh
      obtain ⟨n, hh⟩ := rn_i rfl rfl rfl rfl hh
      have ed : v124_32b q cc gc h t1 m2 i x3 x4 = (v155 q cc gc (v155 q cc gc (v155 q cc gc x3)), x4 + (cond (cond ((v145 q cc gc h (dN (v156 q cc gc (v155 q cc gc (v155 q cc gc x3)) gc)) (dN (v156 q cc gc (v155 q cc gc (v155 q cc gc (v155 q cc gc x3))) cc))).1) true false) 1 0), (v145 q cc gc h (dN (v156 q cc gc (v155 q cc gc (v155 q cc gc x3)) gc)) (dN (v156 q cc gc (v155 q cc gc (v155 q cc gc (v155 q cc gc x3))) cc))).2) := (ct z13).trans ((cf z15).trans rfl)
      rw [ed]
      rw [p2s, p2s, p1s, p1s]
      exact ⟨n, some (.int (nI (dN (v156 q cc gc (v155 q cc gc (v155 q cc gc x3)) gc)))), some (.int (nI (dN (v156 q cc gc (v155 q cc gc (v155 q cc gc (v155 q cc gc x3))) cc)))), hc27, (fr_g rfl rfl hf28 fr_0), (v145_na hw (by omega) hol), hh⟩
  | false =>
    have hh := en_f z13 hh
    have hh : pm_run PT n fr lo 124 (51, [some (.ref 0), some (.int t1), some (.int (nI m2)), some (.int (v155 q cc gc x3)), some (.int x4), some (.int (nI i)), o6, o7], [], h, 198, sl) = some R := hh
    have y31 := of_decide_eq_false z13
    obtain ⟨n, hh⟩ := rn_i rfl rfl rfl rfl hh
    have hh : pm_run PT n fr lo 124 (52, [some (.ref 0), some (.int t1), some (.int (nI m2)), some (.int (v155 q cc gc x3)), some (.int x4), some (.int (nI i)), o6, o7], [.ref 0], h, 198, sl) = some R := hh
    obtain ⟨n, hh⟩ := rn_gr hw.wt rfl rfl (by decide) rfl (by decide) (show _ = some (2, ((5 : Nat) : Int), 1) from rfl) rfl hh
    obtain ⟨n, hh⟩ := rn_i rfl rfl rfl rfl hh
    have hh : pm_run PT n fr lo 124 (56, [some (.ref 0), some (.int t1), some (.int (nI m2)), some (.int (v155 q cc gc x3)), some (.int x4), some (.int (nI i)), o6, o7], [.ref 0, .ref 5], h, 198, sl) = some R := hh
    obtain ⟨n, hh⟩ := rn_gr hw.wt rfl rfl (by decide) rfl (by decide) (show _ = some (2, ((19 : Nat) : Int), 1) from rfl) rfl hh
    have hh : pm_run PT n fr lo 124 (59, [some (.ref 0), some (.int t1), some (.int (nI m2)), some (.int (v155 q cc gc x3)), some (.int x4), some (.int (nI i)), o6, o7], [.ref 19, .ref 5], h, 198, sl) = some R := hh
    obtain ⟨n, fr1, lo1, r1, hh1, hh⟩ := rn_call (w := 0) (t := 42) rfl rfl hh
    obtain ⟨er32, hc33, hf34⟩ := v42t_ok hw hh1
    subst er32
    obtain ⟨n, hh⟩ := rn_i rfl rfl rfl rfl hh
    have hh : pm_run PT n fr lo 124 (132, [some (.ref 0), some (.int t1), some (.int (nI m2)), some (.int (v155 q cc gc x3)), some (.int x4), some (.int (nI i)), o6, o7], [], v42t q cc gc h, 198, sl) = some R := hh
    obtain ⟨n, hh⟩ := en_inc (x := i) (c := 1) (j := 5) rfl rfl (by decide) hh
    have hh : pm_run PT n fr lo 124 (135, [some (.ref 0), some (.int t1), some (.int (nI m2)), some (.int (v155 q cc gc x3)), some (.int x4), some (.int (nI (i + 1))), o6, o7], [], v42t q cc gc h, 198, sl) = some R := hh
    obtain ⟨n, hh⟩ := rn_i rfl rfl rfl rfl hh
    have ed : v124_32b q cc gc h t1 m2 i x3 x4 = (v155 q cc gc x3, x4, v42t q cc gc h) := (cf z13).trans rfl
    rw [ed]
    rw [p2s, p2s, p1s, p1s]
    exact ⟨n, o6, o7, hc33, (fr_g rfl rfl hf34 fr_0), (NA_e ((Ar_e (hf34.1 23 rfl)).trans rfl) hol), hh⟩
theorem v124_32_ok {fr lo sl cc gc : Nat} {q : QT} {R : pm_Rs} {t1 : Int32} {m2 : Nat} : ∀ {j i : Nat} {x3 : Int32} {x4 : Int32} {o6 : Option Value} {o7 : Option Value} {h : pm_H} {n : Nat}, m2 - i = j → i + j < 1000000 → HC q cc gc h → m2 < 10000 → NA h 23 0 8 6 → pm_run PT n fr lo 124 (32, [some (.ref 0), some (.int t1), some (.int (nI m2)), some (.int x3), some (.int x4), some (.int (nI i)), o6, o7], [], h, 198, sl) = some R → ∃ m wc w6 w7, HC q cc gc ((v124_32 q cc gc t1 m2 j i (x3, x4, h)).2.2) ∧ frm [12, 19, 20, 21, 22, 23, 24, 142, 144, 145, 147] [(19, 5), (19, 6), (142, 3), (145, 3)] h ((v124_32 q cc gc t1 m2 j i (x3, x4, h)).2.2) ∧ NA ((v124_32 q cc gc t1 m2 j i (x3, x4, h)).2.2) 23 0 8 6 ∧ pm_run PT m fr lo 124 (138, [some (.ref 0), some (.int t1), some (.int (nI m2)), some (.int ((v124_32 q cc gc t1 m2 j i (x3, x4, h)).1)), some (.int ((v124_32 q cc gc t1 m2 j i (x3, x4, h)).2.1)), wc, w6, w7], [], (v124_32 q cc gc t1 m2 j i (x3, x4, h)).2.2, 198, sl) = some R := by
  intro j
  induction j with
  | zero =>
    intro i x3 x4 o6 o7 h n e eI hw h_m2 hol hh
    obtain ⟨n, hh⟩ := v124_32_e hw h_m2 hol (by omega) (by omega) hh
    exact ⟨n, _, o6, o7, hw, fr_0, hol, hh⟩
  | succ j ih =>
    intro i x3 x4 o6 o7 h n e eI hw h_m2 hol hh
    obtain ⟨n, w6, w7, hc, hf, hol', hh⟩ := v124_32_s hw h_m2 hol (by omega) (by omega) hh
    have eL : v124_32 q cc gc t1 m2 (j + 1) i (x3, x4, h) = v124_32 q cc gc t1 m2 j (i + 1) (v124_32b q cc gc h t1 m2 i x3 x4) := by
      unfold v124_32
      exact lp_s
    rw [eL]
    generalize v124_32b q cc gc h t1 m2 i x3 x4 = X at *
    obtain ⟨X0, X1, X2⟩ := X
    obtain ⟨n, wc, v6, v7, hc2, hf2, hol'', hh⟩ := ih (by omega) (by omega) hc h_m2 hol' hh
    exact ⟨n, wc, v6, v7, hc2, fr_t hf2 hf, hol'', hh⟩
def v124 (q : QT) (cc gc : Nat) (h : pm_H) (r : Int32) (m : Nat) : Int32 × pm_H := cond (decide (m < 1)) ((Int32.ofInt (-1)), h) (cond (decide (m ≤ 60)) ((v124_32 q cc gc r m m 0 (r, (nI 0), cp73 h 19 13)).2.1, v56 q cc gc ((v124_32 q cc gc r m m 0 (r, (nI 0), cp73 h 19 13)).2.2) ((v270 q cc gc (Fi ((v124_32 q cc gc r m m 0 (r, (nI 0), cp73 h 19 13)).2.2) 19 5)).toInt64) ((v38 q cc gc (Ar ((v124_32 q cc gc r m m 0 (r, (nI 0), cp73 h 19 13)).2.2) 21)).toInt64)) ((Int32.ofInt (-1)), h))
theorem v124_ok {n fr lo sl cc gc : Nat} {q : QT} {h : pm_H} {R : pm_Rs} {r : Int32} {m : Nat} (hw : HC q cc gc h) (h_m : m < 10000) (hol : NA h 17 0 8 6) (hh : pm_run PT n fr lo 124 (0, pm_l0 [.ref 0, .int r, .int (nI m)] 8, [], h, 198, sl) = some R) : R = (some (.int ((v124 q cc gc h r m).1)), (v124 q cc gc h r m).2, 198, sl) ∧ HC q cc gc ((v124 q cc gc h r m).2) ∧ frm [3, 4, 12, 19, 20, 21, 22, 23, 24, 142, 144, 145, 147] [(3, 1), (19, 5), (19, 6), (142, 3), (145, 3)] h ((v124 q cc gc h r m).2) := by
  have hcc := hw.cb
  have hgc := hw.gb
  have hzr := hw.zr
  obtain ⟨n, hh⟩ := rn_i rfl rfl rfl rfl hh
  obtain ⟨n, hh⟩ := rn_i rfl rfl rfl rfl hh
  have hh : pm_run PT n fr lo 124 (2, [some (.ref 0), some (.int r), some (.int (nI m)), none, none, none, none, none], [.int (nI 1), .int (nI m)], h, 198, sl) = some R := hh
  obtain ⟨n, hh⟩ := en_cn (cc := .lt) (off := 9) (t := 11) (b := decide (m < 1)) (hI_lt (by omega) (by omega)) rfl rfl hh
  cases z1 : decide (m < 1) with
  | true =>
    have hh := en_t z1 hh
    have hh : pm_run PT n fr lo 124 (11, [some (.ref 0), some (.int r), some (.int (nI m)), none, none, none, none, none], [], h, 198, sl) = some R := hh
    have y2 := of_decide_eq_true z1
    obtain ⟨n, hh⟩ := rn_i rfl rfl rfl rfl hh
    have hh : pm_run PT n fr lo 124 (12, [some (.ref 0), some (.int r), some (.int (nI m)), none, none, none, none, none], [.int (Int32.ofInt (-1))], h, 198, sl) = some R := hh
    have er3 : R = (some (.int (Int32.ofInt (-1))), h, 198, sl) := (rn_ret rfl (Or.inl rfl) hh).2
    have ed : v124 q cc gc h r m = ((Int32.ofInt (-1)), h) := (ct z1).trans rfl
    refine ⟨?_, ?_, ?_⟩ <;> rw [ed]
    · exact er3
    · exact hw
    · exact fr_0
  | false =>
    have hh := en_f z1 hh
    have hh : pm_run PT n fr lo 124 (5, [some (.ref 0), some (.int r), some (.int (nI m)), none, none, none, none, none], [], h, 198, sl) = some R := hh
    have y4 := of_decide_eq_false z1
    obtain ⟨n, hh⟩ := rn_i rfl rfl rfl rfl hh
    obtain ⟨n, hh⟩ := rn_i rfl rfl rfl rfl hh
    have hh : pm_run PT n fr lo 124 (8, [some (.ref 0), some (.int r), some (.int (nI m)), none, none, none, none, none], [.int (nI 60), .int (nI m)], h, 198, sl) = some R := hh
    obtain ⟨n, hh⟩ := en_cn (cc := .le) (off := 5) (t := 13) (b := decide (m ≤ 60)) (hI_le (by omega) (by omega)) rfl rfl hh
    cases z5 : decide (m ≤ 60) with
    | true =>
      have hh := en_t z5 hh
      have hh : pm_run PT n fr lo 124 (13, [some (.ref 0), some (.int r), some (.int (nI m)), none, none, none, none, none], [], h, 198, sl) = some R := hh
      have y6 := of_decide_eq_true z5
      obtain ⟨n, hh⟩ := rn_i rfl rfl rfl rfl hh
      have hh : pm_run PT n fr lo 124 (14, [some (.ref 0), some (.int r), some (.int (nI m)), none, none, none, none, none], [.ref 0], h, 198, sl) = some R := hh
      obtain ⟨n, hh⟩ := rn_gr hw.wt rfl rfl (by decide) rfl (by decide) (show _ = some (2, ((19 : Nat) : Int), 1) from rfl) rfl hh
      obtain ⟨n, hh⟩ := rn_i rfl rfl rfl rfl hh
      have hh : pm_run PT n fr lo 124 (18, [some (.ref 0), some (.int r), some (.int (nI m)), none, none, none, none, none], [.ref 0, .ref 19], h, 198, sl) = some R := hh
      obtain ⟨n, hh⟩ := rn_gr hw.wt rfl rfl (by decide) rfl (by decide) (show _ = some (2, ((13 : Nat) : Int), 1) from rfl) rfl hh
      have hh : pm_run PT n fr lo 124 (21, [some (.ref 0), some (.int r), some (.int (nI m)), none, none, none, none, none], [.ref 13, .ref 19], h, 198, sl) = some R := hh
      obtain ⟨n, fr1, lo1, r1, hh1, hh⟩ := rn_call (w := 0) (t := 73) rfl rfl hh
      obtain ⟨er7, hc8⟩ := cp73_ok rfl rfl (by omega) hw hh1
      subst er7
      obtain ⟨n, hh⟩ := rn_i rfl rfl rfl rfl hh
      obtain ⟨n, hh⟩ := rn_i rfl rfl rfl rfl hh
      obtain ⟨n, hh⟩ := rn_i rfl rfl rfl rfl hh
      obtain ⟨n, hh⟩ := rn_i rfl rfl rfl rfl hh
      obtain ⟨n, hh⟩ := rn_i rfl rfl rfl rfl hh
      obtain ⟨n, hh⟩ := rn_i rfl rfl rfl rfl hh
      have hh : pm_run PT n fr lo 124 (32, [some (.ref 0), some (.int r), some (.int (nI m)), some (.int r), some (.int (nI 0)), some (.int (nI 0)), none, none], [], cp73 h 19 13, 198, sl) = some R := hh
      obtain ⟨n, u11, u9, u10, hc13, hf14, hn12, hh⟩ := v124_32_ok (t1 := r) (m2 := m)  (i := 0) (x3 := r) (x4 := (nI 0)) (o6 := none) (o7 := none) (j := m) (by omega) (by omega) hc8 (by omega) (cp73_na hw hol) hh
      have hh : pm_run PT n fr lo 124 (138, [some (.ref 0), some (.int r), some (.int (nI m)), some (.int ((v124_32 q cc gc r m m 0 (r, (nI 0), cp73 h 19 13)).1)), some (.int ((v124_32 q cc gc r m m 0 (r, (nI 0), cp73 h 19 13)).2.1)), u11, u9, u10], [], (v124_32 q cc gc r m m 0 (r, (nI 0), cp73 h 19 13)).2.2, 198, sl) = some R := hh
      obtain ⟨n, hh⟩ := rn_i rfl rfl rfl rfl hh
      have hh : pm_run PT n fr lo 124 (139, [some (.ref 0), some (.int r), some (.int (nI m)), some (.int ((v124_32 q cc gc r m m 0 (r, (nI 0), cp73 h 19 13)).1)), some (.int ((v124_32 q cc gc r m m 0 (r, (nI 0), cp73 h 19 13)).2.1)), u11, u9, u10], [.ref 0], (v124_32 q cc gc r m m 0 (r, (nI 0), cp73 h 19 13)).2.2, 198, sl) = some R := hh
      obtain ⟨n, hh⟩ := rn_gr hc13.wt rfl rfl (by decide) rfl (by decide) (show _ = some (2, ((3 : Nat) : Int), 1) from rfl) rfl hh
      obtain ⟨n, hh⟩ := rn_i rfl rfl rfl rfl hh
      have hh : pm_run PT n fr lo 124 (143, [some (.ref 0), some (.int r), some (.int (nI m)), some (.int ((v124_32 q cc gc r m m 0 (r, (nI 0), cp73 h 19 13)).1)), some (.int ((v124_32 q cc gc r m m 0 (r, (nI 0), cp73 h 19 13)).2.1)), u11, u9, u10], [.ref 0, .ref 3], (v124_32 q cc gc r m m 0 (r, (nI 0), cp73 h 19 13)).2.2, 198, sl) = some R := hh
      obtain ⟨n, hh⟩ := rn_gr hc13.wt rfl rfl (by decide) rfl (by decide) (show _ = some (2, ((19 : Nat) : Int), 1) from rfl) rfl hh
      have hh : pm_run PT n fr lo 124 (146, [some (.ref 0), some (.int r), some (.int (nI m)), some (.int ((v124_32 q cc gc r m m 0 (r, (nI 0), cp73 h 19 13)).1)), some (.int ((v124_32 q cc gc r m m 0 (r, (nI 0), cp73 h 19 13)).2.1)), u11, u9, u10], [.ref 19, .ref 3], (v124_32 q cc gc r m m 0 (r, (nI 0), cp73 h 19 13)).2.2, 198, sl) = some R := hh
      obtain ⟨n, hh⟩ := rn_gi (x := Fi ((v124_32 q cc gc r m m 0 (r, (nI 0), cp73 h 19 13)).2.2) 19 5) hc13.wt rfl rfl (by decide) rfl (by decide) rfl rfl hh
      have hh : pm_run PT n fr lo 124 (149, [some (.ref 0), some (.int r), some (.int (nI m)), some (.int ((v124_32 q cc gc r m m 0 (r, (nI 0), cp73 h 19 13)).1)), some (.int ((v124_32 q cc gc r m m 0 (r, (nI 0), cp73 h 19 13)).2.1)), u11, u9, u10], [.int (Fi ((v124_32 q cc gc r m m 0 (r, (nI 0), cp73 h 19 13)).2.2) 19 5), .ref 3], (v124_32 q cc gc r m m 0 (r, (nI 0), cp73 h 19 13)).2.2, 198, sl) = some R := hh
      obtain ⟨n, fr1, lo1, r1, hh1, hh⟩ := rn_call (w := 2) (t := 270) rfl rfl hh
      have er15 := v270_ok (a := (Fi ((v124_32 q cc gc r m m 0 (r, (nI 0), cp73 h 19 13)).2.2) 19 5)) hc13 hh1
      subst er15
      obtain ⟨n, hh⟩ := rn_i rfl rfl rfl rfl hh
      obtain ⟨n, hh⟩ := rn_i rfl rfl rfl rfl hh
      have hh : pm_run PT n fr lo 124 (154, [some (.ref 0), some (.int r), some (.int (nI m)), some (.int ((v124_32 q cc gc r m m 0 (r, (nI 0), cp73 h 19 13)).1)), some (.int ((v124_32 q cc gc r m m 0 (r, (nI 0), cp73 h 19 13)).2.1)), u11, u9, u10], [.ref 0, .long ((v270 q cc gc (Fi ((v124_32 q cc gc r m m 0 (r, (nI 0), cp73 h 19 13)).2.2) 19 5)).toInt64), .ref 3], (v124_32 q cc gc r m m 0 (r, (nI 0), cp73 h 19 13)).2.2, 198, sl) = some R := hh
      obtain ⟨n, hh⟩ := rn_gr hc13.wt rfl rfl (by decide) rfl (by decide) (show _ = some (2, ((5 : Nat) : Int), 1) from rfl) rfl hh
      obtain ⟨n, hh⟩ := rn_i rfl rfl rfl rfl hh
      have hh : pm_run PT n fr lo 124 (158, [some (.ref 0), some (.int r), some (.int (nI m)), some (.int ((v124_32 q cc gc r m m 0 (r, (nI 0), cp73 h 19 13)).1)), some (.int ((v124_32 q cc gc r m m 0 (r, (nI 0), cp73 h 19 13)).2.1)), u11, u9, u10], [.ref 0, .ref 5, .long ((v270 q cc gc (Fi ((v124_32 q cc gc r m m 0 (r, (nI 0), cp73 h 19 13)).2.2) 19 5)).toInt64), .ref 3], (v124_32 q cc gc r m m 0 (r, (nI 0), cp73 h 19 13)).2.2, 198, sl) = some R := hh
      obtain ⟨n, hh⟩ := rn_gr hc13.wt rfl rfl (by decide) rfl (by decide) (show _ = some (2, ((19 : Nat) : Int), 1) from rfl) rfl hh
      have hh : pm_run PT n fr lo 124 (161, [some (.ref 0), some (.int r), some (.int (nI m)), some (.int ((v124_32 q cc gc r m m 0 (r, (nI 0), cp73 h 19 13)).1)), some (.int ((v124_32 q cc gc r m m 0 (r, (nI 0), cp73 h 19 13)).2.1)), u11, u9, u10], [.ref 19, .ref 5, .long ((v270 q cc gc (Fi ((v124_32 q cc gc r m m 0 (r, (nI 0), cp73 h 19 13)).2.2) 19 5)).toInt64), .ref 3], (v124_32 q cc gc r m m 0 (r, (nI 0), cp73 h 19 13)).2.2, 198, sl) = some R := hh
      obtain ⟨n, fr1, lo1, r1, hh1, hh⟩ := rn_call (w := 0) (t := 38) rfl rfl hh
      have er16 := v38t_ok hc13 hh1
      subst er16
      obtain ⟨n, hh⟩ := rn_i rfl rfl rfl rfl hh
      have hh : pm_run PT n fr lo 124 (165, [some (.ref 0), some (.int r), some (.int (nI m)), some (.int ((v124_32 q cc gc r m m 0 (r, (nI 0), cp73 h 19 13)).1)), some (.int ((v124_32 q cc gc r m m 0 (r, (nI 0), cp73 h 19 13)).2.1)), u11, u9, u10], [.long ((v38 q cc gc (Ar ((v124_32 q cc gc r m m 0 (r, (nI 0), cp73 h 19 13)).2.2) 21)).toInt64), .long ((v270 q cc gc (Fi ((v124_32 q cc gc r m m 0 (r, (nI 0), cp73 h 19 13)).2.2) 19 5)).toInt64), .ref 3], (v124_32 q cc gc r m m 0 (r, (nI 0), cp73 h 19 13)).2.2, 198, sl) = some R := hh
      obtain ⟨n, fr1, lo1, r1, hh1, hh⟩ := rn_call (w := 0) (t := 56) rfl rfl hh
      obtain ⟨er17, hc18, hf19⟩ := v56_ok (v := ((v270 q cc gc (Fi ((v124_32 q cc gc r m m 0 (r, (nI 0), cp73 h 19 13)).2.2) 19 5)).toInt64)) (w := ((v38 q cc gc (Ar ((v124_32 q cc gc r m m 0 (r, (nI 0), cp73 h 19 13)).2.2) 21)).toInt64)) hc13 hh1
      subst er17
      obtain ⟨n, hh⟩ := rn_i rfl rfl rfl rfl hh
      have hh : pm_run PT n fr lo 124 (170, [some (.ref 0), some (.int r), some (.int (nI m)), some (.int ((v124_32 q cc gc r m m 0 (r, (nI 0), cp73 h 19 13)).1)), some (.int ((v124_32 q cc gc r m m 0 (r, (nI 0), cp73 h 19 13)).2.1)), u11, u9, u10], [.int ((v124_32 q cc gc r m m 0 (r, (nI 0), cp73 h 19 13)).2.1)], v56 q cc gc ((v124_32 q cc gc r m m 0 (r, (nI 0), cp73 h 19 13)).2.2) ((v270 q cc gc (Fi ((v124_32 q cc gc r m m 0 (r, (nI 0), cp73 h 19 13)).2.2) 19 5)).toInt64) ((v38 q cc gc (Ar ((v124_32 q cc gc r m m 0 (r, (nI 0), cp73 h 19 13)).2.2) 21)).toInt64), 198, sl) = some R := hh
      have er20 : R = (some (.int ((v124_32 q cc gc r m m 0 (r, (nI 0), cp73 h 19 13)).2.1)), v56 q cc gc ((v124_32 q cc gc r m m 0 (r, (nI 0), cp73 h 19 13)).2.2) ((v270 q cc gc (Fi ((v124_32 q cc gc r m m 0 (r, (nI 0), cp73 h 19 13)).2.2) 19 5)).toInt64) ((v38 q cc gc (Ar ((v124_32 q cc gc r m m 0 (r, (nI 0), cp73 h 19 13)).2.2) 21)).toInt64), 198, sl) := (rn_ret rfl (Or.inl rfl) hh).2
      have ed : v124 q cc gc h r m = ((v124_32 q cc gc r m m 0 (r, (nI 0), cp73 h 19 13)).2.1, v56 q cc gc ((v124_32 q cc gc r m m 0 (r, (nI 0), cp73 h 19 13)).2.2) ((v270 q cc gc (Fi ((v124_32 q cc gc r m m 0 (r, (nI 0), cp73 h 19 13)).2.2) 19 5)).toInt64) ((v38 q cc gc (Ar ((v124_32 q cc gc r m m 0 (r, (nI 0), cp73 h 19 13)).2.2) 21)).toInt64)) := (cf z1).trans ((ct z5).trans rfl)
      refine ⟨?_, ?_, ?_⟩ <;> rw [ed]
      · exact er20
      · exact hc18
      · exact (fr_g rfl rfl hf19 (fr_g rfl rfl hf14 (fr_cs rfl hw.wt rfl rfl fr_0)))
    | false =>
      have hh := en_f z5 hh
      have hh : pm_run PT n fr lo 124 (11, [some (.ref 0), some (.int r), some (.int (nI m)), none, none, none, none, none], [], h, 198, sl) = some R := hh
      have y21 := of_decide_eq_false z5
      obtain ⟨n, hh⟩ := rn_i rfl rfl rfl rfl hh
      have hh : pm_run PT n fr lo 124 (12, [some (.ref 0), some (.int r), some (.int (nI m)), none, none, none, none, none], [.int (Int32.ofInt (-1))], h, 198, sl) = some R := hh
      have er22 : R = (some (.int (Int32.ofInt (-1))), h, 198, sl) := (rn_ret rfl (Or.inl rfl) hh).2
      have ed : v124 q cc gc h r m = ((Int32.ofInt (-1)), h) := (cf z1).trans ((cf z5).trans rfl)
      refine ⟨?_, ?_, ?_⟩ <;> rw [ed]
      · exact er22
      · exact hw
      · exact fr_0
def v263_33b (q : QT) (cc gc : Nat) (h : pm_H) (t1 : Int32) (m2 : Nat) (i : Nat) (x3 : Int32) : Int32 × pm_H := cond (decide (¬ (dN ((v262 q cc gc h 3).1)) = 0)) (cond (decide (gc ≤ 0)) (x3, (v262 q cc gc h 3).2) (x3 + (cond (cond (pm_cmp .lt ((v217t q cc gc ((v262 q cc gc ((v262 q cc gc ((v262 q cc gc h 3).2) gc).2) cc).2) (dN ((v262 q cc gc ((v262 q cc gc h 3).2) gc).1)) (dN ((v262 q cc gc ((v262 q cc gc ((v262 q cc gc h 3).2) gc).2) cc).1))).1) 0) false true) 1 0), (v217t q cc gc ((v262 q cc gc ((v262 q cc gc ((v262 q cc gc h 3).2) gc).2) cc).2) (dN ((v262 q cc gc ((v262 q cc gc h 3).2) gc).1)) (dN ((v262 q cc gc ((v262 q cc gc ((v262 q cc gc h 3).2) gc).2) cc).1))).2)) (x3, v219t q cc gc ((v262 q cc gc h 3).2))
def v263_33 (q : QT) (cc gc : Nat) (t1 : Int32) (m2 : Nat) (j i : Nat) (a : Int32 × pm_H) : Int32 × pm_H := lp (fun i a => v263_33b q cc gc a.2 t1 m2 i a.1) j i a
theorem v263_33_e {n fr lo sl cc gc : Nat} {q : QT} {h : pm_H} {R : pm_Rs} {t1 : Int32} {m2 : Nat} {i : Nat} {x3 : Int32} {o5 : Option Value} (hw : HC q cc gc h) (h_m2 : m2 < 10000) (hg0 : 0 < gc → 0 < cc) (hol : NA h 171 78 86 6) (hi : m2 ≤ i) (hI : i < 1000000) (hh : pm_run PT n fr lo 263 (33, [some (.ref 162), some (.int t1), some (.int (nI m2)), some (.int x3), some (.int (nI i)), o5, none], [], h, 198, sl) = some R) : ∃ m, pm_run PT m fr lo 263 (113, [some (.ref 162), some (.int t1), some (.int (nI m2)), some (.int x3), some (.int (nI i)), o5, none], [], h, 198, sl) = some R := by
  have hcc := hw.cb
  have hgc := hw.gb
  have hzr := hw.zr
  obtain ⟨n, hh⟩ := rn_i rfl rfl rfl rfl hh
  obtain ⟨n, hh⟩ := rn_i rfl rfl rfl rfl hh
  have hh : pm_run PT n fr lo 263 (36, [some (.ref 162), some (.int t1), some (.int (nI m2)), some (.int x3), some (.int (nI i)), o5, none], [.int (nI m2), .int (nI i)], h, 198, sl) = some R := hh
  obtain ⟨n, hh⟩ := en_cn (cc := .ge) (off := 77) (t := 113) (b := decide (m2 ≤ i)) (hI_ge (by omega) (by omega)) rfl rfl hh
  have hh := en_t (show decide (m2 ≤ i) = true from decide_eq_true (by omega)) hh
  have hh : pm_run PT n fr lo 263 (113, [some (.ref 162), some (.int t1), some (.int (nI m2)), some (.int x3), some (.int (nI i)), o5, none], [], h, 198, sl) = some R := hh
  exact ⟨n, hh⟩
theorem v263_33_s {n fr lo sl cc gc : Nat} {q : QT} {h : pm_H} {R : pm_Rs} {t1 : Int32} {m2 : Nat} {i : Nat} {x3 : Int32} {o5 : Option Value} (hw : HC q cc gc h) (h_m2 : m2 < 10000) (hg0 : 0 < gc → 0 < cc) (hol : NA h 171 78 86 6) (hi : i < m2) (hI : i < 1000000) (hh : pm_run PT n fr lo 263 (33, [some (.ref 162), some (.int t1), some (.int (nI m2)), some (.int x3), some (.int (nI i)), o5, none], [], h, 198, sl) = some R) : ∃ m w5, HC q cc gc ((v263_33b q cc gc h t1 m2 i x3).2) ∧ frm [162, 171, 176, 177] [(162, 29), (162, 30), (162, 51)] h ((v263_33b q cc gc h t1 m2 i x3).2) ∧ NA ((v263_33b q cc gc h t1 m2 i x3).2) 171 78 86 6 ∧ pm_run PT m fr lo 263 (33, [some (.ref 162), some (.int t1), some (.int (nI m2)), some (.int ((v263_33b q cc gc h t1 m2 i x3).1)), some (.int (nI (i + 1))), w5, none], [], (v263_33b q cc gc h t1 m2 i x3).2, 198, sl) = some R := by
  have hcc := hw.cb
  have hgc := hw.gb
  have hzr := hw.zr
  obtain ⟨n, hh⟩ := rn_i rfl rfl rfl rfl hh
  obtain ⟨n, hh⟩ := rn_i rfl rfl rfl rfl hh
  have hh : pm_run PT n fr lo 263 (36, [some (.ref 162), some (.int t1), some (.int (nI m2)), some (.int x3), some (.int (nI i)), o5, none], [.int (nI m2), .int (nI i)], h, 198, sl) = some R := hh
  obtain ⟨n, hh⟩ := en_cn (cc := .ge) (off := 77) (t := 113) (b := decide (m2 ≤ i)) (hI_ge (by omega) (by omega)) rfl rfl hh
  have hh := en_f (show decide (m2 ≤ i) = false from decide_eq_false (by omega)) hh
  have hh : pm_run PT n fr lo 263 (39, [some (.ref 162), some (.int t1), some (.int (nI m2)), some (.int x3), some (.int (nI i)), o5, none], [], h, 198, sl) = some R := hh
  obtain ⟨n, hh⟩ := rn_i rfl rfl rfl rfl hh
  obtain ⟨n, hh⟩ := rn_i rfl rfl rfl rfl hh
  have hh : pm_run PT n fr lo 263 (41, [some (.ref 162), some (.int t1), some (.int (nI m2)), some (.int x3), some (.int (nI i)), o5, none], [.int (nI 3), .ref 162], h, 198, sl) = some R := hh
  obtain ⟨n, fr1, lo1, r1, hh1, hh⟩ := rn_call (w := 0) (t := 262) rfl rfl hh
  obtain ⟨er6, hc7, hf8⟩ := v262_ok (m := 3) hw (by omega) hh1
  subst er6
  have hh : pm_run PT n fr lo 263 (44, [some (.ref 162), some (.int t1), some (.int (nI m2)), some (.int x3), some (.int (nI i)), o5, none], [.int ((v262 q cc gc h 3).1)], (v262 q cc gc h 3).2, 198, sl) = some R := hh
  have hd9 : (v262 q cc gc h 3).1 = nI (dN ((v262 q cc gc h 3).1)) ∧ dN ((v262 q cc gc h 3).1) < 3 := en_d262 (by omega) (by omega)
  rw [hd9.1] at hh
  have hb10 := hd9.2
  have hh : pm_run PT n fr lo 263 (44, [some (.ref 162), some (.int t1), some (.int (nI m2)), some (.int x3), some (.int (nI i)), o5, none], [.int (nI (dN ((v262 q cc gc h 3).1)))], (v262 q cc gc h 3).2, 198, sl) = some R := hh
  obtain ⟨n, hh⟩ := en_zn (cc := .ne) (off := 14) (t := 58) (b := decide (¬ (dN ((v262 q cc gc h 3).1)) = 0)) (hI_ne (b := 0) (by omega) (by omega)) rfl rfl hh
  cases z11 : decide (¬ (dN ((v262 q cc gc h 3).1)) = 0) with
  | true =>
    have hh := en_t z11 hh
    have hh : pm_run PT n fr lo 263 (58, [some (.ref 162), some (.int t1), some (.int (nI m2)), some (.int x3), some (.int (nI i)), o5, none], [], (v262 q cc gc h 3).2, 198, sl) = some R := hh
    have y12 := of_decide_eq_true z11
    obtain ⟨n, hh⟩ := rn_i rfl rfl rfl rfl hh
    have hh : pm_run PT n fr lo 263 (59, [some (.ref 162), some (.int t1), some (.int (nI m2)), some (.int x3), some (.int (nI i)), o5, none], [.ref 162], (v262 q cc gc h 3).2, 198, sl) = some R := hh
    obtain ⟨n, hh⟩ := rn_gi (x := nI gc) hc7.wt rfl rfl (by decide) rfl (by decide) rfl hc7.m4 hh
    have hh : pm_run PT n fr lo 263 (62, [some (.ref 162), some (.int t1), some (.int (nI m2)), some (.int x3), some (.int (nI i)), o5, none], [.int (nI gc)], (v262 q cc gc h 3).2, 198, sl) = some R := hh
    obtain ⟨n, hh⟩ := en_zn (cc := .le) (off := 45) (t := 107) (b := decide (gc ≤ 0)) (hI_le (b := 0) (by omega) (by omega)) rfl rfl hh
    cases z13 : decide (gc ≤ 0) with
    | true =>
      have hh := en_t z13 hh
      have hh : pm_run PT n fr lo 263 (107, [some (.ref 162), some (.int t1), some (.int (nI m2)), some (.int x3), some (.int (nI i)), o5, none], [], (v262 q cc gc h 3).2, 198, sl) = some R := hh
      have y14 := of_decide_eq_true z13
      have hh : pm_run PT n fr lo 263 (107, [some (.ref 162), some (.int t1), some (.int (nI m2)), some (.int x3), some (.int (nI i)), o5, none], [], (v262 q cc gc h 3).2, 198, sl) = some R := hh
      obtain ⟨n, hh⟩ := en_inc (x := i) (c := 1) (j := 4) rfl rfl (by decide) hh
      have hh : pm_run PT n fr lo 263 (110, [some (.ref 162), some (.int t1), some (.int (nI m2)), some (.int x3), some (.int (nI (i + 1))), o5, none], [], (v262 q cc gc h 3).2, 198, sl) = some R := hh
      obtain ⟨n, hh⟩ := rn_i rfl rfl rfl rfl hh
      have ed : v263_33b q cc gc h t1 m2 i x3 = (x3, (v262 q cc gc h 3).2) := (ct z11).trans ((ct z13).trans rfl)
      rw [ed]
      rw [p2s, p1s]
      exact ⟨n, o5, hc7, (fr_g rfl rfl hf8 fr_0), (NA_e ((Ar_e (hf8.1 171 rfl)).trans rfl) hol), hh⟩
    | false =>
      have hh := en_f z13 hh
      have hh : pm_run PT n fr lo 263 (65, [some (.ref 162), some (.int t1), some (.int (nI m2)), some (.int x3), some (.int (nI i)), o5, none], [], (v262 q cc gc h 3).2, 198, sl) = some R := hh
      have y15 := of_decide_eq_false z13
      obtain ⟨n, hh⟩ := rn_i rfl rfl rfl rfl hh
      obtain ⟨n, hh⟩ := rn_i rfl rfl rfl rfl hh
      have hh : pm_run PT n fr lo 263 (67, [some (.ref 162), some (.int t1), some (.int (nI m2)), some (.int x3), some (.int (nI i)), o5, none], [.ref 162, .ref 162], (v262 q cc gc h 3).2, 198, sl) = some R := hh
      obtain ⟨n, hh⟩ := rn_gi (x := nI gc) hc7.wt rfl rfl (by decide) rfl (by decide) rfl hc7.m4 hh
      have hh : pm_run PT n fr lo 263 (70, [some (.ref 162), some (.int t1), some (.int (nI m2)), some (.int x3), some (.int (nI i)), o5, none], [.int (nI gc), .ref 162], (v262 q cc gc h 3).2, 198, sl) = some R := hh
      obtain ⟨n, fr1, lo1, r1, hh1, hh⟩ := rn_call (w := 0) (t := 262) rfl rfl hh
      obtain ⟨er16, hc17, hf18⟩ := v262_ok (m := gc) hc7 (by omega) hh1
      subst er16
      have hh : pm_run PT n fr lo 263 (73, [some (.ref 162), some (.int t1), some (.int (nI m2)), some (.int x3), some (.int (nI i)), o5, none], [.int ((v262 q cc gc ((v262 q cc gc h 3).2) gc).1)], (v262 q cc gc ((v262 q cc gc h 3).2) gc).2, 198, sl) = some R := hh
      have hd19 : (v262 q cc gc ((v262 q cc gc h 3).2) gc).1 = nI (dN ((v262 q cc gc ((v262 q cc gc h 3).2) gc).1)) ∧ dN ((v262 q cc gc ((v262 q cc gc h 3).2) gc).1) < gc := en_d262 (by omega) (by omega)
      rw [hd19.1] at hh
      have hb20 := hd19.2
      obtain ⟨n, hh⟩ := rn_i rfl rfl rfl rfl hh
      obtain ⟨n, hh⟩ := rn_i rfl rfl rfl rfl hh
      obtain ⟨n, hh⟩ := rn_i rfl rfl rfl rfl hh
      obtain ⟨n, hh⟩ := rn_i rfl rfl rfl rfl hh
      have hh : pm_run PT n fr lo 263 (78, [some (.ref 162), some (.int t1), some (.int (nI m2)), some (.int x3), some (.int (nI i)), some (.int (nI (dN ((v262 q cc gc ((v262 q cc gc h 3).2) gc).1)))), none], [.ref 162, .ref 162, .int x3], (v262 q cc gc ((v262 q cc gc h 3).2) gc).2, 198, sl) = some R := hh
      obtain ⟨n, hh⟩ := rn_gr hc17.wt rfl rfl (by decide) rfl (by decide) (show _ = some (2, ((171 : Nat) : Int), 1) from rfl) rfl hh
      obtain ⟨n, hh⟩ := rn_i rfl rfl rfl rfl hh
      obtain ⟨n, hh⟩ := rn_i rfl rfl rfl rfl hh
      obtain ⟨n, hh⟩ := rn_i rfl rfl rfl rfl hh
      have hh : pm_run PT n fr lo 263 (85, [some (.ref 162), some (.int t1), some (.int (nI m2)), some (.int x3), some (.int (nI i)), some (.int (nI (dN ((v262 q cc gc ((v262 q cc gc h 3).2) gc).1)))), none], [.ref 162, .ref 162, .int (nI (dN ((v262 q cc gc ((v262 q cc gc h 3).2) gc).1))), .ref 171, .ref 162, .int x3], (v262 q cc gc ((v262 q cc gc h 3).2) gc).2, 198, sl) = some R := hh
      obtain ⟨n, hh⟩ := rn_gi (x := nI cc) hc17.wt rfl rfl (by decide) rfl (by decide) rfl hc17.m3 hh
      have hh : pm_run PT n fr lo 263 (88, [some (.ref 162), some (.int t1), some (.int (nI m2)), some (.int x3), some (.int (nI i)), some (.int (nI (dN ((v262 q cc gc ((v262 q cc gc h 3).2) gc).1)))), none], [.int (nI cc), .ref 162, .int (nI (dN ((v262 q cc gc ((v262 q cc gc h 3).2) gc).1))), .ref 171, .ref 162, .int x3], (v262 q cc gc ((v262 q cc gc h 3).2) gc).2, 198, sl) = some R := hh
      obtain ⟨n, fr1, lo1, r1, hh1, hh⟩ := rn_call (w := 0) (t := 262) rfl rfl hh
      obtain ⟨er21, hc22, hf23⟩ := v262_ok (m := cc) hc17 (by omega) hh1
      subst er21
      have hh : pm_run PT n fr lo 263 (91, [some (.ref 162), some (.int t1), some (.int (nI m2)), some (.int x3), some (.int (nI i)), some (.int (nI (dN ((v262 q cc gc ((v262 q cc gc h 3).2) gc).1)))), none], [.int ((v262 q cc gc ((v262 q cc gc ((v262 q cc gc h 3).2) gc).2) cc).1), .int (nI (dN ((v262 q cc gc ((v262 q cc gc h 3).2) gc).1))), .ref 171, .ref 162, .int x3], (v262 q cc gc ((v262 q cc gc ((v262 q cc gc h 3).2) gc).2) cc).2, 198, sl) = some R := hh
      have hd24 : (v262 q cc gc ((v262 q cc gc ((v262 q cc gc h 3).2) gc).2) cc).1 = nI (dN ((v262 q cc gc ((v262 q cc gc ((v262 q cc gc h 3).2) gc).2) cc).1)) ∧ dN ((v262 q cc gc ((v262 q cc gc ((v262 q cc gc h 3).2) gc).2) cc).1) < cc := en_d262 (by omega) (by omega)
      rw [hd24.1] at hh
      have hb25 := hd24.2
      have hh : pm_run PT n fr lo 263 (91, [some (.ref 162), some (.int t1), some (.int (nI m2)), some (.int x3), some (.int (nI i)), some (.int (nI (dN ((v262 q cc gc ((v262 q cc gc h 3).2) gc).1)))), none], [.int (nI (dN ((v262 q cc gc ((v262 q cc gc ((v262 q cc gc h 3).2) gc).2) cc).1))), .int (nI (dN ((v262 q cc gc ((v262 q cc gc h 3).2) gc).1))), .ref 171, .ref 162, .int x3], (v262 q cc gc ((v262 q cc gc ((v262 q cc gc h 3).2) gc).2) cc).2, 198, sl) = some R := hh
      obtain ⟨n, fr1, lo1, r1, hh1, hh⟩ := rn_call (w := 0) (t := 217) rfl rfl hh
      obtain ⟨er26, hc27, hf28⟩ := v217t_ok (g := (dN ((v262 q cc gc ((v262 q cc gc h 3).2) gc).1))) (c := (dN ((v262 q cc gc ((v262 q cc gc ((v262 q cc gc h 3).2) gc).2) cc).1))) hc22 (by omega) (by omega) (NA_e ((Ar_e (hf23.1 171 rfl)).trans ((Ar_e (hf18.1 171 rfl)).trans ((Ar_e (hf8.1 171 rfl)).trans rfl))) hol) hh1
      subst er26
      have hh : pm_run PT n fr lo 263 (94, [some (.ref 162), some (.int t1), some (.int (nI m2)), some (.int x3), some (.int (nI i)), some (.int (nI (dN ((v262 q cc gc ((v262 q cc gc h 3).2) gc).1)))), none], [.int ((v217t q cc gc ((v262 q cc gc ((v262 q cc gc ((v262 q cc gc h 3).2) gc).2) cc).2) (dN ((v262 q cc gc ((v262 q cc gc h 3).2) gc).1)) (dN ((v262 q cc gc ((v262 q cc gc ((v262 q cc gc h 3).2) gc).2) cc).1))).1), .int x3], (v217t q cc gc ((v262 q cc gc ((v262 q cc gc ((v262 q cc gc h 3).2) gc).2) cc).2) (dN ((v262 q cc gc ((v262 q cc gc h 3).2) gc).1)) (dN ((v262 q cc gc ((v262 q cc gc ((v262 q cc gc h 3).2) gc).2) cc).1))).2, 198, sl) = some R := hh
      obtain ⟨n, hh⟩ := en_zn (cc := .lt) (off := 7) (t := 101) (b := pm_cmp .lt ((v217t q cc gc ((v262 q cc gc ((v262 q cc gc ((v262 q cc gc h 3).2) gc).2) cc).2) (dN ((v262 q cc gc ((v262 q cc gc h 3).2) gc).1)) (dN ((v262 q cc gc ((v262 q cc gc ((v262 q cc gc h 3).2) gc).2) cc).1))).1) 0) rfl rfl rfl hh
      have hj30 : ∃ mJ, pm_run PT mJ fr lo 263 (cond (pm_cmp .lt ((v217t q cc gc ((v262 q cc gc ((v262 q cc gc ((v262 q cc gc h 3).2) gc).2) cc).2) (dN ((v262 q cc gc ((v262 q cc gc h 3).2) gc).1)) (dN ((v262 q cc gc ((v262 q cc gc ((v262 q cc gc h 3).2) gc).2) cc).1))).1) 0) (102, [some (.ref 162), some (.int t1), some (.int (nI m2)), some (.int x3), some (.int (nI i)), some (.int (nI (dN ((v262 q cc gc ((v262 q cc gc h 3).2) gc).1)))), none], [.int (nI 0), .int x3], (v217t q cc gc ((v262 q cc gc ((v262 q cc gc ((v262 q cc gc h 3).2) gc).2) cc).2) (dN ((v262 q cc gc ((v262 q cc gc h 3).2) gc).1)) (dN ((v262 q cc gc ((v262 q cc gc ((v262 q cc gc h 3).2) gc).2) cc).1))).2, 198, sl) (102, [some (.ref 162), some (.int t1), some (.int (nI m2)), some (.int x3), some (.int (nI i)), some (.int (nI (dN ((v262 q cc gc ((v262 q cc gc h 3).2) gc).1)))), none], [.int (nI 1), .int x3], (v217t q cc gc ((v262 q cc gc ((v262 q cc gc ((v262 q cc gc h 3).2) gc).2) cc).2) (dN ((v262 q cc gc ((v262 q cc gc h 3).2) gc).1)) (dN ((v262 q cc gc ((v262 q cc gc ((v262 q cc gc h 3).2) gc).2) cc).1))).2, 198, sl)) = some R := en_J (fun z29 => by
          have hh := en_t z29 hh
          have hh : pm_run PT n fr lo 263 (101, [some (.ref 162), some (.int t1), some (.int (nI m2)), some (.int x3), some (.int (nI i)), some (.int (nI (dN ((v262 q cc gc ((v262 q cc gc h 3).2) gc).1)))), none], [.int x3], (v217t q cc gc ((v262 q cc gc ((v262 q cc gc ((v262 q cc gc h 3).2) gc).2) cc).2) (dN ((v262 q cc gc ((v262 q cc gc h 3).2) gc).1)) (dN ((v262 q cc gc ((v262 q cc gc ((v262 q cc gc h 3).2) gc).2) cc).1))).2, 198, sl) = some R := hh
          obtain ⟨n, hh⟩ := rn_i rfl rfl rfl rfl hh
          exact ⟨n, hh⟩) (fun z29 => by
          have hh := en_f z29 hh
          have hh : pm_run PT n fr lo 263 (97, [some (.ref 162), some (.int t1), some (.int (nI m2)), some (.int x3), some (.int (nI i)), some (.int (nI (dN ((v262 q cc gc ((v262 q cc gc h 3).2) gc).1)))), none], [.int x3], (v217t q cc gc ((v262 q cc gc ((v262 q cc gc ((v262 q cc gc h 3).2) gc).2) cc).2) (dN ((v262 q cc gc ((v262 q cc gc h 3).2) gc).1)) (dN ((v262 q cc gc ((v262 q cc gc ((v262 q cc gc h 3).2) gc).2) cc).1))).2, 198, sl) = some R := hh
          obtain ⟨n, hh⟩ := rn_i rfl rfl rfl rfl hh
          obtain ⟨n, hh⟩ := rn_i rfl rfl rfl rfl hh
          exact ⟨n, hh⟩)
      obtain ⟨n, hh⟩ := hj30
      rw [show (cond (pm_cmp .lt ((v217t q cc gc ((v262 q cc gc ((v262 q cc gc ((v262 q cc gc h 3).2) gc).2) cc).2) (dN ((v262 q cc gc ((v262 q cc gc h 3).2) gc).1)) (dN ((v262 q cc gc ((v262 q cc gc ((v262 q cc gc h 3).2) gc).2) cc).1))).1) 0) (102, [some (.ref 162), some (.int t1), some (.int (nI m2)), some (.int x3), some (.int (nI i)), some (.int (nI (dN ((v262 q cc gc ((v262 q cc gc h 3).2) gc).1)))), none], [.int (nI 0), .int x3], (v217t q cc gc ((v262 q cc gc ((v262 q cc gc ((v262 q cc gc h 3).2) gc).2) cc).2) (dN ((v262 q cc gc ((v262 q cc gc h 3).2) gc).1)) (dN ((v262 q cc gc ((v262 q cc gc ((v262 q cc gc h 3).2) gc).2) cc).1))).2, 198, sl) (102, [some (.ref 162), some (.int t1), some (.int (nI m2)), some (.int x3), some (.int (nI i)), some (.int (nI (dN ((v262 q cc gc ((v262 q cc gc h 3).2) gc).1)))), none], [.int (nI 1), .int x3], (v217t q cc gc ((v262 q cc gc ((v262 q cc gc ((v262 q cc gc h 3).2) gc).2) cc).2) (dN ((v262 q cc gc ((v262 q cc gc h 3).2) gc).1)) (dN ((v262 q cc gc ((v262 q cc gc ((v262 q cc gc h 3).2) gc).2) cc).1))).2, 198, sl) : pm_St) = (102, [some (.ref 162), some (.int t1), some (.int (nI m2)), some (.int x3), some (.int (nI i)), some (.int (nI (dN ((v262 q cc gc ((v262 q cc gc h 3).2) gc).1)))), none], [.int (cond (cond (pm_cmp .lt ((v217t q cc gc ((v262 q cc gc ((v262 q cc gc ((v262 q cc gc h 3).2) gc).2) cc).2) (dN ((v262 q cc gc ((v262 q cc gc h 3).2) gc).1)) (dN ((v262 q cc gc ((v262 q cc gc ((v262 q cc gc h 3).2) gc).2) cc).1))).1) 0) false true) 1 0), .int x3], (v217t q cc gc ((v262 q cc gc ((v262 q cc gc ((v262 q cc gc h 3).2) gc).2) cc).2) (dN ((v262 q cc gc ((v262 q cc gc h 3).2) gc).1)) (dN ((v262 q cc gc ((v262 q cc gc ((v262 q cc gc h 3).2) gc).2) cc).1))).2, 198, sl) from by cases (pm_cmp .lt ((v217t q cc gc ((v262 q cc gc ((v262 q cc gc ((v262 q cc gc h 3).2) gc).2) cc).2) (dN ((v262 q cc gc ((v262 q cc gc h 3).2) gc).1)) (dN ((v262 q cc gc ((v262 q cc gc ((v262 q cc gc h 3).2) gc).2) cc).1))).1) 0) <;> rfl] at hh
      have hh : pm_run PT n fr lo 263 (102, [some (.ref 162), some (.int t1), some (.int (nI m2)), some (.int x3), some (.int (nI i)), some (.int (nI (dN ((v262 q cc gc ((v262 q cc gc h 3).2) gc).1)))), none], [.int (cond (cond (pm_cmp .lt ((v217t q cc gc ((v262 q cc gc ((v262 q cc gc ((v262 q cc gc h 3).2) gc).2) cc).2) (dN ((v262 q cc gc ((v262 q cc gc h 3).2) gc).1)) (dN ((v262 q cc gc ((v262 q cc gc ((v262 q cc gc h 3).2) gc).2) cc).1))).1) 0) false true) 1 0), .int x3], (v217t q cc gc ((v262 q cc gc ((v262 q cc gc ((v262 q cc gc h 3).2) gc).2) cc).2) (dN ((v262 q cc gc ((v262 q cc gc h 3).2) gc).1)) (dN ((v262 q cc gc ((v262 q cc gc ((v262 q cc gc h 3).2) gc).2) cc).1))).2, 198, sl) = some R := hh
      obtain ⟨n, fr1, lo1, r1, hh1, hh⟩ := rn_call (w := 2) (t := 165) rfl rfl hh
      have er31 := rn_dt (F := 10) (Lo := 1000) (hd_flag (fr := 10) (lo := 1000) (h := (v217t q cc gc ((v262 q cc gc ((v262 q cc gc ((v262 q cc gc h 3).2) gc).2) cc).2) (dN ((v262 q cc gc ((v262 q cc gc h 3).2) gc).1)) (dN ((v262 q cc gc ((v262 q cc gc ((v262 q cc gc h 3).2) gc).2) cc).1))).2) (sl := sl) (cond (pm_cmp .lt ((v217t q cc gc ((v262 q cc gc ((v262 q cc gc ((v262 q cc gc h 3).2) gc).2) cc).2) (dN ((v262 q cc gc ((v262 q cc gc h 3).2) gc).1)) (dN ((v262 q cc gc ((v262 q cc gc ((v262 q cc gc h 3).2) gc).2) cc).1))).1) 0) false true)) hh1
      subst er31
      obtain ⟨n, hh⟩ := rn_i rfl rfl rfl rfl hh
      obtain ⟨n, hh⟩ := rn_i rfl rfl rfl rfl hh
      have hh : pm_run PT n fr lo 263 (107, [some (.ref 162), some (.int t1), some (.int (nI m2)), some (.int (x3 + (cond (cond (pm_cmp .lt ((v217t q cc gc ((v262 q cc gc ((v262 q cc gc ((v262 q cc gc h 3).2) gc).2) cc).2) (dN ((v262 q cc gc ((v262 q cc gc h 3).2) gc).1)) (dN ((v262 q cc gc ((v262 q cc gc ((v262 q cc gc h 3).2) gc).2) cc).1))).1) 0) false true) 1 0))), some (.int (nI i)), some (.int (nI (dN ((v262 q cc gc ((v262 q cc gc h 3).2) gc).1)))), none], [], (v217t q cc gc ((v262 q cc gc ((v262 q cc gc ((v262 q cc gc h 3).2) gc).2) cc).2) (dN ((v262 q cc gc ((v262 q cc gc h 3).2) gc).1)) (dN ((v262 q cc gc ((v262 q cc gc ((v262 q cc gc h 3).2) gc).2) cc).1))).2, 198, sl) = some R := hh
      obtain ⟨n, hh⟩ := en_inc (x := i) (c := 1) (j := 4) rfl rfl (by decide) hh
      have hh : pm_run PT n fr lo 263 (110, [some (.ref 162), some (.int t1), some (.int (nI m2)), some (.int (x3 + (cond (cond (pm_cmp .lt ((v217t q cc gc ((v262 q cc gc ((v262 q cc gc ((v262 q cc gc h 3).2) gc).2) cc).2) (dN ((v262 q cc gc ((v262 q cc gc h 3).2) gc).1)) (dN ((v262 q cc gc ((v262 q cc gc ((v262 q cc gc h 3).2) gc).2) cc).1))).1) 0) false true) 1 0))), some (.int (nI (i + 1))), some (.int (nI (dN ((v262 q cc gc ((v262 q cc gc h 3).2) gc).1)))), none], [], (v217t q cc gc ((v262 q cc gc ((v262 q cc gc ((v262 q cc gc h 3).2) gc).2) cc).2) (dN ((v262 q cc gc ((v262 q cc gc h 3).2) gc).1)) (dN ((v262 q cc gc ((v262 q cc gc ((v262 q cc gc h 3).2) gc).2) cc).1))).2, 198, sl) = some R := hh
      obtain ⟨n, hh⟩ := rn_i rfl rfl rfl rfl hh
      have ed : v263_33b q cc gc h t1 m2 i x3 = (x3 + (cond (cond (pm_cmp .lt ((v217t q cc gc ((v262 q cc gc ((v262 q cc gc ((v262 q cc gc h 3).2) gc).2) cc).2) (dN ((v262 q cc gc ((v262 q cc gc h 3).2) gc).1)) (dN ((v262 q cc gc ((v262 q cc gc ((v262 q cc gc h 3).2) gc).2) cc).1))).1) 0) false true) 1 0), (v217t q cc gc ((v262 q cc gc ((v262 q cc gc ((v262 q cc gc h 3).2) gc).2) cc).2) (dN ((v262 q cc gc ((v262 q cc gc h 3).2) gc).1)) (dN ((v262 q cc gc ((v262 q cc gc ((v262 q cc gc h 3).2) gc).2) cc).1))).2) := (ct z11).trans ((cf z13).trans rfl)
      rw [ed]
      rw [p2s, p1s]
      exact ⟨n, some (.int (nI (dN ((v262 q cc gc ((v262 q cc gc h 3).2) gc).1)))), hc27, (fr_g rfl rfl hf28 (fr_g rfl rfl hf23 (fr_g rfl rfl hf18 (fr_g rfl rfl hf8 fr_0)))), (v217t_na hc22 (NA_e ((Ar_e (hf23.1 171 rfl)).trans ((Ar_e (hf18.1 171 rfl)).trans ((Ar_e (hf8.1 171 rfl)).trans rfl))) hol)), hh⟩
  | false =>
    have hh := en_f z11 hh
    have hh : pm_run PT n fr lo 263 (47, [some (.ref 162), some (.int t1), some (.int (nI m2)), some (.int x3), some (.int (nI i)), o5, none], [], (v262 q cc gc h 3).2, 198, sl) = some R := hh
    have y32 := of_decide_eq_false z11
    obtain ⟨n, hh⟩ := rn_i rfl rfl rfl rfl hh
    obtain ⟨n, hh⟩ := rn_i rfl rfl rfl rfl hh
    have hh : pm_run PT n fr lo 263 (49, [some (.ref 162), some (.int t1), some (.int (nI m2)), some (.int x3), some (.int (nI i)), o5, none], [.ref 162, .ref 162], (v262 q cc gc h 3).2, 198, sl) = some R := hh
    obtain ⟨n, hh⟩ := rn_gr hc7.wt rfl rfl (by decide) rfl (by decide) (show _ = some (2, ((171 : Nat) : Int), 1) from rfl) rfl hh
    have hh : pm_run PT n fr lo 263 (52, [some (.ref 162), some (.int t1), some (.int (nI m2)), some (.int x3), some (.int (nI i)), o5, none], [.ref 171, .ref 162], (v262 q cc gc h 3).2, 198, sl) = some R := hh
    obtain ⟨n, fr1, lo1, r1, hh1, hh⟩ := rn_call (w := 0) (t := 219) rfl rfl hh
    obtain ⟨er33, hc34, hf35⟩ := v219t_ok hc7 hh1
    subst er33
    obtain ⟨n, hh⟩ := rn_i rfl rfl rfl rfl hh
    have hh : pm_run PT n fr lo 263 (107, [some (.ref 162), some (.int t1), some (.int (nI m2)), some (.int x3), some (.int (nI i)), o5, none], [], v219t q cc gc ((v262 q cc gc h 3).2), 198, sl) = some R := hh
    obtain ⟨n, hh⟩ := en_inc (x := i) (c := 1) (j := 4) rfl rfl (by decide) hh
    have hh : pm_run PT n fr lo 263 (110, [some (.ref 162), some (.int t1), some (.int (nI m2)), some (.int x3), some (.int (nI (i + 1))), o5, none], [], v219t q cc gc ((v262 q cc gc h 3).2), 198, sl) = some R := hh
    obtain ⟨n, hh⟩ := rn_i rfl rfl rfl rfl hh
    have ed : v263_33b q cc gc h t1 m2 i x3 = (x3, v219t q cc gc ((v262 q cc gc h 3).2)) := (cf z11).trans rfl
    rw [ed]
    rw [p2s, p1s]
    exact ⟨n, o5, hc34, (fr_g rfl rfl hf35 (fr_g rfl rfl hf8 fr_0)), (v219t_na hc7 (NA_e ((Ar_e (hf8.1 171 rfl)).trans rfl) hol)), hh⟩
theorem v263_33_ok {fr lo sl cc gc : Nat} {q : QT} {R : pm_Rs} {t1 : Int32} {m2 : Nat} : ∀ {j i : Nat} {x3 : Int32} {o5 : Option Value} {h : pm_H} {n : Nat}, m2 - i = j → i + j < 1000000 → HC q cc gc h → m2 < 10000 → (0 < gc → 0 < cc) → NA h 171 78 86 6 → pm_run PT n fr lo 263 (33, [some (.ref 162), some (.int t1), some (.int (nI m2)), some (.int x3), some (.int (nI i)), o5, none], [], h, 198, sl) = some R → ∃ m wc w5, HC q cc gc ((v263_33 q cc gc t1 m2 j i (x3, h)).2) ∧ frm [162, 171, 176, 177] [(162, 29), (162, 30), (162, 51)] h ((v263_33 q cc gc t1 m2 j i (x3, h)).2) ∧ NA ((v263_33 q cc gc t1 m2 j i (x3, h)).2) 171 78 86 6 ∧ pm_run PT m fr lo 263 (113, [some (.ref 162), some (.int t1), some (.int (nI m2)), some (.int ((v263_33 q cc gc t1 m2 j i (x3, h)).1)), wc, w5, none], [], (v263_33 q cc gc t1 m2 j i (x3, h)).2, 198, sl) = some R := by
  intro j
  induction j with
  | zero =>
    intro i x3 o5 h n e eI hw h_m2 hg0 hol hh
    obtain ⟨n, hh⟩ := v263_33_e hw h_m2 hg0 hol (by omega) (by omega) hh
    exact ⟨n, _, o5, hw, fr_0, hol, hh⟩
  | succ j ih =>
    intro i x3 o5 h n e eI hw h_m2 hg0 hol hh
    obtain ⟨n, w5, hc, hf, hol', hh⟩ := v263_33_s hw h_m2 hg0 hol (by omega) (by omega) hh
    have eL : v263_33 q cc gc t1 m2 (j + 1) i (x3, h) = v263_33 q cc gc t1 m2 j (i + 1) (v263_33b q cc gc h t1 m2 i x3) := by
      unfold v263_33
      exact lp_s
    rw [eL]
    generalize v263_33b q cc gc h t1 m2 i x3 = X at *
    obtain ⟨X0, X1⟩ := X
    obtain ⟨n, wc, v5, hc2, hf2, hol'', hh⟩ := ih (by omega) (by omega) hc h_m2 hg0 hol' hh
    exact ⟨n, wc, v5, hc2, fr_t hf2 hf, hol'', hh⟩
def v263_131b (q : QT) (cc gc : Nat) (d0 : Nat → Int32) (t1 : Int32) (m2 : Nat) (t3 : Int32) (m5 : Nat) (i : Nat) (x4 : Int32) : Int32 := x4 + (cond (decide (¬ m5 = i)) ((d0) (6 + 6 * m5 + i)) (nI 0))
def v263_131 (q : QT) (cc gc : Nat) (d0 : Nat → Int32) (t1 : Int32) (m2 : Nat) (t3 : Int32) (m5 : Nat) (j i : Nat) (a : Int32) : Int32 := lp (fun i a => v263_131b q cc gc d0 t1 m2 t3 m5 i a) j i a
theorem v263_131_e {n fr lo sl cc gc : Nat} {q : QT} {h : pm_H} {R : pm_Rs} {t1 : Int32} {m2 : Nat} {t3 : Int32} {m5 : Nat} {i : Nat} {x4 : Int32} (hw : HC q cc gc h) (h_m2 : m2 < 10000) (h_m5 : m5 < 10000) (hg0 : 0 < gc → 0 < cc) (hol : NA h 171 78 86 6) (hi : cc ≤ i) (hI : i < 1000000) (hh : pm_run PT n fr lo 263 (131, [some (.ref 162), some (.int t1), some (.int (nI m2)), some (.int t3), some (.int x4), some (.int (nI m5)), some (.int (nI i))], [], h, 198, sl) = some R) : ∃ m, pm_run PT m fr lo 263 (173, [some (.ref 162), some (.int t1), some (.int (nI m2)), some (.int t3), some (.int x4), some (.int (nI m5)), some (.int (nI i))], [], h, 198, sl) = some R := by
  have hcc := hw.cb
  have hgc := hw.gb
  have hzr := hw.zr
  obtain ⟨n, hh⟩ := rn_i rfl rfl rfl rfl hh
  obtain ⟨n, hh⟩ := rn_i rfl rfl rfl rfl hh
  have hh : pm_run PT n fr lo 263 (134, [some (.ref 162), some (.int t1), some (.int (nI m2)), some (.int t3), some (.int x4), some (.int (nI m5)), some (.int (nI i))], [.ref 162, .int (nI i)], h, 198, sl) = some R := hh
  obtain ⟨n, hh⟩ := rn_gi (x := nI cc) hw.wt rfl rfl (by decide) rfl (by decide) rfl hw.m3 hh
  have hh : pm_run PT n fr lo 263 (137, [some (.ref 162), some (.int t1), some (.int (nI m2)), some (.int t3), some (.int x4), some (.int (nI m5)), some (.int (nI i))], [.int (nI cc), .int (nI i)], h, 198, sl) = some R := hh
  obtain ⟨n, hh⟩ := en_cn (cc := .ge) (off := 36) (t := 173) (b := decide (cc ≤ i)) (hI_ge (by omega) (by omega)) rfl rfl hh
  have hh := en_t (show decide (cc ≤ i) = true from decide_eq_true (by omega)) hh
  have hh : pm_run PT n fr lo 263 (173, [some (.ref 162), some (.int t1), some (.int (nI m2)), some (.int t3), some (.int x4), some (.int (nI m5)), some (.int (nI i))], [], h, 198, sl) = some R := hh
  exact ⟨n, hh⟩
theorem v263_131_s {n fr lo sl cc gc : Nat} {q : QT} {h : pm_H} {R : pm_Rs} {t1 : Int32} {m2 : Nat} {t3 : Int32} {m5 : Nat} {i : Nat} {x4 : Int32} (hw : HC q cc gc h) (h_m2 : m2 < 10000) (h_m5 : m5 < 10000) (hg0 : 0 < gc → 0 < cc) (hol : NA h 171 78 86 6) (hi : i < cc) (hI : i < 1000000) (hh : pm_run PT n fr lo 263 (131, [some (.ref 162), some (.int t1), some (.int (nI m2)), some (.int t3), some (.int x4), some (.int (nI m5)), some (.int (nI i))], [], h, 198, sl) = some R) : ∃ m, pm_run PT m fr lo 263 (131, [some (.ref 162), some (.int t1), some (.int (nI m2)), some (.int t3), some (.int (v263_131b q cc gc (Ar h 171) t1 m2 t3 m5 i x4)), some (.int (nI m5)), some (.int (nI (i + 1)))], [], h, 198, sl) = some R := by
  have hcc := hw.cb
  have hgc := hw.gb
  have hzr := hw.zr
  obtain ⟨n, hh⟩ := rn_i rfl rfl rfl rfl hh
  obtain ⟨n, hh⟩ := rn_i rfl rfl rfl rfl hh
  have hh : pm_run PT n fr lo 263 (134, [some (.ref 162), some (.int t1), some (.int (nI m2)), some (.int t3), some (.int x4), some (.int (nI m5)), some (.int (nI i))], [.ref 162, .int (nI i)], h, 198, sl) = some R := hh
  obtain ⟨n, hh⟩ := rn_gi (x := nI cc) hw.wt rfl rfl (by decide) rfl (by decide) rfl hw.m3 hh
  have hh : pm_run PT n fr lo 263 (137, [some (.ref 162), some (.int t1), some (.int (nI m2)), some (.int t3), some (.int x4), some (.int (nI m5)), some (.int (nI i))], [.int (nI cc), .int (nI i)], h, 198, sl) = some R := hh
  obtain ⟨n, hh⟩ := en_cn (cc := .ge) (off := 36) (t := 173) (b := decide (cc ≤ i)) (hI_ge (by omega) (by omega)) rfl rfl hh
  have hh := en_f (show decide (cc ≤ i) = false from decide_eq_false (by omega)) hh
  have hh : pm_run PT n fr lo 263 (140, [some (.ref 162), some (.int t1), some (.int (nI m2)), some (.int t3), some (.int x4), some (.int (nI m5)), some (.int (nI i))], [], h, 198, sl) = some R := hh
  obtain ⟨n, hh⟩ := rn_i rfl rfl rfl rfl hh
  obtain ⟨n, hh⟩ := rn_i rfl rfl rfl rfl hh
  obtain ⟨n, hh⟩ := rn_i rfl rfl rfl rfl hh
  have hh : pm_run PT n fr lo 263 (146, [some (.ref 162), some (.int t1), some (.int (nI m2)), some (.int t3), some (.int x4), some (.int (nI m5)), some (.int (nI i))], [.int (nI i), .int (nI m5), .int x4], h, 198, sl) = some R := hh
  obtain ⟨n, hh⟩ := en_cn (cc := .ne) (off := 7) (t := 153) (b := decide (¬ m5 = i)) (hI_ne (by omega) (by omega)) rfl rfl hh
  have hj14 : ∃ mJ, pm_run PT mJ fr lo 263 (cond (decide (¬ m5 = i)) (164, [some (.ref 162), some (.int t1), some (.int (nI m2)), some (.int t3), some (.int x4), some (.int (nI m5)), some (.int (nI i))], [.int ((Ar h 171) (6 + 6 * m5 + i)), .int x4], h, 198, sl) (164, [some (.ref 162), some (.int t1), some (.int (nI m2)), some (.int t3), some (.int x4), some (.int (nI m5)), some (.int (nI i))], [.int (nI 0), .int x4], h, 198, sl)) = some R := en_J (fun z11 => by
      have hh := en_t z11 hh
      have hh : pm_run PT n fr lo 263 (153, [some (.ref 162), some (.int t1), some (.int (nI m2)), some (.int t3), some (.int x4), some (.int (nI m5)), some (.int (nI i))], [.int x4], h, 198, sl) = some R := hh
      have y_z11 := of_decide_eq_true z11
      obtain ⟨n, hh⟩ := rn_i rfl rfl rfl rfl hh
      have hh : pm_run PT n fr lo 263 (154, [some (.ref 162), some (.int t1), some (.int (nI m2)), some (.int t3), some (.int x4), some (.int (nI m5)), some (.int (nI i))], [.ref 162, .int x4], h, 198, sl) = some R := hh
      obtain ⟨n, hh⟩ := rn_gr hw.wt rfl rfl (by decide) rfl (by decide) (show _ = some (2, ((171 : Nat) : Int), 1) from rfl) rfl hh
      obtain ⟨n, hh⟩ := rn_i rfl rfl rfl rfl hh
      obtain ⟨n, hh⟩ := rn_i rfl rfl rfl rfl hh
      have hh : pm_run PT n fr lo 263 (161, [some (.ref 162), some (.int t1), some (.int (nI m2)), some (.int t3), some (.int x4), some (.int (nI m5)), some (.int (nI i))], [.int (nI i), .int (nI m5), .ref 171, .int x4], h, 198, sl) = some R := hh
      obtain ⟨n, fr1, lo1, r1, hh1, hh⟩ := rn_call (w := 2) (t := 171) rfl rfl hh
      have hh1 : pm_run PT n fr1 lo1 171 (0, [some (.ref 171), some (.int (nI m5)), some (.int (nI i))], [], h, 198, sl) = some r1 := hh1
      obtain ⟨n1, hh1⟩ := rn_i rfl rfl rfl rfl hh1
      obtain ⟨n1, hh1⟩ := rn_i rfl rfl rfl rfl hh1
      obtain ⟨n1, hh1⟩ := rn_i rfl rfl rfl rfl hh1
      obtain ⟨n1, hh1⟩ := rn_i rfl rfl rfl rfl hh1
      have hh1 : pm_run PT n1 fr1 lo1 171 (6, [some (.ref 171), some (.int (nI m5)), some (.int (nI i))], [.int (nI m5), .int (nI 6), .int (nI 6), .ref 171], h, 198, sl) = some r1 := hh1
      obtain ⟨n1, hh1⟩ := en_mul rfl hh1
      have hh1 : pm_run PT n1 fr1 lo1 171 (7, [some (.ref 171), some (.int (nI m5)), some (.int (nI i))], [.int (nI (6 * m5)), .int (nI 6), .ref 171], h, 198, sl) = some r1 := hh1
      have hh1 : pm_run PT n1 fr1 lo1 171 (7, [some (.ref 171), some (.int (nI m5)), some (.int (nI i))], [.int (nI (6 * m5)), .int (nI 6), .ref 171], h, 198, sl) = some r1 := hh1
      obtain ⟨n1, hh1⟩ := en_add rfl hh1
      have hh1 : pm_run PT n1 fr1 lo1 171 (8, [some (.ref 171), some (.int (nI m5)), some (.int (nI i))], [.int (nI (6 + 6 * m5)), .ref 171], h, 198, sl) = some r1 := hh1
      obtain ⟨n1, hh1⟩ := rn_i rfl rfl rfl rfl hh1
      have hh1 : pm_run PT n1 fr1 lo1 171 (9, [some (.ref 171), some (.int (nI m5)), some (.int (nI i))], [.int (nI i), .int (nI (6 + 6 * m5)), .ref 171], h, 198, sl) = some r1 := hh1
      obtain ⟨n1, hh1⟩ := en_add rfl hh1
      have hh1 : pm_run PT n1 fr1 lo1 171 (10, [some (.ref 171), some (.int (nI m5)), some (.int (nI i))], [.int (nI (6 + 6 * m5 + i)), .ref 171], h, 198, sl) = some r1 := hh1
      have hh1 : pm_run PT n1 fr1 lo1 171 (10, [some (.ref 171), some (.int (nI m5)), some (.int (nI i))], [.int (nI (6 + 6 * m5 + i)), .ref 171], h, 198, sl) = some r1 := hh1
      obtain ⟨n1, hx12, hh1⟩ := en_lu (t := 6 + 6 * m5 + i) (f := Ar h 171) (w := (Ar h 171) (6 + 6 * m5 + i)) (nI_clamp (by omega)) hw.wt rfl (by decide) rfl (by decide) rfl (fun _ => rfl) hh1
      have hh1 : pm_run PT n1 fr1 lo1 171 (11, [some (.ref 171), some (.int (nI m5)), some (.int (nI i))], [.int ((Ar h 171) (6 + 6 * m5 + i))], h, 198, sl) = some r1 := hh1
      have er13 : r1 = (some (.int ((Ar h 171) (6 + 6 * m5 + i))), h, 198, sl) := (rn_ret rfl (Or.inl rfl) hh1).2
      subst er13
      exact ⟨n, hh⟩) (fun z11 => by
      have hh := en_f z11 hh
      have hh : pm_run PT n fr lo 263 (149, [some (.ref 162), some (.int t1), some (.int (nI m2)), some (.int t3), some (.int x4), some (.int (nI m5)), some (.int (nI i))], [.int x4], h, 198, sl) = some R := hh
      have y_z11 := of_decide_eq_false z11
      obtain ⟨n, hh⟩ := rn_i rfl rfl rfl rfl hh
      obtain ⟨n, hh⟩ := rn_i rfl rfl rfl rfl hh
      exact ⟨n, hh⟩)
  obtain ⟨n, hh⟩ := hj14
  rw [show (cond (decide (¬ m5 = i)) (164, [some (.ref 162), some (.int t1), some (.int (nI m2)), some (.int t3), some (.int x4), some (.int (nI m5)), some (.int (nI i))], [.int ((Ar h 171) (6 + 6 * m5 + i)), .int x4], h, 198, sl) (164, [some (.ref 162), some (.int t1), some (.int (nI m2)), some (.int t3), some (.int x4), some (.int (nI m5)), some (.int (nI i))], [.int (nI 0), .int x4], h, 198, sl) : pm_St) = (164, [some (.ref 162), some (.int t1), some (.int (nI m2)), some (.int t3), some (.int x4), some (.int (nI m5)), some (.int (nI i))], [.int (cond (decide (¬ m5 = i)) ((Ar h 171) (6 + 6 * m5 + i)) (nI 0)), .int x4], h, 198, sl) from by cases (decide (¬ m5 = i)) <;> rfl] at hh
  obtain ⟨n, hh⟩ := rn_i rfl rfl rfl rfl hh
  obtain ⟨n, hh⟩ := rn_i rfl rfl rfl rfl hh
  have hh : pm_run PT n fr lo 263 (167, [some (.ref 162), some (.int t1), some (.int (nI m2)), some (.int t3), some (.int (x4 + (cond (decide (¬ m5 = i)) ((Ar h 171) (6 + 6 * m5 + i)) (nI 0)))), some (.int (nI m5)), some (.int (nI i))], [], h, 198, sl) = some R := hh
  obtain ⟨n, hh⟩ := en_inc (x := i) (c := 1) (j := 6) rfl rfl (by decide) hh
  have hh : pm_run PT n fr lo 263 (170, [some (.ref 162), some (.int t1), some (.int (nI m2)), some (.int t3), some (.int (x4 + (cond (decide (¬ m5 = i)) ((Ar h 171) (6 + 6 * m5 + i)) (nI 0)))), some (.int (nI m5)), some (.int (nI (i + 1)))], [], h, 198, sl) = some R := hh
  obtain ⟨n, hh⟩ := rn_i rfl rfl rfl rfl hh
  have ed : v263_131b q cc gc (Ar h 171) t1 m2 t3 m5 i x4 = x4 + (cond (decide (¬ m5 = i)) ((Ar h 171) (6 + 6 * m5 + i)) (nI 0)) := rfl
  rw [ed]
  exact ⟨n, hh⟩
theorem v263_131_ok {fr lo sl cc gc : Nat} {q : QT} {R : pm_Rs} {t1 : Int32} {m2 : Nat} {t3 : Int32} {m5 : Nat} : ∀ {j i : Nat} {x4 : Int32} {h : pm_H} {n : Nat}, cc - i = j → i + j < 1000000 → HC q cc gc h → m2 < 10000 → m5 < 10000 → (0 < gc → 0 < cc) → NA h 171 78 86 6 → pm_run PT n fr lo 263 (131, [some (.ref 162), some (.int t1), some (.int (nI m2)), some (.int t3), some (.int x4), some (.int (nI m5)), some (.int (nI i))], [], h, 198, sl) = some R → ∃ m wc, pm_run PT m fr lo 263 (173, [some (.ref 162), some (.int t1), some (.int (nI m2)), some (.int t3), some (.int (v263_131 q cc gc (Ar h 171) t1 m2 t3 m5 j i x4)), some (.int (nI m5)), wc], [], h, 198, sl) = some R := by
  intro j
  induction j with
  | zero =>
    intro i x4 h n e eI hw h_m2 h_m5 hg0 hol hh
    obtain ⟨n, hh⟩ := v263_131_e hw h_m2 h_m5 hg0 hol (by omega) (by omega) hh
    exact ⟨n, _, hh⟩
  | succ j ih =>
    intro i x4 h n e eI hw h_m2 h_m5 hg0 hol hh
    obtain ⟨n, hh⟩ := v263_131_s hw h_m2 h_m5 hg0 hol (by omega) (by omega) hh
    obtain ⟨n, wc, hh⟩ := ih (by omega) (by omega) hw h_m2 h_m5 hg0 hol hh
    exact ⟨n, wc, hh⟩
def v263_119b (q : QT) (cc gc : Nat) (d0 : Nat → Int32) (t1 : Int32) (m2 : Nat) (t3 : Int32) (i : Nat) (x4 : Int32) : Int32 := (v263_131 q cc gc (d0) t1 m2 t3 i cc 0 x4)
def v263_119 (q : QT) (cc gc : Nat) (d0 : Nat → Int32) (t1 : Int32) (m2 : Nat) (t3 : Int32) (j i : Nat) (a : Int32) : Int32 := lp (fun i a => v263_119b q cc gc d0 t1 m2 t3 i a) j i a
theorem v263_119_e {n fr lo sl cc gc : Nat} {q : QT} {h : pm_H} {R : pm_Rs} {t1 : Int32} {m2 : Nat} {t3 : Int32} {i : Nat} {x4 : Int32} {o6 : Option Value} (hw : HC q cc gc h) (h_m2 : m2 < 10000) (hg0 : 0 < gc → 0 < cc) (hol : NA h 171 78 86 6) (hi : cc ≤ i) (hI : i < 1000000) (hh : pm_run PT n fr lo 263 (119, [some (.ref 162), some (.int t1), some (.int (nI m2)), some (.int t3), some (.int x4), some (.int (nI i)), o6], [], h, 198, sl) = some R) : ∃ m, pm_run PT m fr lo 263 (179, [some (.ref 162), some (.int t1), some (.int (nI m2)), some (.int t3), some (.int x4), some (.int (nI i)), o6], [], h, 198, sl) = some R := by
  have hcc := hw.cb
  have hgc := hw.gb
  have hzr := hw.zr
  obtain ⟨n, hh⟩ := rn_i rfl rfl rfl rfl hh
  obtain ⟨n, hh⟩ := rn_i rfl rfl rfl rfl hh
  have hh : pm_run PT n fr lo 263 (122, [some (.ref 162), some (.int t1), some (.int (nI m2)), some (.int t3), some (.int x4), some (.int (nI i)), o6], [.ref 162, .int (nI i)], h, 198, sl) = some R := hh
  obtain ⟨n, hh⟩ := rn_gi (x := nI cc) hw.wt rfl rfl (by decide) rfl (by decide) rfl hw.m3 hh
  have hh : pm_run PT n fr lo 263 (125, [some (.ref 162), some (.int t1), some (.int (nI m2)), some (.int t3), some (.int x4), some (.int (nI i)), o6], [.int (nI cc), .int (nI i)], h, 198, sl) = some R := hh
  obtain ⟨n, hh⟩ := en_cn (cc := .ge) (off := 54) (t := 179) (b := decide (cc ≤ i)) (hI_ge (by omega) (by omega)) rfl rfl hh
  have hh := en_t (show decide (cc ≤ i) = true from decide_eq_true (by omega)) hh
  have hh : pm_run PT n fr lo 263 (179, [some (.ref 162), some (.int t1), some (.int (nI m2)), some (.int t3), some (.int x4), some (.int (nI i)), o6], [], h, 198, sl) = some R := hh
  exact ⟨n, hh⟩
theorem v263_119_s {n fr lo sl cc gc : Nat} {q : QT} {h : pm_H} {R : pm_Rs} {t1 : Int32} {m2 : Nat} {t3 : Int32} {i : Nat} {x4 : Int32} {o6 : Option Value} (hw : HC q cc gc h) (h_m2 : m2 < 10000) (hg0 : 0 < gc → 0 < cc) (hol : NA h 171 78 86 6) (hi : i < cc) (hI : i < 1000000) (hh : pm_run PT n fr lo 263 (119, [some (.ref 162), some (.int t1), some (.int (nI m2)), some (.int t3), some (.int x4), some (.int (nI i)), o6], [], h, 198, sl) = some R) : ∃ m w6, pm_run PT m fr lo 263 (119, [some (.ref 162), some (.int t1), some (.int (nI m2)), some (.int t3), some (.int (v263_119b q cc gc (Ar h 171) t1 m2 t3 i x4)), some (.int (nI (i + 1))), w6], [], h, 198, sl) = some R := by
  have hcc := hw.cb
  have hgc := hw.gb
  have hzr := hw.zr
  obtain ⟨n, hh⟩ := rn_i rfl rfl rfl rfl hh
  obtain ⟨n, hh⟩ := rn_i rfl rfl rfl rfl hh
  have hh : pm_run PT n fr lo 263 (122, [some (.ref 162), some (.int t1), some (.int (nI m2)), some (.int t3), some (.int x4), some (.int (nI i)), o6], [.ref 162, .int (nI i)], h, 198, sl) = some R := hh
  obtain ⟨n, hh⟩ := rn_gi (x := nI cc) hw.wt rfl rfl (by decide) rfl (by decide) rfl hw.m3 hh
  have hh : pm_run PT n fr lo 263 (125, [some (.ref 162), some (.int t1), some (.int (nI m2)), some (.int t3), some (.int x4), some (.int (nI i)), o6], [.int (nI cc), .int (nI i)], h, 198, sl) = some R := hh
  obtain ⟨n, hh⟩ := en_cn (cc := .ge) (off := 54) (t := 179) (b := decide (cc ≤ i)) (hI_ge (by omega) (by omega)) rfl rfl hh
  have hh := en_f (show decide (cc ≤ i) = false from decide_eq_false (by omega)) hh
  have hh : pm_run PT n fr lo 263 (128, [some (.ref 162), some (.int t1), some (.int (nI m2)), some (.int t3), some (.int x4), some (.int (nI i)), o6], [], h, 198, sl) = some R := hh
  obtain ⟨n, hh⟩ := rn_i rfl rfl rfl rfl hh
  obtain ⟨n, hh⟩ := rn_i rfl rfl rfl rfl hh
  have hh : pm_run PT n fr lo 263 (131, [some (.ref 162), some (.int t1), some (.int (nI m2)), some (.int t3), some (.int x4), some (.int (nI i)), some (.int (nI 0))], [], h, 198, sl) = some R := hh
  obtain ⟨n, u11, hh⟩ := v263_131_ok (t1 := t1) (m2 := m2) (t3 := t3) (m5 := i)  (i := 0) (x4 := x4) (j := cc) (by omega) (by omega) hw (by omega) (by omega) hg0 hol hh
  have hh : pm_run PT n fr lo 263 (173, [some (.ref 162), some (.int t1), some (.int (nI m2)), some (.int t3), some (.int (v263_131 q cc gc (Ar h 171) t1 m2 t3 i cc 0 x4)), some (.int (nI i)), u11], [], h, 198, sl) = some R := hh
  have hh : pm_run PT n fr lo 263 (173, [some (.ref 162), some (.int t1), some (.int (nI m2)), some (.int t3), some (.int (v263_131 q cc gc (Ar h 171) t1 m2 t3 i cc 0 x4)), some (.int (nI i)), u11], [], h, 198, sl) = some R := hh
  obtain ⟨n, hh⟩ := en_inc (x := i) (c := 1) (j := 5) rfl rfl (by decide) hh
  have hh : pm_run PT n fr lo 263 (176, [some (.ref 162), some (.int t1), some (.int (nI m2)), some (.int t3), some (.int (v263_131 q cc gc (Ar h 171) t1 m2 t3 i cc 0 x4)), some (.int (nI (i + 1))), u11], [], h, 198, sl) = some R := hh
  obtain ⟨n, hh⟩ := rn_i rfl rfl rfl rfl hh
  have ed : v263_119b q cc gc (Ar h 171) t1 m2 t3 i x4 = (v263_131 q cc gc (Ar h 171) t1 m2 t3 i cc 0 x4) := rfl
  rw [ed]
  exact ⟨n, u11, hh⟩
theorem v263_119_ok {fr lo sl cc gc : Nat} {q : QT} {R : pm_Rs} {t1 : Int32} {m2 : Nat} {t3 : Int32} : ∀ {j i : Nat} {x4 : Int32} {o6 : Option Value} {h : pm_H} {n : Nat}, cc - i = j → i + j < 1000000 → HC q cc gc h → m2 < 10000 → (0 < gc → 0 < cc) → NA h 171 78 86 6 → pm_run PT n fr lo 263 (119, [some (.ref 162), some (.int t1), some (.int (nI m2)), some (.int t3), some (.int x4), some (.int (nI i)), o6], [], h, 198, sl) = some R → ∃ m wc w6, pm_run PT m fr lo 263 (179, [some (.ref 162), some (.int t1), some (.int (nI m2)), some (.int t3), some (.int (v263_119 q cc gc (Ar h 171) t1 m2 t3 j i x4)), wc, w6], [], h, 198, sl) = some R := by
  intro j
  induction j with
  | zero =>
    intro i x4 o6 h n e eI hw h_m2 hg0 hol hh
    obtain ⟨n, hh⟩ := v263_119_e hw h_m2 hg0 hol (by omega) (by omega) hh
    exact ⟨n, _, o6, hh⟩
  | succ j ih =>
    intro i x4 o6 h n e eI hw h_m2 hg0 hol hh
    obtain ⟨n, w6, hh⟩ := v263_119_s hw h_m2 hg0 hol (by omega) (by omega) hh
    obtain ⟨n, wc, v6, hh⟩ := ih (by omega) (by omega) hw h_m2 hg0 hol hh
    exact ⟨n, wc, v6, hh⟩
def v263 (q : QT) (cc gc : Nat) (h : pm_H) (r : Int32) (m : Nat) : Int32 × pm_H := cond (in_b ((nI m).toInt64) (Int64.ofNat 1) (60 : Int64)) ((v263_33 q cc gc r m m 0 ((nI 0), v229 q cc gc (fset (fset h 162 0 (.int (nI 0))) 162 51 (.int r)))).1, v167 q cc gc (v167 q cc gc (fset ((v263_33 q cc gc r m m 0 ((nI 0), v229 q cc gc (fset (fset h 162 0 (.int (nI 0))) 162 51 (.int r)))).2) 162 1 (.int (nI 0))) ((v270 q cc gc ((Ar ((v263_33 q cc gc r m m 0 ((nI 0), v229 q cc gc (fset (fset h 162 0 (.int (nI 0))) 162 51 (.int r)))).2) 171) 94)).toInt64)) (((v263_119 q cc gc (Ar ((v263_33 q cc gc r m m 0 ((nI 0), v229 q cc gc (fset (fset h 162 0 (.int (nI 0))) 162 51 (.int r)))).2) 171) r m ((v263_33 q cc gc r m m 0 ((nI 0), v229 q cc gc (fset (fset h 162 0 (.int (nI 0))) 162 51 (.int r)))).1) cc 0 (nI 0))).toInt64)) ((Int32.ofInt (-1)), fset h 162 0 (.int (nI 0)))
theorem v263_ok {n fr lo sl cc gc : Nat} {q : QT} {h : pm_H} {R : pm_Rs} {r : Int32} {m : Nat} (hw : HC q cc gc h) (h_m : m < 10000) (hg0 : 0 < gc → 0 < cc) (hol : NA h 170 78 86 6) (hh : pm_run PT n fr lo 263 (0, pm_l0 [.ref 162, .int r, .int (nI m)] 7, [], h, 198, sl) = some R) : R = (some (.int ((v263 q cc gc h r m).1)), (v263 q cc gc h r m).2, 198, sl) ∧ HC q cc gc ((v263 q cc gc h r m).2) ∧ frm [162, 163, 171, 176, 177] [(162, 0), (162, 1), (162, 29), (162, 30), (162, 51)] h ((v263 q cc gc h r m).2) := by
  have hcc := hw.cb
  have hgc := hw.gb
  have hzr := hw.zr
  obtain ⟨n, hh⟩ := rn_i rfl rfl rfl rfl hh
  obtain ⟨n, hh⟩ := rn_i rfl rfl rfl rfl hh
  have hh : pm_run PT n fr lo 263 (2, [some (.ref 162), some (.int r), some (.int (nI m)), none, none, none, none], [.int (nI 0), .ref 162], h, 198, sl) = some R := hh
  obtain ⟨n, hh⟩ := rn_pi hw.wt rfl rfl (by decide) rfl (by decide) rfl hh
  obtain ⟨n, hh⟩ := rn_i rfl rfl rfl rfl hh
  obtain ⟨n, hh⟩ := rn_i rfl rfl rfl rfl hh
  obtain ⟨n, hh⟩ := rn_i rfl rfl rfl rfl hh
  obtain ⟨n, hh⟩ := rn_i rfl rfl rfl rfl hh
  have hh : pm_run PT n fr lo 263 (11, [some (.ref 162), some (.int r), some (.int (nI m)), none, none, none, none], [.long (60 : Int64), .long (Int64.ofNat 1), .long ((nI m).toInt64)], fset h 162 0 (.int (nI 0)), 198, sl) = some R := hh
  obtain ⟨n, fr1, lo1, r1, hh1, hh⟩ := rn_call (w := 2) (t := 163) rfl rfl hh
  have er1 := rn_dt (F := 10) (Lo := 1000) (hd_in (fr := 10) (lo := 1000) (h := fset h 162 0 (.int (nI 0))) (sl := sl) ((nI m).toInt64) (Int64.ofNat 1) (60 : Int64)) hh1
  subst er1
  have hh : pm_run PT n fr lo 263 (14, [some (.ref 162), some (.int r), some (.int (nI m)), none, none, none, none], [.int (cond (in_b ((nI m).toInt64) (Int64.ofNat 1) (60 : Int64)) 1 0)], fset h 162 0 (.int (nI 0)), 198, sl) = some R := hh
  obtain ⟨n, hh⟩ := en_zn (cc := .ne) (off := 5) (t := 19) (b := in_b ((nI m).toInt64) (Int64.ofNat 1) (60 : Int64)) eb_ne rfl rfl hh
  cases z2 : in_b ((nI m).toInt64) (Int64.ofNat 1) (60 : Int64) with
  | true =>
    have hh := en_t z2 hh
    have hh : pm_run PT n fr lo 263 (19, [some (.ref 162), some (.int r), some (.int (nI m)), none, none, none, none], [], fset h 162 0 (.int (nI 0)), 198, sl) = some R := hh
    obtain ⟨n, hh⟩ := rn_i rfl rfl rfl rfl hh
    obtain ⟨n, hh⟩ := rn_i rfl rfl rfl rfl hh
    have hh : pm_run PT n fr lo 263 (21, [some (.ref 162), some (.int r), some (.int (nI m)), none, none, none, none], [.int r, .ref 162], fset h 162 0 (.int (nI 0)), 198, sl) = some R := hh
    obtain ⟨n, hh⟩ := rn_pi (hc_f rfl rfl (by decide) rfl hw).wt rfl rfl (by decide) rfl (by decide) rfl hh
    obtain ⟨n, hh⟩ := rn_i rfl rfl rfl rfl hh
    have hh : pm_run PT n fr lo 263 (25, [some (.ref 162), some (.int r), some (.int (nI m)), none, none, none, none], [.ref 162], fset (fset h 162 0 (.int (nI 0))) 162 51 (.int r), 198, sl) = some R := hh
    obtain ⟨n, fr1, lo1, r1, hh1, hh⟩ := rn_call (w := 0) (t := 229) rfl rfl hh
    obtain ⟨er3, hc4, hf5⟩ := v229_ok (hc_f rfl rfl (by decide) rfl (hc_f rfl rfl (by decide) rfl hw)) hh1
    subst er3
    obtain ⟨n, hh⟩ := rn_i rfl rfl rfl rfl hh
    obtain ⟨n, hh⟩ := rn_i rfl rfl rfl rfl hh
    obtain ⟨n, hh⟩ := rn_i rfl rfl rfl rfl hh
    obtain ⟨n, hh⟩ := rn_i rfl rfl rfl rfl hh
    have hh : pm_run PT n fr lo 263 (33, [some (.ref 162), some (.int r), some (.int (nI m)), some (.int (nI 0)), some (.int (nI 0)), none, none], [], v229 q cc gc (fset (fset h 162 0 (.int (nI 0))) 162 51 (.int r)), 198, sl) = some R := hh
    obtain ⟨n, u7, u6, hc9, hf10, hn8, hh⟩ := v263_33_ok (t1 := r) (m2 := m)  (i := 0) (x3 := (nI 0)) (o5 := none) (j := m) (by omega) (by omega) hc4 (by omega) hg0 (v229_na (hc_f rfl rfl (by decide) rfl (hc_f rfl rfl (by decide) rfl hw)) (NA_e (Ar_f.trans (Ar_f.trans rfl)) hol)) hh
    have hh : pm_run PT n fr lo 263 (113, [some (.ref 162), some (.int r), some (.int (nI m)), some (.int ((v263_33 q cc gc r m m 0 ((nI 0), v229 q cc gc (fset (fset h 162 0 (.int (nI 0))) 162 51 (.int r)))).1)), u7, u6, none], [], (v263_33 q cc gc r m m 0 ((nI 0), v229 q cc gc (fset (fset h 162 0 (.int (nI 0))) 162 51 (.int r)))).2, 198, sl) = some R := hh
    obtain ⟨n, hh⟩ := rn_i rfl rfl rfl rfl hh
    obtain ⟨n, hh⟩ := rn_i rfl rfl rfl rfl hh
    obtain ⟨n, hh⟩ := rn_i rfl rfl rfl rfl hh
    obtain ⟨n, hh⟩ := rn_i rfl rfl rfl rfl hh
    have hh : pm_run PT n fr lo 263 (119, [some (.ref 162), some (.int r), some (.int (nI m)), some (.int ((v263_33 q cc gc r m m 0 ((nI 0), v229 q cc gc (fset (fset h 162 0 (.int (nI 0))) 162 51 (.int r)))).1)), some (.int (nI 0)), some (.int (nI 0)), none], [], (v263_33 q cc gc r m m 0 ((nI 0), v229 q cc gc (fset (fset h 162 0 (.int (nI 0))) 162 51 (.int r)))).2, 198, sl) = some R := hh
    obtain ⟨n, u12, u11, hh⟩ := v263_119_ok (t1 := r) (m2 := m) (t3 := ((v263_33 q cc gc r m m 0 ((nI 0), v229 q cc gc (fset (fset h 162 0 (.int (nI 0))) 162 51 (.int r)))).1))  (i := 0) (x4 := (nI 0)) (o6 := none) (j := cc) (by omega) (by omega) hc9 (by omega) hg0 hn8 hh
    have hh : pm_run PT n fr lo 263 (179, [some (.ref 162), some (.int r), some (.int (nI m)), some (.int ((v263_33 q cc gc r m m 0 ((nI 0), v229 q cc gc (fset (fset h 162 0 (.int (nI 0))) 162 51 (.int r)))).1)), some (.int (v263_119 q cc gc (Ar ((v263_33 q cc gc r m m 0 ((nI 0), v229 q cc gc (fset (fset h 162 0 (.int (nI 0))) 162 51 (.int r)))).2) 171) r m ((v263_33 q cc gc r m m 0 ((nI 0), v229 q cc gc (fset (fset h 162 0 (.int (nI 0))) 162 51 (.int r)))).1) cc 0 (nI 0))), u12, u11], [], (v263_33 q cc gc r m m 0 ((nI 0), v229 q cc gc (fset (fset h 162 0 (.int (nI 0))) 162 51 (.int r)))).2, 198, sl) = some R := hh
    obtain ⟨n, hh⟩ := rn_i rfl rfl rfl rfl hh
    obtain ⟨n, hh⟩ := rn_i rfl rfl rfl rfl hh
    have hh : pm_run PT n fr lo 263 (181, [some (.ref 162), some (.int r), some (.int (nI m)), some (.int ((v263_33 q cc gc r m m 0 ((nI 0), v229 q cc gc (fset (fset h 162 0 (.int (nI 0))) 162 51 (.int r)))).1)), some (.int (v263_119 q cc gc (Ar ((v263_33 q cc gc r m m 0 ((nI 0), v229 q cc gc (fset (fset h 162 0 (.int (nI 0))) 162 51 (.int r)))).2) 171) r m ((v263_33 q cc gc r m m 0 ((nI 0), v229 q cc gc (fset (fset h 162 0 (.int (nI 0))) 162 51 (.int r)))).1) cc 0 (nI 0))), u12, u11], [.int (nI 0), .ref 162], (v263_33 q cc gc r m m 0 ((nI 0), v229 q cc gc (fset (fset h 162 0 (.int (nI 0))) 162 51 (.int r)))).2, 198, sl) = some R := hh
    obtain ⟨n, hh⟩ := rn_pi hc9.wt rfl rfl (by decide) rfl (by decide) rfl hh
    obtain ⟨n, hh⟩ := rn_i rfl rfl rfl rfl hh
    obtain ⟨n, hh⟩ := rn_i rfl rfl rfl rfl hh
    have hh : pm_run PT n fr lo 263 (186, [some (.ref 162), some (.int r), some (.int (nI m)), some (.int ((v263_33 q cc gc r m m 0 ((nI 0), v229 q cc gc (fset (fset h 162 0 (.int (nI 0))) 162 51 (.int r)))).1)), some (.int (v263_119 q cc gc (Ar ((v263_33 q cc gc r m m 0 ((nI 0), v229 q cc gc (fset (fset h 162 0 (.int (nI 0))) 162 51 (.int r)))).2) 171) r m ((v263_33 q cc gc r m m 0 ((nI 0), v229 q cc gc (fset (fset h 162 0 (.int (nI 0))) 162 51 (.int r)))).1) cc 0 (nI 0))), u12, u11], [.ref 162, .ref 162], fset ((v263_33 q cc gc r m m 0 ((nI 0), v229 q cc gc (fset (fset h 162 0 (.int (nI 0))) 162 51 (.int r)))).2) 162 1 (.int (nI 0)), 198, sl) = some R := hh
    obtain ⟨n, hh⟩ := rn_gr (hc_f rfl rfl (by decide) rfl hc9).wt rfl rfl (by decide) rfl (by decide) (show _ = some (2, ((171 : Nat) : Int), 1) from rfl) rfl hh
    obtain ⟨n, hh⟩ := rn_i rfl rfl rfl rfl hh
    have hh : pm_run PT n fr lo 263 (191, [some (.ref 162), some (.int r), some (.int (nI m)), some (.int ((v263_33 q cc gc r m m 0 ((nI 0), v229 q cc gc (fset (fset h 162 0 (.int (nI 0))) 162 51 (.int r)))).1)), some (.int (v263_119 q cc gc (Ar ((v263_33 q cc gc r m m 0 ((nI 0), v229 q cc gc (fset (fset h 162 0 (.int (nI 0))) 162 51 (.int r)))).2) 171) r m ((v263_33 q cc gc r m m 0 ((nI 0), v229 q cc gc (fset (fset h 162 0 (.int (nI 0))) 162 51 (.int r)))).1) cc 0 (nI 0))), u12, u11], [.int (nI 94), .ref 171, .ref 162], fset ((v263_33 q cc gc r m m 0 ((nI 0), v229 q cc gc (fset (fset h 162 0 (.int (nI 0))) 162 51 (.int r)))).2) 162 1 (.int (nI 0)), 198, sl) = some R := hh
    obtain ⟨n, hx14, hh⟩ := en_lu (t := 94) (f := Ar ((v263_33 q cc gc r m m 0 ((nI 0), v229 q cc gc (fset (fset h 162 0 (.int (nI 0))) 162 51 (.int r)))).2) 171) (w := (Ar ((v263_33 q cc gc r m m 0 ((nI 0), v229 q cc gc (fset (fset h 162 0 (.int (nI 0))) 162 51 (.int r)))).2) 171) 94) (nI_clamp (by omega)) (hc_f rfl rfl (by decide) rfl hc9).wt rfl (by decide) rfl (by decide) (Ar_f.trans rfl) (fun _ => rfl) hh
    have hh : pm_run PT n fr lo 263 (192, [some (.ref 162), some (.int r), some (.int (nI m)), some (.int ((v263_33 q cc gc r m m 0 ((nI 0), v229 q cc gc (fset (fset h 162 0 (.int (nI 0))) 162 51 (.int r)))).1)), some (.int (v263_119 q cc gc (Ar ((v263_33 q cc gc r m m 0 ((nI 0), v229 q cc gc (fset (fset h 162 0 (.int (nI 0))) 162 51 (.int r)))).2) 171) r m ((v263_33 q cc gc r m m 0 ((nI 0), v229 q cc gc (fset (fset h 162 0 (.int (nI 0))) 162 51 (.int r)))).1) cc 0 (nI 0))), u12, u11], [.int ((Ar ((v263_33 q cc gc r m m 0 ((nI 0), v229 q cc gc (fset (fset h 162 0 (.int (nI 0))) 162 51 (.int r)))).2) 171) 94), .ref 162], fset ((v263_33 q cc gc r m m 0 ((nI 0), v229 q cc gc (fset (fset h 162 0 (.int (nI 0))) 162 51 (.int r)))).2) 162 1 (.int (nI 0)), 198, sl) = some R := hh
    obtain ⟨n, fr1, lo1, r1, hh1, hh⟩ := rn_call (w := 2) (t := 270) rfl rfl hh
    have er15 := v270_ok (a := ((Ar ((v263_33 q cc gc r m m 0 ((nI 0), v229 q cc gc (fset (fset h 162 0 (.int (nI 0))) 162 51 (.int r)))).2) 171) 94)) (hc_f rfl rfl (by decide) rfl hc9) hh1
    subst er15
    obtain ⟨n, hh⟩ := rn_i rfl rfl rfl rfl hh
    have hh : pm_run PT n fr lo 263 (196, [some (.ref 162), some (.int r), some (.int (nI m)), some (.int ((v263_33 q cc gc r m m 0 ((nI 0), v229 q cc gc (fset (fset h 162 0 (.int (nI 0))) 162 51 (.int r)))).1)), some (.int (v263_119 q cc gc (Ar ((v263_33 q cc gc r m m 0 ((nI 0), v229 q cc gc (fset (fset h 162 0 (.int (nI 0))) 162 51 (.int r)))).2) 171) r m ((v263_33 q cc gc r m m 0 ((nI 0), v229 q cc gc (fset (fset h 162 0 (.int (nI 0))) 162 51 (.int r)))).1) cc 0 (nI 0))), u12, u11], [.long ((v270 q cc gc ((Ar ((v263_33 q cc gc r m m 0 ((nI 0), v229 q cc gc (fset (fset h 162 0 (.int (nI 0))) 162 51 (.int r)))).2) 171) 94)).toInt64), .ref 162], fset ((v263_33 q cc gc r m m 0 ((nI 0), v229 q cc gc (fset (fset h 162 0 (.int (nI 0))) 162 51 (.int r)))).2) 162 1 (.int (nI 0)), 198, sl) = some R := hh
    obtain ⟨n, fr1, lo1, r1, hh1, hh⟩ := rn_call (w := 0) (t := 167) rfl rfl hh
    obtain ⟨er16, hc17, hf18⟩ := v167_ok (v := ((v270 q cc gc ((Ar ((v263_33 q cc gc r m m 0 ((nI 0), v229 q cc gc (fset (fset h 162 0 (.int (nI 0))) 162 51 (.int r)))).2) 171) 94)).toInt64)) (hc_f rfl rfl (by decide) rfl hc9) hh1
    subst er16
    obtain ⟨n, hh⟩ := rn_i rfl rfl rfl rfl hh
    obtain ⟨n, hh⟩ := rn_i rfl rfl rfl rfl hh
    obtain ⟨n, hh⟩ := rn_i rfl rfl rfl rfl hh
    have hh : pm_run PT n fr lo 263 (203, [some (.ref 162), some (.int r), some (.int (nI m)), some (.int ((v263_33 q cc gc r m m 0 ((nI 0), v229 q cc gc (fset (fset h 162 0 (.int (nI 0))) 162 51 (.int r)))).1)), some (.int (v263_119 q cc gc (Ar ((v263_33 q cc gc r m m 0 ((nI 0), v229 q cc gc (fset (fset h 162 0 (.int (nI 0))) 162 51 (.int r)))).2) 171) r m ((v263_33 q cc gc r m m 0 ((nI 0), v229 q cc gc (fset (fset h 162 0 (.int (nI 0))) 162 51 (.int r)))).1) cc 0 (nI 0))), u12, u11], [.long (((v263_119 q cc gc (Ar ((v263_33 q cc gc r m m 0 ((nI 0), v229 q cc gc (fset (fset h 162 0 (.int (nI 0))) 162 51 (.int r)))).2) 171) r m ((v263_33 q cc gc r m m 0 ((nI 0), v229 q cc gc (fset (fset h 162 0 (.int (nI 0))) 162 51 (.int r)))).1) cc 0 (nI 0))).toInt64), .ref 162], v167 q cc gc (fset ((v263_33 q cc gc r m m 0 ((nI 0), v229 q cc gc (fset (fset h 162 0 (.int (nI 0))) 162 51 (.int r)))).2) 162 1 (.int (nI 0))) ((v270 q cc gc ((Ar ((v263_33 q cc gc r m m 0 ((nI 0), v229 q cc gc (fset (fset h 162 0 (.int (nI 0))) 162 51 (.int r)))).2) 171) 94)).toInt64), 198, sl) = some R := hh
    obtain ⟨n, fr1, lo1, r1, hh1, hh⟩ := rn_call (w := 0) (t := 167) rfl rfl hh
    obtain ⟨er19, hc20, hf21⟩ := v167_ok (v := (((v263_119 q cc gc (Ar ((v263_33 q cc gc r m m 0 ((nI 0), v229 q cc gc (fset (fset h 162 0 (.int (nI 0))) 162 51 (.int r)))).2) 171) r m ((v263_33 q cc gc r m m 0 ((nI 0), v229 q cc gc (fset (fset h 162 0 (.int (nI 0))) 162 51 (.int r)))).1) cc 0 (nI 0))).toInt64)) hc17 hh1
    subst er19
    obtain ⟨n, hh⟩ := rn_i rfl rfl rfl rfl hh
    have hh : pm_run PT n fr lo 263 (207, [some (.ref 162), some (.int r), some (.int (nI m)), some (.int ((v263_33 q cc gc r m m 0 ((nI 0), v229 q cc gc (fset (fset h 162 0 (.int (nI 0))) 162 51 (.int r)))).1)), some (.int (v263_119 q cc gc (Ar ((v263_33 q cc gc r m m 0 ((nI 0), v229 q cc gc (fset (fset h 162 0 (.int (nI 0))) 162 51 (.int r)))).2) 171) r m ((v263_33 q cc gc r m m 0 ((nI 0), v229 q cc gc (fset (fset h 162 0 (.int (nI 0))) 162 51 (.int r)))).1) cc 0 (nI 0))), u12, u11], [.int ((v263_33 q cc gc r m m 0 ((nI 0), v229 q cc gc (fset (fset h 162 0 (.int (nI 0))) 162 51 (.int r)))).1)], v167 q cc gc (v167 q cc gc (fset ((v263_33 q cc gc r m m 0 ((nI 0), v229 q cc gc (fset (fset h 162 0 (.int (nI 0))) 162 51 (.int r)))).2) 162 1 (.int (nI 0))) ((v270 q cc gc ((Ar ((v263_33 q cc gc r m m 0 ((nI 0), v229 q cc gc (fset (fset h 162 0 (.int (nI 0))) 162 51 (.int r)))).2) 171) 94)).toInt64)) (((v263_119 q cc gc (Ar ((v263_33 q cc gc r m m 0 ((nI 0), v229 q cc gc (fset (fset h 162 0 (.int (nI 0))) 162 51 (.int r)))).2) 171) r m ((v263_33 q cc gc r m m 0 ((nI 0), v229 q cc gc (fset (fset h 162 0 (.int (nI 0))) 162 51 (.int r)))).1) cc 0 (nI 0))).toInt64), 198, sl) = some R := hh
    have er22 : R = (some (.int ((v263_33 q cc gc r m m 0 ((nI 0), v229 q cc gc (fset (fset h 162 0 (.int (nI 0))) 162 51 (.int r)))).1)), v167 q cc gc (v167 q cc gc (fset ((v263_33 q cc gc r m m 0 ((nI 0), v229 q cc gc (fset (fset h 162 0 (.int (nI 0))) 162 51 (.int r)))).2) 162 1 (.int (nI 0))) ((v270 q cc gc ((Ar ((v263_33 q cc gc r m m 0 ((nI 0), v229 q cc gc (fset (fset h 162 0 (.int (nI 0))) 162 51 (.int r)))).2) 171) 94)).toInt64)) (((v263_119 q cc gc (Ar ((v263_33 q cc gc r m m 0 ((nI 0), v229 q cc gc (fset (fset h 162 0 (.int (nI 0))) 162 51 (.int r)))).2) 171) r m ((v263_33 q cc gc r m m 0 ((nI 0), v229 q cc gc (fset (fset h 162 0 (.int (nI 0))) 162 51 (.int r)))).1) cc 0 (nI 0))).toInt64), 198, sl) := (rn_ret rfl (Or.inl rfl) hh).2
    have ed : v263 q cc gc h r m = ((v263_33 q cc gc r m m 0 ((nI 0), v229 q cc gc (fset (fset h 162 0 (.int (nI 0))) 162 51 (.int r)))).1, v167 q cc gc (v167 q cc gc (fset ((v263_33 q cc gc r m m 0 ((nI 0), v229 q cc gc (fset (fset h 162 0 (.int (nI 0))) 162 51 (.int r)))).2) 162 1 (.int (nI 0))) ((v270 q cc gc ((Ar ((v263_33 q cc gc r m m 0 ((nI 0), v229 q cc gc (fset (fset h 162 0 (.int (nI 0))) 162 51 (.int r)))).2) 171) 94)).toInt64)) (((v263_119 q cc gc (Ar ((v263_33 q cc gc r m m 0 ((nI 0), v229 q cc gc (fset (fset h 162 0 (.int (nI 0))) 162 51 (.int r)))).2) 171) r m ((v263_33 q cc gc r m m 0 ((nI 0), v229 q cc gc (fset (fset h 162 0 (.int (nI 0))) 162 51 (.int r)))).1) cc 0 (nI 0))).toInt64)) := (ct z2).trans rfl
    refine ⟨?_, ?_, ?_⟩ <;> rw [ed]
    · exact er22
    · exact hc20
    · exact (fr_g rfl rfl hf21 (fr_g rfl rfl hf18 (fr_f rfl rfl (fr_g rfl rfl hf10 (fr_g rfl rfl hf5 (fr_f rfl rfl (fr_f rfl rfl fr_0)))))))
  | false =>
    have hh := en_f z2 hh
    have hh : pm_run PT n fr lo 263 (17, [some (.ref 162), some (.int r), some (.int (nI m)), none, none, none, none], [], fset h 162 0 (.int (nI 0)), 198, sl) = some R := hh
    obtain ⟨n, hh⟩ := rn_i rfl rfl rfl rfl hh
    have hh : pm_run PT n fr lo 263 (18, [some (.ref 162), some (.int r), some (.int (nI m)), none, none, none, none], [.int (Int32.ofInt (-1))], fset h 162 0 (.int (nI 0)), 198, sl) = some R := hh
    have er23 : R = (some (.int (Int32.ofInt (-1))), fset h 162 0 (.int (nI 0)), 198, sl) := (rn_ret rfl (Or.inl rfl) hh).2
    have ed : v263 q cc gc h r m = ((Int32.ofInt (-1)), fset h 162 0 (.int (nI 0))) := (cf z2).trans rfl
    refine ⟨?_, ?_, ?_⟩ <;> rw [ed]
    · exact er23
    · exact (hc_f rfl rfl (by decide) rfl hw)
    · exact (fr_f rfl rfl fr_0)
def v227_74b (q : QT) (cc gc : Nat) (h : pm_H) (m1 : Nat) (m2 : Nat) (m3 : Nat) (i : Nat) : pm_H := v219 q cc gc h
def v227_74 (q : QT) (cc gc : Nat) (m1 : Nat) (m2 : Nat) (m3 : Nat) (j i : Nat) (a : pm_H) : pm_H := lp (fun i a => v227_74b q cc gc a m1 m2 m3 i) j i a
theorem v227_74_e {kd a b : Nat} {n fr lo sl cc gc : Nat} {q : QT} {h : pm_H} {R : pm_Rs} {m1 : Nat} {m2 : Nat} {m3 : Nat} {i : Nat} (hw : HC q cc gc h) (h_m1 : m1 < 10000) (h_m2 : m2 < 10000) (h_m3 : m3 < 10000) (hkd : kd < 10) (ha : a < 10) (hb : b < 10) (hol : NA h 170 78 86 6) (hi : m2 ≤ i) (hI : i < 1000000) (hh : pm_run PT n fr lo 227 (74, [some (.ref 162), some (.int (nI m1)), some (.int (nI m2)), some (.int (nI m3)), some (.int (nI i))], [], h, 198, sl) = some R) : ∃ m, pm_run PT m fr lo 227 (94, [some (.ref 162), some (.int (nI m1)), some (.int (nI m2)), some (.int (nI m3)), some (.int (nI i))], [], h, 198, sl) = some R := by
  have hcc := hw.cb
  have hgc := hw.gb
  have hzr := hw.zr
  obtain ⟨n, hh⟩ := rn_i rfl rfl rfl rfl hh
  obtain ⟨n, hh⟩ := rn_i rfl rfl rfl rfl hh
  have hh : pm_run PT n fr lo 227 (77, [some (.ref 162), some (.int (nI m1)), some (.int (nI m2)), some (.int (nI m3)), some (.int (nI i))], [.int (nI m2), .int (nI i)], h, 198, sl) = some R := hh
  obtain ⟨n, hh⟩ := en_cn (cc := .ge) (off := 17) (t := 94) (b := decide (m2 ≤ i)) (hI_ge (by omega) (by omega)) rfl rfl hh
  have hh := en_t (show decide (m2 ≤ i) = true from decide_eq_true (by omega)) hh
  have hh : pm_run PT n fr lo 227 (94, [some (.ref 162), some (.int (nI m1)), some (.int (nI m2)), some (.int (nI m3)), some (.int (nI i))], [], h, 198, sl) = some R := hh
  exact ⟨n, hh⟩
theorem v227_74_s {kd a b : Nat} {n fr lo sl cc gc : Nat} {q : QT} {h : pm_H} {R : pm_Rs} {m1 : Nat} {m2 : Nat} {m3 : Nat} {i : Nat} (hw : HC q cc gc h) (h_m1 : m1 < 10000) (h_m2 : m2 < 10000) (h_m3 : m3 < 10000) (hkd : kd < 10) (ha : a < 10) (hb : b < 10) (hol : NA h 170 78 86 6) (hi : i < m2) (hI : i < 1000000) (hh : pm_run PT n fr lo 227 (74, [some (.ref 162), some (.int (nI m1)), some (.int (nI m2)), some (.int (nI m3)), some (.int (nI i))], [], h, 198, sl) = some R) : ∃ m, HC q cc gc ((v227_74b q cc gc h m1 m2 m3 i)) ∧ frm [170] [] h ((v227_74b q cc gc h m1 m2 m3 i)) ∧ NA ((v227_74b q cc gc h m1 m2 m3 i)) 170 78 86 6 ∧ pm_run PT m fr lo 227 (74, [some (.ref 162), some (.int (nI m1)), some (.int (nI m2)), some (.int (nI m3)), some (.int (nI (i + 1)))], [], (v227_74b q cc gc h m1 m2 m3 i), 198, sl) = some R := by
  have hcc := hw.cb
  have hgc := hw.gb
  have hzr := hw.zr
  obtain ⟨n, hh⟩ := rn_i rfl rfl rfl rfl hh
  obtain ⟨n, hh⟩ := rn_i rfl rfl rfl rfl hh
  have hh : pm_run PT n fr lo 227 (77, [some (.ref 162), some (.int (nI m1)), some (.int (nI m2)), some (.int (nI m3)), some (.int (nI i))], [.int (nI m2), .int (nI i)], h, 198, sl) = some R := hh
  obtain ⟨n, hh⟩ := en_cn (cc := .ge) (off := 17) (t := 94) (b := decide (m2 ≤ i)) (hI_ge (by omega) (by omega)) rfl rfl hh
  have hh := en_f (show decide (m2 ≤ i) = false from decide_eq_false (by omega)) hh
  have hh : pm_run PT n fr lo 227 (80, [some (.ref 162), some (.int (nI m1)), some (.int (nI m2)), some (.int (nI m3)), some (.int (nI i))], [], h, 198, sl) = some R := hh
  obtain ⟨n, hh⟩ := rn_i rfl rfl rfl rfl hh
  obtain ⟨n, hh⟩ := rn_i rfl rfl rfl rfl hh
  have hh : pm_run PT n fr lo 227 (82, [some (.ref 162), some (.int (nI m1)), some (.int (nI m2)), some (.int (nI m3)), some (.int (nI i))], [.ref 162, .ref 162], h, 198, sl) = some R := hh
  obtain ⟨n, hh⟩ := rn_gr hw.wt rfl rfl (by decide) rfl (by decide) (show _ = some (2, ((170 : Nat) : Int), 1) from rfl) rfl hh
  have hh : pm_run PT n fr lo 227 (85, [some (.ref 162), some (.int (nI m1)), some (.int (nI m2)), some (.int (nI m3)), some (.int (nI i))], [.ref 170, .ref 162], h, 198, sl) = some R := hh
  obtain ⟨n, fr1, lo1, r1, hh1, hh⟩ := rn_call (w := 0) (t := 219) rfl rfl hh
  obtain ⟨er15, hc16, hf17⟩ := v219_ok hw hh1
  subst er15
  have hh : pm_run PT n fr lo 227 (88, [some (.ref 162), some (.int (nI m1)), some (.int (nI m2)), some (.int (nI m3)), some (.int (nI i))], [], v219 q cc gc h, 198, sl) = some R := hh
  obtain ⟨n, hh⟩ := en_inc (x := i) (c := 1) (j := 4) rfl rfl (by decide) hh
  have hh : pm_run PT n fr lo 227 (91, [some (.ref 162), some (.int (nI m1)), some (.int (nI m2)), some (.int (nI m3)), some (.int (nI (i + 1)))], [], v219 q cc gc h, 198, sl) = some R := hh
  obtain ⟨n, hh⟩ := rn_i rfl rfl rfl rfl hh
  have ed : v227_74b q cc gc h m1 m2 m3 i = v219 q cc gc h := rfl
  rw [ed]
  exact ⟨n, hc16, (fr_g rfl rfl hf17 fr_0), (v219_na hw hol), hh⟩
theorem v227_74_ok {kd a b : Nat} {fr lo sl cc gc : Nat} {q : QT} {R : pm_Rs} {m1 : Nat} {m2 : Nat} {m3 : Nat} : ∀ {j i : Nat} {h : pm_H} {n : Nat}, m2 - i = j → i + j < 1000000 → HC q cc gc h → m1 < 10000 → m2 < 10000 → m3 < 10000 → kd < 10 → a < 10 → b < 10 → NA h 170 78 86 6 → pm_run PT n fr lo 227 (74, [some (.ref 162), some (.int (nI m1)), some (.int (nI m2)), some (.int (nI m3)), some (.int (nI i))], [], h, 198, sl) = some R → ∃ m wc, HC q cc gc ((v227_74 q cc gc m1 m2 m3 j i h)) ∧ frm [170] [] h ((v227_74 q cc gc m1 m2 m3 j i h)) ∧ NA ((v227_74 q cc gc m1 m2 m3 j i h)) 170 78 86 6 ∧ pm_run PT m fr lo 227 (94, [some (.ref 162), some (.int (nI m1)), some (.int (nI m2)), some (.int (nI m3)), wc], [], (v227_74 q cc gc m1 m2 m3 j i h), 198, sl) = some R := by
  intro j
  induction j with
  | zero =>
    intro i h n e eI hw h_m1 h_m2 h_m3 hkd ha hb hol hh
    obtain ⟨n, hh⟩ := v227_74_e hw h_m1 h_m2 h_m3 hkd ha hb hol (by omega) (by omega) hh
    exact ⟨n, _, hw, fr_0, hol, hh⟩
  | succ j ih =>
    intro i h n e eI hw h_m1 h_m2 h_m3 hkd ha hb hol hh
    obtain ⟨n, hc, hf, hol', hh⟩ := v227_74_s hw h_m1 h_m2 h_m3 hkd ha hb hol (by omega) (by omega) hh
    obtain ⟨n, wc, hc2, hf2, hol'', hh⟩ := ih (by omega) (by omega) hc h_m1 h_m2 h_m3 hkd ha hb hol' hh
    exact ⟨n, wc, hc2, fr_t hf2 hf, hol'', hh⟩
theorem v227_74_fb {kd a b : Nat} {cc gc : Nat} {q : QT} {h : pm_H} {m1 : Nat} {m2 : Nat} {m3 : Nat} {i : Nat} (hw : HC q cc gc h) (hkd : kd < 10) (ha : a < 10) (hb : b < 10) : HC q cc gc ((v227_74b q cc gc h m1 m2 m3 i)) ∧ frm [170] [] h ((v227_74b q cc gc h m1 m2 m3 i)) := by
  unfold v227_74b
  show HC q cc gc (v219 q cc gc h) ∧ frm [170] [] h (v219 q cc gc h)
  exact ⟨(v219_fr hw).1, (fr_g rfl rfl (v219_fr hw).2 fr_0)⟩
theorem v227_74_fr {kd a b : Nat} {cc gc : Nat} {q : QT} {m1 : Nat} {m2 : Nat} {m3 : Nat} (hkd : kd < 10) (ha : a < 10) (hb : b < 10) : ∀ {j i : Nat} {h : pm_H}, HC q cc gc h → HC q cc gc ((v227_74 q cc gc m1 m2 m3 j i h)) ∧ frm [170] [] h ((v227_74 q cc gc m1 m2 m3 j i h)) := by
  intro j
  induction j with
  | zero =>
    intro i h hw
    exact ⟨hw, fr_0⟩
  | succ j ih =>
    intro i h hw
    obtain ⟨a1, a2⟩ := v227_74_fb (i := i) (m1 := m1) (m2 := m2) (m3 := m3) hw hkd ha hb
    obtain ⟨b1, b2⟩ := ih (i := i + 1) a1
    exact ⟨b1, fr_t b2 a2⟩
def v227 (q : QT) (cc gc : Nat) (h : pm_H) (k : Nat) (kd : Nat) (a : Nat) (b : Nat) : Bool × pm_H := cond (decide (kd = 0)) (cond (pm_cmp .lt ((v217 q cc gc h a b).1) 0) false true, (v217 q cc gc h a b).2) (cond (decide (kd = 1)) (true, (v227_74 q cc gc k a b a 0 h)) (cond (decide (kd = 2)) (cond (pm_cmp .lt ((v221 q cc gc h a b).1) 0) false true, (v221 q cc gc h a b).2) (cond (decide (kd = 3)) (cond (pm_cmp .lt ((v220 q cc gc h a b ((Ar h 182) k)).1) 0) false true, (v220 q cc gc h a b ((Ar h 182) k)).2) (cond (pm_cmp .lt ((v220 q cc gc h a b (-((Ar h 182) k))).1) 0) false true, (v220 q cc gc h a b (-((Ar h 182) k))).2))))
theorem v227_ok {n fr lo sl cc gc : Nat} {q : QT} {h : pm_H} {R : pm_Rs} {k : Nat} {kd : Nat} {a : Nat} {b : Nat} (hw : HC q cc gc h) (h_k : k < 10000) (hk1 : Ar h 179 k = nI kd) (hk2 : Ar h 180 k = nI a) (hk3 : Ar h 181 k = nI b) (hkd : kd < 10) (ha : a < 10) (hb : b < 10) (hol : NA h 170 78 86 6) (hh : pm_run PT n fr lo 227 (0, pm_l0 [.ref 162, .int (nI k)] 5, [], h, 198, sl) = some R) : R = (some (.int (cond (v227 q cc gc h k kd a b).1 1 0)), (v227 q cc gc h k kd a b).2, 198, sl) ∧ HC q cc gc ((v227 q cc gc h k kd a b).2) ∧ frm [162, 170, 176, 177] [(162, 29), (162, 30)] h ((v227 q cc gc h k kd a b).2) := by
  have hcc := hw.cb
  have hgc := hw.gb
  have hzr := hw.zr
  obtain ⟨n, hh⟩ := rn_i rfl rfl rfl rfl hh
  have hh : pm_run PT n fr lo 227 (1, [some (.ref 162), some (.int (nI k)), none, none, none], [.ref 162], h, 198, sl) = some R := hh
  obtain ⟨n, hh⟩ := rn_gr hw.wt rfl rfl (by decide) rfl (by decide) (show _ = some (2, ((180 : Nat) : Int), 1) from rfl) rfl hh
  obtain ⟨n, hh⟩ := rn_i rfl rfl rfl rfl hh
  have hh : pm_run PT n fr lo 227 (5, [some (.ref 162), some (.int (nI k)), none, none, none], [.int (nI k), .ref 180], h, 198, sl) = some R := hh
  obtain ⟨n, hx1, hh⟩ := en_lu (t := k) (f := Ar h 180) (w := nI a) (nI_clamp (by omega)) hw.wt rfl (by decide) rfl (by decide) rfl (fun _ => hk2) hh
  obtain ⟨n, hh⟩ := rn_i rfl rfl rfl rfl hh
  obtain ⟨n, hh⟩ := rn_i rfl rfl rfl rfl hh
  have hh : pm_run PT n fr lo 227 (8, [some (.ref 162), some (.int (nI k)), some (.int (nI a)), none, none], [.ref 162], h, 198, sl) = some R := hh
  obtain ⟨n, hh⟩ := rn_gr hw.wt rfl rfl (by decide) rfl (by decide) (show _ = some (2, ((181 : Nat) : Int), 1) from rfl) rfl hh
  obtain ⟨n, hh⟩ := rn_i rfl rfl rfl rfl hh
  have hh : pm_run PT n fr lo 227 (12, [some (.ref 162), some (.int (nI k)), some (.int (nI a)), none, none], [.int (nI k), .ref 181], h, 198, sl) = some R := hh
  obtain ⟨n, hx2, hh⟩ := en_lu (t := k) (f := Ar h 181) (w := nI b) (nI_clamp (by omega)) hw.wt rfl (by decide) rfl (by decide) rfl (fun _ => hk3) hh
  obtain ⟨n, hh⟩ := rn_i rfl rfl rfl rfl hh
  obtain ⟨n, hh⟩ := rn_i rfl rfl rfl rfl hh
  have hh : pm_run PT n fr lo 227 (15, [some (.ref 162), some (.int (nI k)), some (.int (nI a)), some (.int (nI b)), none], [.ref 162], h, 198, sl) = some R := hh
  obtain ⟨n, hh⟩ := rn_gr hw.wt rfl rfl (by decide) rfl (by decide) (show _ = some (2, ((179 : Nat) : Int), 1) from rfl) rfl hh
  obtain ⟨n, hh⟩ := rn_i rfl rfl rfl rfl hh
  have hh : pm_run PT n fr lo 227 (19, [some (.ref 162), some (.int (nI k)), some (.int (nI a)), some (.int (nI b)), none], [.int (nI k), .ref 179], h, 198, sl) = some R := hh
  obtain ⟨n, hx3, hh⟩ := en_lu (t := k) (f := Ar h 179) (w := nI kd) (nI_clamp (by omega)) hw.wt rfl (by decide) rfl (by decide) rfl (fun _ => hk1) hh
  have hh : pm_run PT n fr lo 227 (20, [some (.ref 162), some (.int (nI k)), some (.int (nI a)), some (.int (nI b)), none], [.int (nI kd)], h, 198, sl) = some R := hh
  cases z4 : decide (kd = 0) with
  | true =>
    obtain ⟨n, hh⟩ := en_tsc (c := 0) (t := 52) rfl (en_nc (by omega) z4) (by decide) rfl rfl hh
    have hh : pm_run PT n fr lo 227 (52, [some (.ref 162), some (.int (nI k)), some (.int (nI a)), some (.int (nI b)), none], [], h, 198, sl) = some R := hh
    have y5 := of_decide_eq_true z4
    obtain ⟨n, hh⟩ := rn_i rfl rfl rfl rfl hh
    obtain ⟨n, hh⟩ := rn_i rfl rfl rfl rfl hh
    have hh : pm_run PT n fr lo 227 (54, [some (.ref 162), some (.int (nI k)), some (.int (nI a)), some (.int (nI b)), none], [.ref 162, .ref 162], h, 198, sl) = some R := hh
    obtain ⟨n, hh⟩ := rn_gr hw.wt rfl rfl (by decide) rfl (by decide) (show _ = some (2, ((170 : Nat) : Int), 1) from rfl) rfl hh
    obtain ⟨n, hh⟩ := rn_i rfl rfl rfl rfl hh
    obtain ⟨n, hh⟩ := rn_i rfl rfl rfl rfl hh
    have hh : pm_run PT n fr lo 227 (59, [some (.ref 162), some (.int (nI k)), some (.int (nI a)), some (.int (nI b)), none], [.int (nI b), .int (nI a), .ref 170, .ref 162], h, 198, sl) = some R := hh
    obtain ⟨n, fr1, lo1, r1, hh1, hh⟩ := rn_call (w := 0) (t := 217) rfl rfl hh
    obtain ⟨er6, hc7, hf8⟩ := v217_ok (g := a) (c := b) hw (by omega) (by omega) hol hh1
    subst er6
    have hh : pm_run PT n fr lo 227 (62, [some (.ref 162), some (.int (nI k)), some (.int (nI a)), some (.int (nI b)), none], [.int ((v217 q cc gc h a b).1)], (v217 q cc gc h a b).2, 198, sl) = some R := hh
    obtain ⟨n, hh⟩ := en_zn (cc := .lt) (off := 7) (t := 69) (b := pm_cmp .lt ((v217 q cc gc h a b).1) 0) rfl rfl rfl hh
    have hj10 : ∃ mJ, pm_run PT mJ fr lo 227 (cond (pm_cmp .lt ((v217 q cc gc h a b).1) 0) (70, [some (.ref 162), some (.int (nI k)), some (.int (nI a)), some (.int (nI b)), none], [.int (nI 0)], (v217 q cc gc h a b).2, 198, sl) (70, [some (.ref 162), some (.int (nI k)), some (.int (nI a)), some (.int (nI b)), none], [.int (nI 1)], (v217 q cc gc h a b).2, 198, sl)) = some R := en_J (fun z9 => by
        have hh := en_t z9 hh
        have hh : pm_run PT n fr lo 227 (69, [some (.ref 162), some (.int (nI k)), some (.int (nI a)), some (.int (nI b)), none], [], (v217 q cc gc h a b).2, 198, sl) = some R := hh
        obtain ⟨n, hh⟩ := rn_i rfl rfl rfl rfl hh
        exact ⟨n, hh⟩) (fun z9 => by
        have hh := en_f z9 hh
        have hh : pm_run PT n fr lo 227 (65, [some (.ref 162), some (.int (nI k)), some (.int (nI a)), some (.int (nI b)), none], [], (v217 q cc gc h a b).2, 198, sl) = some R := hh
        obtain ⟨n, hh⟩ := rn_i rfl rfl rfl rfl hh
        obtain ⟨n, hh⟩ := rn_i rfl rfl rfl rfl hh
        exact ⟨n, hh⟩)
    obtain ⟨n, hh⟩ := hj10
    rw [show (cond (pm_cmp .lt ((v217 q cc gc h a b).1) 0) (70, [some (.ref 162), some (.int (nI k)), some (.int (nI a)), some (.int (nI b)), none], [.int (nI 0)], (v217 q cc gc h a b).2, 198, sl) (70, [some (.ref 162), some (.int (nI k)), some (.int (nI a)), some (.int (nI b)), none], [.int (nI 1)], (v217 q cc gc h a b).2, 198, sl) : pm_St) = (70, [some (.ref 162), some (.int (nI k)), some (.int (nI a)), some (.int (nI b)), none], [.int (cond (cond (pm_cmp .lt ((v217 q cc gc h a b).1) 0) false true) 1 0)], (v217 q cc gc h a b).2, 198, sl) from by cases (pm_cmp .lt ((v217 q cc gc h a b).1) 0) <;> rfl] at hh
    have hh : pm_run PT n fr lo 227 (70, [some (.ref 162), some (.int (nI k)), some (.int (nI a)), some (.int (nI b)), none], [.int (cond (cond (pm_cmp .lt ((v217 q cc gc h a b).1) 0) false true) 1 0)], (v217 q cc gc h a b).2, 198, sl) = some R := hh
    have er11 : R = (some (.int (cond (cond (pm_cmp .lt ((v217 q cc gc h a b).1) 0) false true) 1 0)), (v217 q cc gc h a b).2, 198, sl) := (rn_ret rfl (Or.inr rfl) hh).2
    have ed : v227 q cc gc h k kd a b = (cond (pm_cmp .lt ((v217 q cc gc h a b).1) 0) false true, (v217 q cc gc h a b).2) := (ct z4).trans rfl
    refine ⟨?_, ?_, ?_⟩ <;> rw [ed]
    · exact er11
    · exact hc7
    · exact (fr_g rfl rfl hf8 fr_0)
  | false =>
    have y12 := of_decide_eq_false z4
    cases z13 : decide (kd = 1) with
    | true =>
      obtain ⟨n, hh⟩ := en_tsc (c := 1) (t := 71) rfl (en_nc (by omega) z13) (by decide) rfl rfl hh
      have hh : pm_run PT n fr lo 227 (71, [some (.ref 162), some (.int (nI k)), some (.int (nI a)), some (.int (nI b)), none], [], h, 198, sl) = some R := hh
      have y14 := of_decide_eq_true z13
      obtain ⟨n, hh⟩ := rn_i rfl rfl rfl rfl hh
      obtain ⟨n, hh⟩ := rn_i rfl rfl rfl rfl hh
      have hh : pm_run PT n fr lo 227 (74, [some (.ref 162), some (.int (nI k)), some (.int (nI a)), some (.int (nI b)), some (.int (nI 0))], [], h, 198, sl) = some R := hh
      obtain ⟨n, u15, hc17, hf18, hn16, hh⟩ := v227_74_ok (m1 := k) (m2 := a) (m3 := b)  (i := 0) (j := a) (by omega) (by omega) hw (by omega) (by omega) (by omega) hkd ha hb hol hh
      have hh : pm_run PT n fr lo 227 (94, [some (.ref 162), some (.int (nI k)), some (.int (nI a)), some (.int (nI b)), u15], [], (v227_74 q cc gc k a b a 0 h), 198, sl) = some R := hh
      obtain ⟨n, hh⟩ := rn_i rfl rfl rfl rfl hh
      have hh : pm_run PT n fr lo 227 (95, [some (.ref 162), some (.int (nI k)), some (.int (nI a)), some (.int (nI b)), u15], [.int (nI 1)], (v227_74 q cc gc k a b a 0 h), 198, sl) = some R := hh
      have er19 : R = (some (.int (nI 1)), (v227_74 q cc gc k a b a 0 h), 198, sl) := (rn_ret rfl (Or.inr rfl) hh).2
      have ed : v227 q cc gc h k kd a b = (true, (v227_74 q cc gc k a b a 0 h)) := (cf z4).trans ((ct z13).trans rfl)
      refine ⟨?_, ?_, ?_⟩ <;> rw [ed]
      · exact er19
      · exact hc17
      · exact (fr_g rfl rfl hf18 fr_0)
    | false =>
      have y20 := of_decide_eq_false z13
      cases z21 : decide (kd = 2) with
      | true =>
        obtain ⟨n, hh⟩ := en_tsc (c := 2) (t := 96) rfl (en_nc (by omega) z21) (by decide) rfl rfl hh
        have hh : pm_run PT n fr lo 227 (96, [some (.ref 162), some (.int (nI k)), some (.int (nI a)), some (.int (nI b)), none], [], h, 198, sl) = some R := hh
        have y22 := of_decide_eq_true z21
        obtain ⟨n, hh⟩ := rn_i rfl rfl rfl rfl hh
        obtain ⟨n, hh⟩ := rn_i rfl rfl rfl rfl hh
        obtain ⟨n, hh⟩ := rn_i rfl rfl rfl rfl hh
        have hh : pm_run PT n fr lo 227 (99, [some (.ref 162), some (.int (nI k)), some (.int (nI a)), some (.int (nI b)), none], [.int (nI b), .int (nI a), .ref 162], h, 198, sl) = some R := hh
        obtain ⟨n, fr1, lo1, r1, hh1, hh⟩ := rn_call (w := 0) (t := 221) rfl rfl hh
        obtain ⟨er23, hc24, hf25⟩ := v221_ok (a := a) (b := b) hw (by omega) (by omega) hh1
        subst er23
        have hh : pm_run PT n fr lo 227 (102, [some (.ref 162), some (.int (nI k)), some (.int (nI a)), some (.int (nI b)), none], [.int ((v221 q cc gc h a b).1)], (v221 q cc gc h a b).2, 198, sl) = some R := hh
        obtain ⟨n, hh⟩ := en_zn (cc := .lt) (off := 7) (t := 109) (b := pm_cmp .lt ((v221 q cc gc h a b).1) 0) rfl rfl rfl hh
        have hj27 : ∃ mJ, pm_run PT mJ fr lo 227 (cond (pm_cmp .lt ((v221 q cc gc h a b).1) 0) (110, [some (.ref 162), some (.int (nI k)), some (.int (nI a)), some (.int (nI b)), none], [.int (nI 0)], (v221 q cc gc h a b).2, 198, sl) (110, [some (.ref 162), some (.int (nI k)), some (.int (nI a)), some (.int (nI b)), none], [.int (nI 1)], (v221 q cc gc h a b).2, 198, sl)) = some R := en_J (fun z26 => by
            have hh := en_t z26 hh
            have hh : pm_run PT n fr lo 227 (109, [some (.ref 162), some (.int (nI k)), some (.int (nI a)), some (.int (nI b)), none], [], (v221 q cc gc h a b).2, 198, sl) = some R := hh
            obtain ⟨n, hh⟩ := rn_i rfl rfl rfl rfl hh
            exact ⟨n, hh⟩) (fun z26 => by
            have hh := en_f z26 hh
            have hh : pm_run PT n fr lo 227 (105, [some (.ref 162), some (.int (nI k)), some (.int (nI a)), some (.int (nI b)), none], [], (v221 q cc gc h a b).2, 198, sl) = some R := hh
            obtain ⟨n, hh⟩ := rn_i rfl rfl rfl rfl hh
            obtain ⟨n, hh⟩ := rn_i rfl rfl rfl rfl hh
            exact ⟨n, hh⟩)
        obtain ⟨n, hh⟩ := hj27
        rw [show (cond (pm_cmp .lt ((v221 q cc gc h a b).1) 0) (110, [some (.ref 162), some (.int (nI k)), some (.int (nI a)), some (.int (nI b)), none], [.int (nI 0)], (v221 q cc gc h a b).2, 198, sl) (110, [some (.ref 162), some (.int (nI k)), some (.int (nI a)), some (.int (nI b)), none], [.int (nI 1)], (v221 q cc gc h a b).2, 198, sl) : pm_St) = (110, [some (.ref 162), some (.int (nI k)), some (.int (nI a)), some (.int (nI b)), none], [.int (cond (cond (pm_cmp .lt ((v221 q cc gc h a b).1) 0) false true) 1 0)], (v221 q cc gc h a b).2, 198, sl) from by cases (pm_cmp .lt ((v221 q cc gc h a b).1) 0) <;> rfl] at hh
        have hh : pm_run PT n fr lo 227 (110, [some (.ref 162), some (.int (nI k)), some (.int (nI a)), some (.int (nI b)), none], [.int (cond (cond (pm_cmp .lt ((v221 q cc gc h a b).1) 0) false true) 1 0)], (v221 q cc gc h a b).2, 198, sl) = some R := hh
        have er28 : R = (some (.int (cond (cond (pm_cmp .lt ((v221 q cc gc h a b).1) 0) false true) 1 0)), (v221 q cc gc h a b).2, 198, sl) := (rn_ret rfl (Or.inr rfl) hh).2
        have ed : v227 q cc gc h k kd a b = (cond (pm_cmp .lt ((v221 q cc gc h a b).1) 0) false true, (v221 q cc gc h a b).2) := (cf z4).trans ((cf z13).trans ((ct z21).trans rfl))
        refine ⟨?_, ?_, ?_⟩ <;> rw [ed]
        · exact er28
        · exact hc24
        · exact (fr_g rfl rfl hf25 fr_0)
      | false =>
        have y29 := of_decide_eq_false z21
        cases z30 : decide (kd = 3) with
        | true =>
          obtain ⟨n, hh⟩ := en_tsc (c := 3) (t := 111) rfl (en_nc (by omega) z30) (by decide) rfl rfl hh
          have hh : pm_run PT n fr lo 227 (111, [some (.ref 162), some (.int (nI k)), some (.int (nI a)), some (.int (nI b)), none], [], h, 198, sl) = some R := hh
          have y31 := of_decide_eq_true z30
          obtain ⟨n, hh⟩ := rn_i rfl rfl rfl rfl hh
          obtain ⟨n, hh⟩ := rn_i rfl rfl rfl rfl hh
          obtain ⟨n, hh⟩ := rn_i rfl rfl rfl rfl hh
          obtain ⟨n, hh⟩ := rn_i rfl rfl rfl rfl hh
          have hh : pm_run PT n fr lo 227 (115, [some (.ref 162), some (.int (nI k)), some (.int (nI a)), some (.int (nI b)), none], [.ref 162, .int (nI b), .int (nI a), .ref 162], h, 198, sl) = some R := hh
          obtain ⟨n, hh⟩ := rn_gr hw.wt rfl rfl (by decide) rfl (by decide) (show _ = some (2, ((182 : Nat) : Int), 1) from rfl) rfl hh
          obtain ⟨n, hh⟩ := rn_i rfl rfl rfl rfl hh
          have hh : pm_run PT n fr lo 227 (119, [some (.ref 162), some (.int (nI k)), some (.int (nI a)), some (.int (nI b)), none], [.int (nI k), .ref 182, .int (nI b), .int (nI a), .ref 162], h, 198, sl) = some R := hh
          obtain ⟨n, hx32, hh⟩ := en_lu (t := k) (f := Ar h 182) (w := (Ar h 182) k) (nI_clamp (by omega)) hw.wt rfl (by decide) rfl (by decide) rfl (fun _ => rfl) hh
          have hh : pm_run PT n fr lo 227 (120, [some (.ref 162), some (.int (nI k)), some (.int (nI a)), some (.int (nI b)), none], [.int ((Ar h 182) k), .int (nI b), .int (nI a), .ref 162], h, 198, sl) = some R := hh
          obtain ⟨n, fr1, lo1, r1, hh1, hh⟩ := rn_call (w := 0) (t := 220) rfl rfl hh
          obtain ⟨er33, hc34, hf35⟩ := v220_ok (a := a) (b := b) (m := ((Ar h 182) k)) hw (by omega) (by omega) hh1
          subst er33
          have hh : pm_run PT n fr lo 227 (123, [some (.ref 162), some (.int (nI k)), some (.int (nI a)), some (.int (nI b)), none], [.int ((v220 q cc gc h a b ((Ar h 182) k)).1)], (v220 q cc gc h a b ((Ar h 182) k)).2, 198, sl) = some R := hh
          obtain ⟨n, hh⟩ := en_zn (cc := .lt) (off := 7) (t := 130) (b := pm_cmp .lt ((v220 q cc gc h a b ((Ar h 182) k)).1) 0) rfl rfl rfl hh
          have hj37 : ∃ mJ, pm_run PT mJ fr lo 227 (cond (pm_cmp .lt ((v220 q cc gc h a b ((Ar h 182) k)).1) 0) (131, [some (.ref 162), some (.int (nI k)), some (.int (nI a)), some (.int (nI b)), none], [.int (nI 0)], (v220 q cc gc h a b ((Ar h 182) k)).2, 198, sl) (131, [some (.ref 162), some (.int (nI k)), some (.int (nI a)), some (.int (nI b)), none], [.int (nI 1)], (v220 q cc gc h a b ((Ar h 182) k)).2, 198, sl)) = some R := en_J (fun z36 => by
              have hh := en_t z36 hh
              have hh : pm_run PT n fr lo 227 (130, [some (.ref 162), some (.int (nI k)), some (.int (nI a)), some (.int (nI b)), none], [], (v220 q cc gc h a b ((Ar h 182) k)).2, 198, sl) = some R := hh
              obtain ⟨n, hh⟩ := rn_i rfl rfl rfl rfl hh
              exact ⟨n, hh⟩) (fun z36 => by
              have hh := en_f z36 hh
              have hh : pm_run PT n fr lo 227 (126, [some (.ref 162), some (.int (nI k)), some (.int (nI a)), some (.int (nI b)), none], [], (v220 q cc gc h a b ((Ar h 182) k)).2, 198, sl) = some R := hh
              obtain ⟨n, hh⟩ := rn_i rfl rfl rfl rfl hh
              obtain ⟨n, hh⟩ := rn_i rfl rfl rfl rfl hh
              exact ⟨n, hh⟩)
          obtain ⟨n, hh⟩ := hj37
          rw [show (cond (pm_cmp .lt ((v220 q cc gc h a b ((Ar h 182) k)).1) 0) (131, [some (.ref 162), some (.int (nI k)), some (.int (nI a)), some (.int (nI b)), none], [.int (nI 0)], (v220 q cc gc h a b ((Ar h 182) k)).2, 198, sl) (131, [some (.ref 162), some (.int (nI k)), some (.int (nI a)), some (.int (nI b)), none], [.int (nI 1)], (v220 q cc gc h a b ((Ar h 182) k)).2, 198, sl) : pm_St) = (131, [some (.ref 162), some (.int (nI k)), some (.int (nI a)), some (.int (nI b)), none], [.int (cond (cond (pm_cmp .lt ((v220 q cc gc h a b ((Ar h 182) k)).1) 0) false true) 1 0)], (v220 q cc gc h a b ((Ar h 182) k)).2, 198, sl) from by cases (pm_cmp .lt ((v220 q cc gc h a b ((Ar h 182) k)).1) 0) <;> rfl] at hh
          have hh : pm_run PT n fr lo 227 (131, [some (.ref 162), some (.int (nI k)), some (.int (nI a)), some (.int (nI b)), none], [.int (cond (cond (pm_cmp .lt ((v220 q cc gc h a b ((Ar h 182) k)).1) 0) false true) 1 0)], (v220 q cc gc h a b ((Ar h 182) k)).2, 198, sl) = some R := hh
          have er38 : R = (some (.int (cond (cond (pm_cmp .lt ((v220 q cc gc h a b ((Ar h 182) k)).1) 0) false true) 1 0)), (v220 q cc gc h a b ((Ar h 182) k)).2, 198, sl) := (rn_ret rfl (Or.inr rfl) hh).2
          have ed : v227 q cc gc h k kd a b = (cond (pm_cmp .lt ((v220 q cc gc h a b ((Ar h 182) k)).1) 0) false true, (v220 q cc gc h a b ((Ar h 182) k)).2) := (cf z4).trans ((cf z13).trans ((cf z21).trans ((ct z30).trans rfl)))
          refine ⟨?_, ?_, ?_⟩ <;> rw [ed]
          · exact er38
          · exact hc34
          · exact (fr_g rfl rfl hf35 fr_0)
        | false =>
          have y39 := of_decide_eq_false z30
          obtain ⟨n, hh⟩ := en_tsd (t := 132) [0, 1, 2, 3] rfl (by decide) (by decide) (en_l1 (en_nn (by omega) z4) (en_l1 (en_nn (by omega) z13) (en_l1 (en_nn (by omega) z21) (en_l1 (en_nn (by omega) z30) en_l0)))) rfl hh
          have hh : pm_run PT n fr lo 227 (132, [some (.ref 162), some (.int (nI k)), some (.int (nI a)), some (.int (nI b)), none], [], h, 198, sl) = some R := hh
          obtain ⟨n, hh⟩ := rn_i rfl rfl rfl rfl hh
          obtain ⟨n, hh⟩ := rn_i rfl rfl rfl rfl hh
          obtain ⟨n, hh⟩ := rn_i rfl rfl rfl rfl hh
          obtain ⟨n, hh⟩ := rn_i rfl rfl rfl rfl hh
          have hh : pm_run PT n fr lo 227 (136, [some (.ref 162), some (.int (nI k)), some (.int (nI a)), some (.int (nI b)), none], [.ref 162, .int (nI b), .int (nI a), .ref 162], h, 198, sl) = some R := hh
          obtain ⟨n, hh⟩ := rn_gr hw.wt rfl rfl (by decide) rfl (by decide) (show _ = some (2, ((182 : Nat) : Int), 1) from rfl) rfl hh
          obtain ⟨n, hh⟩ := rn_i rfl rfl rfl rfl hh
          have hh : pm_run PT n fr lo 227 (140, [some (.ref 162), some (.int (nI k)), some (.int (nI a)), some (.int (nI b)), none], [.int (nI k), .ref 182, .int (nI b), .int (nI a), .ref 162], h, 198, sl) = some R := hh
          obtain ⟨n, hx40, hh⟩ := en_lu (t := k) (f := Ar h 182) (w := (Ar h 182) k) (nI_clamp (by omega)) hw.wt rfl (by decide) rfl (by decide) rfl (fun _ => rfl) hh
          obtain ⟨n, hh⟩ := rn_i rfl rfl rfl rfl hh
          have hh : pm_run PT n fr lo 227 (142, [some (.ref 162), some (.int (nI k)), some (.int (nI a)), some (.int (nI b)), none], [.int (-((Ar h 182) k)), .int (nI b), .int (nI a), .ref 162], h, 198, sl) = some R := hh
          obtain ⟨n, fr1, lo1, r1, hh1, hh⟩ := rn_call (w := 0) (t := 220) rfl rfl hh
          obtain ⟨er41, hc42, hf43⟩ := v220_ok (a := a) (b := b) (m := (-((Ar h 182) k))) hw (by omega) (by omega) hh1
          subst er41
          have hh : pm_run PT n fr lo 227 (145, [some (.ref 162), some (.int (nI k)), some (.int (nI a)), some (.int (nI b)), none], [.int ((v220 q cc gc h a b (-((Ar h 182) k))).1)], (v220 q cc gc h a b (-((Ar h 182) k))).2, 198, sl) = some R := hh
          obtain ⟨n, hh⟩ := en_zn (cc := .lt) (off := 7) (t := 152) (b := pm_cmp .lt ((v220 q cc gc h a b (-((Ar h 182) k))).1) 0) rfl rfl rfl hh
          have hj45 : ∃ mJ, pm_run PT mJ fr lo 227 (cond (pm_cmp .lt ((v220 q cc gc h a b (-((Ar h 182) k))).1) 0) (153, [some (.ref 162), some (.int (nI k)), some (.int (nI a)), some (.int (nI b)), none], [.int (nI 0)], (v220 q cc gc h a b (-((Ar h 182) k))).2, 198, sl) (153, [some (.ref 162), some (.int (nI k)), some (.int (nI a)), some (.int (nI b)), none], [.int (nI 1)], (v220 q cc gc h a b (-((Ar h 182) k))).2, 198, sl)) = some R := en_J (fun z44 => by
              have hh := en_t z44 hh
              have hh : pm_run PT n fr lo 227 (152, [some (.ref 162), some (.int (nI k)), some (.int (nI a)), some (.int (nI b)), none], [], (v220 q cc gc h a b (-((Ar h 182) k))).2, 198, sl) = some R := hh
              obtain ⟨n, hh⟩ := rn_i rfl rfl rfl rfl hh
              exact ⟨n, hh⟩) (fun z44 => by
              have hh := en_f z44 hh
              have hh : pm_run PT n fr lo 227 (148, [some (.ref 162), some (.int (nI k)), some (.int (nI a)), some (.int (nI b)), none], [], (v220 q cc gc h a b (-((Ar h 182) k))).2, 198, sl) = some R := hh
              obtain ⟨n, hh⟩ := rn_i rfl rfl rfl rfl hh
              obtain ⟨n, hh⟩ := rn_i rfl rfl rfl rfl hh
              exact ⟨n, hh⟩)
          obtain ⟨n, hh⟩ := hj45
          rw [show (cond (pm_cmp .lt ((v220 q cc gc h a b (-((Ar h 182) k))).1) 0) (153, [some (.ref 162), some (.int (nI k)), some (.int (nI a)), some (.int (nI b)), none], [.int (nI 0)], (v220 q cc gc h a b (-((Ar h 182) k))).2, 198, sl) (153, [some (.ref 162), some (.int (nI k)), some (.int (nI a)), some (.int (nI b)), none], [.int (nI 1)], (v220 q cc gc h a b (-((Ar h 182) k))).2, 198, sl) : pm_St) = (153, [some (.ref 162), some (.int (nI k)), some (.int (nI a)), some (.int (nI b)), none], [.int (cond (cond (pm_cmp .lt ((v220 q cc gc h a b (-((Ar h 182) k))).1) 0) false true) 1 0)], (v220 q cc gc h a b (-((Ar h 182) k))).2, 198, sl) from by cases (pm_cmp .lt ((v220 q cc gc h a b (-((Ar h 182) k))).1) 0) <;> rfl] at hh
          have hh : pm_run PT n fr lo 227 (153, [some (.ref 162), some (.int (nI k)), some (.int (nI a)), some (.int (nI b)), none], [.int (cond (cond (pm_cmp .lt ((v220 q cc gc h a b (-((Ar h 182) k))).1) 0) false true) 1 0)], (v220 q cc gc h a b (-((Ar h 182) k))).2, 198, sl) = some R := hh
          have er46 : R = (some (.int (cond (cond (pm_cmp .lt ((v220 q cc gc h a b (-((Ar h 182) k))).1) 0) false true) 1 0)), (v220 q cc gc h a b (-((Ar h 182) k))).2, 198, sl) := (rn_ret rfl (Or.inr rfl) hh).2
          have ed : v227 q cc gc h k kd a b = (cond (pm_cmp .lt ((v220 q cc gc h a b (-((Ar h 182) k))).1) 0) false true, (v220 q cc gc h a b (-((Ar h 182) k))).2) := (cf z4).trans ((cf z13).trans ((cf z21).trans ((cf z30).trans rfl)))
          refine ⟨?_, ?_, ?_⟩ <;> rw [ed]
          · exact er46
          · exact hc42
          · exact (fr_g rfl rfl hf43 fr_0)
theorem v227_fr {cc gc : Nat} {q : QT} {h : pm_H} {k : Nat} {kd : Nat} {a : Nat} {b : Nat} (hw : HC q cc gc h) (hk1 : Ar h 179 k = nI kd) (hk2 : Ar h 180 k = nI a) (hk3 : Ar h 181 k = nI b) (hkd : kd < 10) (ha : a < 10) (hb : b < 10) : HC q cc gc ((v227 q cc gc h k kd a b).2) ∧ frm [162, 170, 176, 177] [(162, 29), (162, 30)] h ((v227 q cc gc h k kd a b).2) := by
  unfold v227
  refine cd_s (P := fun (p : Bool × pm_H) => HC q cc gc ((p).2) ∧ frm [162, 170, 176, 177] [(162, 29), (162, 30)] h ((p).2)) (b := decide (kd = 0)) (fun _ => ?_) (fun _ => ?_)
  · show HC q cc gc ((v217 q cc gc h a b).2) ∧ frm [162, 170, 176, 177] [(162, 29), (162, 30)] h ((v217 q cc gc h a b).2)
    exact ⟨(v217_fr (g := a) (c := b) hw).1, (fr_g rfl rfl (v217_fr (g := a) (c := b) hw).2 fr_0)⟩
  · refine cd_s (P := fun (p : Bool × pm_H) => HC q cc gc ((p).2) ∧ frm [162, 170, 176, 177] [(162, 29), (162, 30)] h ((p).2)) (b := decide (kd = 1)) (fun _ => ?_) (fun _ => ?_)
    · show HC q cc gc ((v227_74 q cc gc k a b a 0 h)) ∧ frm [162, 170, 176, 177] [(162, 29), (162, 30)] h ((v227_74 q cc gc k a b a 0 h))
      exact ⟨(v227_74_fr (m1 := k) (m2 := a) (m3 := b) (j := a) (i := 0) hkd ha hb hw).1, (fr_g rfl rfl (v227_74_fr (m1 := k) (m2 := a) (m3 := b) (j := a) (i := 0) hkd ha hb hw).2 fr_0)⟩
    · refine cd_s (P := fun (p : Bool × pm_H) => HC q cc gc ((p).2) ∧ frm [162, 170, 176, 177] [(162, 29), (162, 30)] h ((p).2)) (b := decide (kd = 2)) (fun _ => ?_) (fun _ => ?_)
      · show HC q cc gc ((v221 q cc gc h a b).2) ∧ frm [162, 170, 176, 177] [(162, 29), (162, 30)] h ((v221 q cc gc h a b).2)
        exact ⟨(v221_fr (a := a) (b := b) hw).1, (fr_g rfl rfl (v221_fr (a := a) (b := b) hw).2 fr_0)⟩
      · refine cd_s (P := fun (p : Bool × pm_H) => HC q cc gc ((p).2) ∧ frm [162, 170, 176, 177] [(162, 29), (162, 30)] h ((p).2)) (b := decide (kd = 3)) (fun _ => ?_) (fun _ => ?_)
        · show HC q cc gc ((v220 q cc gc h a b ((Ar h 182) k)).2) ∧ frm [162, 170, 176, 177] [(162, 29), (162, 30)] h ((v220 q cc gc h a b ((Ar h 182) k)).2)
          exact ⟨(v220_fr (a := a) (b := b) (m := ((Ar h 182) k)) hw).1, (fr_g rfl rfl (v220_fr (a := a) (b := b) (m := ((Ar h 182) k)) hw).2 fr_0)⟩
        · show HC q cc gc ((v220 q cc gc h a b (-((Ar h 182) k))).2) ∧ frm [162, 170, 176, 177] [(162, 29), (162, 30)] h ((v220 q cc gc h a b (-((Ar h 182) k))).2)
          exact ⟨(v220_fr (a := a) (b := b) (m := (-((Ar h 182) k))) hw).1, (fr_g rfl rfl (v220_fr (a := a) (b := b) (m := (-((Ar h 182) k))) hw).2 fr_0)⟩
def v227m_74b (q : QT) (cc gc : Nat) (h : pm_H) (m1 : Nat) (m2 : Nat) (t3 : Int32) (i : Nat) : pm_H := v219 q cc gc h
def v227m_74 (q : QT) (cc gc : Nat) (m1 : Nat) (m2 : Nat) (t3 : Int32) (j i : Nat) (a : pm_H) : pm_H := lp (fun i a => v227m_74b q cc gc a m1 m2 t3 i) j i a
theorem v227m_74_e {a : Nat} {n fr lo sl cc gc : Nat} {q : QT} {h : pm_H} {R : pm_Rs} {m1 : Nat} {m2 : Nat} {t3 : Int32} {i : Nat} (hw : HC q cc gc h) (h_m1 : m1 < 10000) (h_m2 : m2 < 10000) (ha : a < 10) (hol : NA h 170 78 86 6) (hi : m2 ≤ i) (hI : i < 1000000) (hh : pm_run PT n fr lo 227 (74, [some (.ref 162), some (.int (nI m1)), some (.int (nI m2)), some (.int t3), some (.int (nI i))], [], h, 198, sl) = some R) : ∃ m, pm_run PT m fr lo 227 (94, [some (.ref 162), some (.int (nI m1)), some (.int (nI m2)), some (.int t3), some (.int (nI i))], [], h, 198, sl) = some R := by
  have hcc := hw.cb
  have hgc := hw.gb
  have hzr := hw.zr
  obtain ⟨n, hh⟩ := rn_i rfl rfl rfl rfl hh
  obtain ⟨n, hh⟩ := rn_i rfl rfl rfl rfl hh
  have hh : pm_run PT n fr lo 227 (77, [some (.ref 162), some (.int (nI m1)), some (.int (nI m2)), some (.int t3), some (.int (nI i))], [.int (nI m2), .int (nI i)], h, 198, sl) = some R := hh
  obtain ⟨n, hh⟩ := en_cn (cc := .ge) (off := 17) (t := 94) (b := decide (m2 ≤ i)) (hI_ge (by omega) (by omega)) rfl rfl hh
  have hh := en_t (show decide (m2 ≤ i) = true from decide_eq_true (by omega)) hh
  have hh : pm_run PT n fr lo 227 (94, [some (.ref 162), some (.int (nI m1)), some (.int (nI m2)), some (.int t3), some (.int (nI i))], [], h, 198, sl) = some R := hh
  exact ⟨n, hh⟩
theorem v227m_74_s {a : Nat} {n fr lo sl cc gc : Nat} {q : QT} {h : pm_H} {R : pm_Rs} {m1 : Nat} {m2 : Nat} {t3 : Int32} {i : Nat} (hw : HC q cc gc h) (h_m1 : m1 < 10000) (h_m2 : m2 < 10000) (ha : a < 10) (hol : NA h 170 78 86 6) (hi : i < m2) (hI : i < 1000000) (hh : pm_run PT n fr lo 227 (74, [some (.ref 162), some (.int (nI m1)), some (.int (nI m2)), some (.int t3), some (.int (nI i))], [], h, 198, sl) = some R) : ∃ m, HC q cc gc ((v227m_74b q cc gc h m1 m2 t3 i)) ∧ frm [170] [] h ((v227m_74b q cc gc h m1 m2 t3 i)) ∧ NA ((v227m_74b q cc gc h m1 m2 t3 i)) 170 78 86 6 ∧ pm_run PT m fr lo 227 (74, [some (.ref 162), some (.int (nI m1)), some (.int (nI m2)), some (.int t3), some (.int (nI (i + 1)))], [], (v227m_74b q cc gc h m1 m2 t3 i), 198, sl) = some R := by
  have hcc := hw.cb
  have hgc := hw.gb
  have hzr := hw.zr
  obtain ⟨n, hh⟩ := rn_i rfl rfl rfl rfl hh
  obtain ⟨n, hh⟩ := rn_i rfl rfl rfl rfl hh
  have hh : pm_run PT n fr lo 227 (77, [some (.ref 162), some (.int (nI m1)), some (.int (nI m2)), some (.int t3), some (.int (nI i))], [.int (nI m2), .int (nI i)], h, 198, sl) = some R := hh
  obtain ⟨n, hh⟩ := en_cn (cc := .ge) (off := 17) (t := 94) (b := decide (m2 ≤ i)) (hI_ge (by omega) (by omega)) rfl rfl hh
  have hh := en_f (show decide (m2 ≤ i) = false from decide_eq_false (by omega)) hh
  have hh : pm_run PT n fr lo 227 (80, [some (.ref 162), some (.int (nI m1)), some (.int (nI m2)), some (.int t3), some (.int (nI i))], [], h, 198, sl) = some R := hh
  obtain ⟨n, hh⟩ := rn_i rfl rfl rfl rfl hh
  obtain ⟨n, hh⟩ := rn_i rfl rfl rfl rfl hh
  have hh : pm_run PT n fr lo 227 (82, [some (.ref 162), some (.int (nI m1)), some (.int (nI m2)), some (.int t3), some (.int (nI i))], [.ref 162, .ref 162], h, 198, sl) = some R := hh
  obtain ⟨n, hh⟩ := rn_gr hw.wt rfl rfl (by decide) rfl (by decide) (show _ = some (2, ((170 : Nat) : Int), 1) from rfl) rfl hh
  have hh : pm_run PT n fr lo 227 (85, [some (.ref 162), some (.int (nI m1)), some (.int (nI m2)), some (.int t3), some (.int (nI i))], [.ref 170, .ref 162], h, 198, sl) = some R := hh
  obtain ⟨n, fr1, lo1, r1, hh1, hh⟩ := rn_call (w := 0) (t := 219) rfl rfl hh
  obtain ⟨er4, hc5, hf6⟩ := v219_ok hw hh1
  subst er4
  have hh : pm_run PT n fr lo 227 (88, [some (.ref 162), some (.int (nI m1)), some (.int (nI m2)), some (.int t3), some (.int (nI i))], [], v219 q cc gc h, 198, sl) = some R := hh
  obtain ⟨n, hh⟩ := en_inc (x := i) (c := 1) (j := 4) rfl rfl (by decide) hh
  have hh : pm_run PT n fr lo 227 (91, [some (.ref 162), some (.int (nI m1)), some (.int (nI m2)), some (.int t3), some (.int (nI (i + 1)))], [], v219 q cc gc h, 198, sl) = some R := hh
  obtain ⟨n, hh⟩ := rn_i rfl rfl rfl rfl hh
  have ed : v227m_74b q cc gc h m1 m2 t3 i = v219 q cc gc h := rfl
  rw [ed]
  exact ⟨n, hc5, (fr_g rfl rfl hf6 fr_0), (v219_na hw hol), hh⟩
theorem v227m_74_ok {a : Nat} {fr lo sl cc gc : Nat} {q : QT} {R : pm_Rs} {m1 : Nat} {m2 : Nat} {t3 : Int32} : ∀ {j i : Nat} {h : pm_H} {n : Nat}, m2 - i = j → i + j < 1000000 → HC q cc gc h → m1 < 10000 → m2 < 10000 → a < 10 → NA h 170 78 86 6 → pm_run PT n fr lo 227 (74, [some (.ref 162), some (.int (nI m1)), some (.int (nI m2)), some (.int t3), some (.int (nI i))], [], h, 198, sl) = some R → ∃ m wc, HC q cc gc ((v227m_74 q cc gc m1 m2 t3 j i h)) ∧ frm [170] [] h ((v227m_74 q cc gc m1 m2 t3 j i h)) ∧ NA ((v227m_74 q cc gc m1 m2 t3 j i h)) 170 78 86 6 ∧ pm_run PT m fr lo 227 (94, [some (.ref 162), some (.int (nI m1)), some (.int (nI m2)), some (.int t3), wc], [], (v227m_74 q cc gc m1 m2 t3 j i h), 198, sl) = some R := by
  intro j
  induction j with
  | zero =>
    intro i h n e eI hw h_m1 h_m2 ha hol hh
    obtain ⟨n, hh⟩ := v227m_74_e hw h_m1 h_m2 ha hol (by omega) (by omega) hh
    exact ⟨n, _, hw, fr_0, hol, hh⟩
  | succ j ih =>
    intro i h n e eI hw h_m1 h_m2 ha hol hh
    obtain ⟨n, hc, hf, hol', hh⟩ := v227m_74_s hw h_m1 h_m2 ha hol (by omega) (by omega) hh
    obtain ⟨n, wc, hc2, hf2, hol'', hh⟩ := ih (by omega) (by omega) hc h_m1 h_m2 ha hol' hh
    exact ⟨n, wc, hc2, fr_t hf2 hf, hol'', hh⟩
theorem v227m_74_fb {a : Nat} {cc gc : Nat} {q : QT} {h : pm_H} {m1 : Nat} {m2 : Nat} {t3 : Int32} {i : Nat} (hw : HC q cc gc h) (ha : a < 10) : HC q cc gc ((v227m_74b q cc gc h m1 m2 t3 i)) ∧ frm [170] [] h ((v227m_74b q cc gc h m1 m2 t3 i)) := by
  unfold v227m_74b
  show HC q cc gc (v219 q cc gc h) ∧ frm [170] [] h (v219 q cc gc h)
  exact ⟨(v219_fr hw).1, (fr_g rfl rfl (v219_fr hw).2 fr_0)⟩
theorem v227m_74_fr {a : Nat} {cc gc : Nat} {q : QT} {m1 : Nat} {m2 : Nat} {t3 : Int32} (ha : a < 10) : ∀ {j i : Nat} {h : pm_H}, HC q cc gc h → HC q cc gc ((v227m_74 q cc gc m1 m2 t3 j i h)) ∧ frm [170] [] h ((v227m_74 q cc gc m1 m2 t3 j i h)) := by
  intro j
  induction j with
  | zero =>
    intro i h hw
    exact ⟨hw, fr_0⟩
  | succ j ih =>
    intro i h hw
    obtain ⟨a1, a2⟩ := v227m_74_fb (i := i) (m1 := m1) (m2 := m2) (t3 := t3) hw ha
    obtain ⟨b1, b2⟩ := ih (i := i + 1) a1
    exact ⟨b1, fr_t b2 a2⟩
def v227m (q : QT) (cc gc : Nat) (h : pm_H) (k : Nat) (a : Nat) : Bool × pm_H := (true, (v227m_74 q cc gc k a ((Ar h 181) k) a 0 h))
theorem v227m_ok {n fr lo sl cc gc : Nat} {q : QT} {h : pm_H} {R : pm_Rs} {k : Nat} {a : Nat} (hw : HC q cc gc h) (h_k : k < 10000) (hk1 : Ar h 179 k = nI 1) (hk2 : Ar h 180 k = nI a) (ha : a < 10) (hol : NA h 170 78 86 6) (hh : pm_run PT n fr lo 227 (0, pm_l0 [.ref 162, .int (nI k)] 5, [], h, 198, sl) = some R) : R = (some (.int (cond (v227m q cc gc h k a).1 1 0)), (v227m q cc gc h k a).2, 198, sl) ∧ HC q cc gc ((v227m q cc gc h k a).2) ∧ frm [170] [] h ((v227m q cc gc h k a).2) := by
  have hcc := hw.cb
  have hgc := hw.gb
  have hzr := hw.zr
  obtain ⟨n, hh⟩ := rn_i rfl rfl rfl rfl hh
  have hh : pm_run PT n fr lo 227 (1, [some (.ref 162), some (.int (nI k)), none, none, none], [.ref 162], h, 198, sl) = some R := hh
  obtain ⟨n, hh⟩ := rn_gr hw.wt rfl rfl (by decide) rfl (by decide) (show _ = some (2, ((180 : Nat) : Int), 1) from rfl) rfl hh
  obtain ⟨n, hh⟩ := rn_i rfl rfl rfl rfl hh
  have hh : pm_run PT n fr lo 227 (5, [some (.ref 162), some (.int (nI k)), none, none, none], [.int (nI k), .ref 180], h, 198, sl) = some R := hh
  obtain ⟨n, hx1, hh⟩ := en_lu (t := k) (f := Ar h 180) (w := nI a) (nI_clamp (by omega)) hw.wt rfl (by decide) rfl (by decide) rfl (fun _ => hk2) hh
  obtain ⟨n, hh⟩ := rn_i rfl rfl rfl rfl hh
  obtain ⟨n, hh⟩ := rn_i rfl rfl rfl rfl hh
  have hh : pm_run PT n fr lo 227 (8, [some (.ref 162), some (.int (nI k)), some (.int (nI a)), none, none], [.ref 162], h, 198, sl) = some R := hh
  obtain ⟨n, hh⟩ := rn_gr hw.wt rfl rfl (by decide) rfl (by decide) (show _ = some (2, ((181 : Nat) : Int), 1) from rfl) rfl hh
  obtain ⟨n, hh⟩ := rn_i rfl rfl rfl rfl hh
  have hh : pm_run PT n fr lo 227 (12, [some (.ref 162), some (.int (nI k)), some (.int (nI a)), none, none], [.int (nI k), .ref 181], h, 198, sl) = some R := hh
  obtain ⟨n, hx2, hh⟩ := en_lu (t := k) (f := Ar h 181) (w := (Ar h 181) k) (nI_clamp (by omega)) hw.wt rfl (by decide) rfl (by decide) rfl (fun _ => rfl) hh
  obtain ⟨n, hh⟩ := rn_i rfl rfl rfl rfl hh
  obtain ⟨n, hh⟩ := rn_i rfl rfl rfl rfl hh
  have hh : pm_run PT n fr lo 227 (15, [some (.ref 162), some (.int (nI k)), some (.int (nI a)), some (.int ((Ar h 181) k)), none], [.ref 162], h, 198, sl) = some R := hh
  obtain ⟨n, hh⟩ := rn_gr hw.wt rfl rfl (by decide) rfl (by decide) (show _ = some (2, ((179 : Nat) : Int), 1) from rfl) rfl hh
  obtain ⟨n, hh⟩ := rn_i rfl rfl rfl rfl hh
  have hh : pm_run PT n fr lo 227 (19, [some (.ref 162), some (.int (nI k)), some (.int (nI a)), some (.int ((Ar h 181) k)), none], [.int (nI k), .ref 179], h, 198, sl) = some R := hh
  obtain ⟨n, hx3, hh⟩ := en_lu (t := k) (f := Ar h 179) (w := nI 1) (nI_clamp (by omega)) hw.wt rfl (by decide) rfl (by decide) rfl (fun _ => hk1) hh
  have hh : pm_run PT n fr lo 227 (20, [some (.ref 162), some (.int (nI k)), some (.int (nI a)), some (.int ((Ar h 181) k)), none], [.int (nI 1)], h, 198, sl) = some R := hh
  obtain ⟨n, hh⟩ := rn_i rfl rfl rfl rfl hh
  have hh : pm_run PT n fr lo 227 (71, [some (.ref 162), some (.int (nI k)), some (.int (nI a)), some (.int ((Ar h 181) k)), none], [], h, 198, sl) = some R := hh
  obtain ⟨n, hh⟩ := rn_i rfl rfl rfl rfl hh
  obtain ⟨n, hh⟩ := rn_i rfl rfl rfl rfl hh
  have hh : pm_run PT n fr lo 227 (74, [some (.ref 162), some (.int (nI k)), some (.int (nI a)), some (.int ((Ar h 181) k)), some (.int (nI 0))], [], h, 198, sl) = some R := hh
  obtain ⟨n, u4, hc6, hf7, hn5, hh⟩ := v227m_74_ok (m1 := k) (m2 := a) (t3 := ((Ar h 181) k))  (i := 0) (j := a) (by omega) (by omega) hw (by omega) (by omega) ha hol hh
  have hh : pm_run PT n fr lo 227 (94, [some (.ref 162), some (.int (nI k)), some (.int (nI a)), some (.int ((Ar h 181) k)), u4], [], (v227m_74 q cc gc k a ((Ar h 181) k) a 0 h), 198, sl) = some R := hh
  obtain ⟨n, hh⟩ := rn_i rfl rfl rfl rfl hh
  have hh : pm_run PT n fr lo 227 (95, [some (.ref 162), some (.int (nI k)), some (.int (nI a)), some (.int ((Ar h 181) k)), u4], [.int (nI 1)], (v227m_74 q cc gc k a ((Ar h 181) k) a 0 h), 198, sl) = some R := hh
  have er8 : R = (some (.int (nI 1)), (v227m_74 q cc gc k a ((Ar h 181) k) a 0 h), 198, sl) := (rn_ret rfl (Or.inr rfl) hh).2
  have ed : v227m q cc gc h k a = (true, (v227m_74 q cc gc k a ((Ar h 181) k) a 0 h)) := rfl
  refine ⟨?_, ?_, ?_⟩ <;> rw [ed]
  · exact er8
  · exact hc6
  · exact (fr_g rfl rfl hf7 fr_0)
theorem v227m_fr {cc gc : Nat} {q : QT} {h : pm_H} {k : Nat} {a : Nat} (hw : HC q cc gc h) (hk1 : Ar h 179 k = nI 1) (hk2 : Ar h 180 k = nI a) (ha : a < 10) : HC q cc gc ((v227m q cc gc h k a).2) ∧ frm [170] [] h ((v227m q cc gc h k a).2) := by
  unfold v227m
  show HC q cc gc ((v227m_74 q cc gc k a ((Ar h 181) k) a 0 h)) ∧ frm [170] [] h ((v227m_74 q cc gc k a ((Ar h 181) k) a 0 h))
  exact ⟨(v227m_74_fr (m1 := k) (m2 := a) (t3 := ((Ar h 181) k)) (j := a) (i := 0) ha hw).1, (fr_g rfl rfl (v227m_74_fr (m1 := k) (m2 := a) (t3 := ((Ar h 181) k)) (j := a) (i := 0) ha hw).2 fr_0)⟩
end EH
end MH95zzxkx3
