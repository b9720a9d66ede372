/-! the reference where the class throws, on the fresh heap: it answers, and thrown() is 1 -/
def fz_thr (n km : Nat) (bx : List av) : Bool := match fz_go fz_n fz_m n km ((2, 162, 1) :: bx) [] with
  | some R => R.all (fun r => r.1.isSome && (match fz_go fz_n fz_m n 162 [(2, 162, 1)] r.2 with
    | some R2 => R2.all (fun q => decide (q.1 = some (0, 1, 1)))
    | none => false))
  | none => false
theorem th_court : bt_chk (fz_thr 300 207) [(1, -1), (0, 0), (0, 0)] [bx_T 2] = true := by decide +kernel
theorem th_between : bt_chk (fz_thr 300 208) [(1, -1), (0, 0), (0, 0)] [bx_T 3] = true := by decide +kernel
theorem th_gift : bt_chk (fz_thr 300 209) [(1, -1), (0, 0), (0, 0)] [bx_T 2] = true := by decide +kernel
theorem th_row : bt_chk (fz_thr 300 269) [(1, -1), (0, 0), (0, 0)] [bx_T 1] = true := by decide +kernel
