/-! the calls themselves -/
def cxr_sign : con := (86, [(2, 0, 1), (0, -2147483648, 2147483647)], [], [some (0, -2147483648, 2147483647)], [], 10, 800, false)
theorem cxq_sign : con_chkS (kl bB cxF [cxt248]) PT bB 198 cxF cxJ cxjo cxP [] 411 cxr_sign = true := by decide +kernel   -- 11
theorem cxw_sign : con_ok PT bB 198 cxF cxQ cxr_sign := con_chkS_ok (fun _ _ h => h) cxpp (kl_ok (List.forall_mem_cons.mpr ⟨cxo248, fun _ h => (by cases h)⟩)) nw_class (fun h => by cases h) cxq_sign
def cxr_end : con := (87, [(2, 0, 1), (0, -2147483648, 2147483647)], [], [some (0, 0, 1)], [], 5, 400, false)
theorem cxq_end : con_chkS (kl bB cxF []) PT bB 198 cxF cxJ cxjo cxP [] 427 cxr_end = true := by decide +kernel   -- 27
theorem cxw_end : con_ok PT bB 198 cxF cxQ cxr_end := con_chkS_ok (fun _ _ h => h) cxpp (kl_ok (fun _ h => (by cases h))) nw_class (fun h => by cases h) cxq_end
