/-! the calls themselves -/
def cxr_keep : con := (125, [(2, 0, 1), (0, -2147483648, 2147483647)], [], [some (0, 0, 1)], [], 10, 800, false)
theorem cxq_keep : con_chkS (kl bB cxF [cxt202, cxt203, cxt204]) PT bB 198 cxF cxJ cxjo cxP [(0, 1, 0, 0, [(-1), 0, 1, 2])] 477 cxr_keep = true := by decide +kernel   -- 77
theorem cxw_keep : con_ok PT bB 198 cxF cxQ cxr_keep := con_chkS_ok (fun _ _ h => h) cxpp (kl_ok (List.forall_mem_cons.mpr ⟨cxo202, List.forall_mem_cons.mpr ⟨cxo203, List.forall_mem_cons.mpr ⟨cxo204, fun _ h => (by cases h)⟩⟩⟩)) nw_class (fun h => by cases h) cxq_keep
def cxr_again : con := (126, [(2, 0, 1), (0, -2147483648, 2147483647)], [], [some (0, 0, 1)], [], 10, 800, false)
theorem cxq_again : con_chkS (kl bB cxF [cxt205, cxt206, cxt207]) PT bB 198 cxF cxJ cxjo cxP [(0, 1, 0, 0, [(-1), 0, 1, 2])] 501 cxr_again = true := by decide +kernel   -- 101
theorem cxw_again : con_ok PT bB 198 cxF cxQ cxr_again := con_chkS_ok (fun _ _ h => h) cxpp (kl_ok (List.forall_mem_cons.mpr ⟨cxo205, List.forall_mem_cons.mpr ⟨cxo206, List.forall_mem_cons.mpr ⟨cxo207, fun _ h => (by cases h)⟩⟩⟩)) nw_class (fun h => by cases h) cxq_again
def cxr_count : con := (127, [(2, 0, 1), (0, -2147483648, 2147483647)], [], [some (0, -2147483648, 2147483647)], [], 15, 1200, false)
theorem cxq_count : con_chkS (kl bB cxF [cxt39, cxt209, cxt211, cxt212, cxt213]) PT bB 198 cxF cxJ cxjo cxP [] 464 cxr_count = true := by decide +kernel   -- 64
theorem cxw_count : con_ok PT bB 198 cxF cxQ cxr_count := con_chkS_ok (fun _ _ h => h) cxpp (kl_ok (List.forall_mem_cons.mpr ⟨cxo39, List.forall_mem_cons.mpr ⟨cxo209, List.forall_mem_cons.mpr ⟨cxo211, List.forall_mem_cons.mpr ⟨cxo212, List.forall_mem_cons.mpr ⟨cxo213, fun _ h => (by cases h)⟩⟩⟩⟩⟩)) nw_class (fun h => by cases h) cxq_count
