/-! the calls themselves -/
def cxr_keep : con := (125, [(2, 0, 1), (0, -2147483648, 2147483647)], [], [some (0, 0, 1)], [], 10, 800, false)
theorem cxq_keep : con_chkS (kl bB cxF [cxt241, cxt245, cxt246]) PT bB 198 cxF cxJ cxjo cxP2 [(0, 1, 0, 0, [(-1), 0, 1, 2])] 477 cxr_keep = true := fq_chkS1 (fq_jn_eq _) rfl (by decide +kernel)   -- 77
theorem cxw_keep : con_ok PT bB 198 cxF cxQ cxr_keep := con_chkS_ok (fun _ _ h => h) cxpp (kl_ok (List.forall_mem_cons.mpr ⟨cxo241, List.forall_mem_cons.mpr ⟨cxo245, List.forall_mem_cons.mpr ⟨cxo246, fun _ h => (by cases h)⟩⟩⟩)) nw_class (fun h => by cases h) cxq_keep
def cxr_again : con := (126, [(2, 0, 1), (0, -2147483648, 2147483647)], [], [some (0, 0, 1)], [], 10, 800, false)
theorem cxq_again : con_chkS (kl bB cxF [cxt242, cxt243, cxt244]) PT bB 198 cxF cxJ cxjo cxP2 [(0, 1, 0, 0, [(-1), 0, 1, 2])] 501 cxr_again = true := fq_chkS1 (fq_jn_eq _) rfl (by decide +kernel)   -- 101
theorem cxw_again : con_ok PT bB 198 cxF cxQ cxr_again := con_chkS_ok (fun _ _ h => h) cxpp (kl_ok (List.forall_mem_cons.mpr ⟨cxo242, List.forall_mem_cons.mpr ⟨cxo243, List.forall_mem_cons.mpr ⟨cxo244, fun _ h => (by cases h)⟩⟩⟩)) nw_class (fun h => by cases h) cxq_again
def cxr_count : con := (127, [(2, 0, 1), (0, -2147483648, 2147483647)], [], [some (0, -2147483648, 2147483647)], [], 15, 1200, false)
theorem cxq_count : con_chkS (kl bB cxF [cxt145, cxt146, cxt147, cxt148, cxt256]) PT bB 198 cxF cxJ cxjo cxP2 [] 464 cxr_count = true := fq_chkS1 (fq_jn_eq _) rfl (by decide +kernel)   -- 64
theorem cxw_count : con_ok PT bB 198 cxF cxQ cxr_count := con_chkS_ok (fun _ _ h => h) cxpp (kl_ok (List.forall_mem_cons.mpr ⟨cxo145, List.forall_mem_cons.mpr ⟨cxo146, List.forall_mem_cons.mpr ⟨cxo147, List.forall_mem_cons.mpr ⟨cxo148, List.forall_mem_cons.mpr ⟨cxo256, fun _ h => (by cases h)⟩⟩⟩⟩⟩)) nw_class (fun h => by cases h) cxq_count
