/-! the calls themselves -/
def cxr_gifts : con := (89, [(2, 0, 1)], [], [some (0, -2147483648, 2147483647)], [], 15, 1200, false)
theorem cxq_gifts : con_chkS (kl bB cxF [cxt33, cxt34]) PT bB 198 cxF cxJ cxjo cxP2 [(2, 0, 2, 1, [0, 1, 2, 3, 4, 5, 6, 7])] 9288 cxr_gifts = true := fq_chkS1 (fq_jn_eq _) rfl (by decide +kernel)   -- 8888
theorem cxw_gifts : con_ok PT bB 198 cxF cxQ cxr_gifts := con_chkS_ok (fun _ _ h => h) cxpp (kl_ok (List.forall_mem_cons.mpr ⟨cxo33, List.forall_mem_cons.mpr ⟨cxo34, fun _ h => (by cases h)⟩⟩)) nw_class (fun h => by cases h) cxq_gifts
