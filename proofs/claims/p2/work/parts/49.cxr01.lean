/-! the calls themselves -/
def cxr_courts : con := (88, [(2, 0, 1)], [], [some (0, -2147483648, 2147483647)], [], 15, 1200, false)
theorem cxq_courts : con_chkS (kl bB cxF [cxt33, cxt34]) PT bB 198 cxF cxJ cxjo cxP2 [(2, 0, 2, 0, [0, 1, 2, 3, 4, 5])] 9978 cxr_courts = true := fq_chkS1 (fq_jn_eq _) rfl (by decide +kernel)   -- 9578
theorem cxw_courts : con_ok PT bB 198 cxF cxQ cxr_courts := con_chkS_ok (fun _ _ h => h) cxpp (kl_ok (List.forall_mem_cons.mpr ⟨cxo33, List.forall_mem_cons.mpr ⟨cxo34, fun _ h => (by cases h)⟩⟩)) nw_class (fun h => by cases h) cxq_courts
