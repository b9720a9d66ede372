/-! the calls themselves -/
def cxr_rests : con := (123, [(2, 0, 1), (0, -2147483648, 2147483647)], [], [some (0, -2147483648, 2147483647)], [], 15, 1200, false)
theorem cxq_rests : con_chkS (kl bB cxF [cxt97, cxt101]) PT bB 198 cxF cxJ cxjo cxP2 [] 3226 cxr_rests = true := fq_chkS1 (fq_jn_eq _) rfl (by decide +kernel)   -- 2826
theorem cxw_rests : con_ok PT bB 198 cxF cxQ cxr_rests := con_chkS_ok (fun _ _ h => h) cxpp (kl_ok (List.forall_mem_cons.mpr ⟨cxo97, List.forall_mem_cons.mpr ⟨cxo101, fun _ h => (by cases h)⟩⟩)) nw_class (fun h => by cases h) cxq_rests
