/-! contracts -/
def cxt35 : con := (134, [(2, 0, 1)], [], [some (0, (-1), 239)], [], 15, 1200, true)
theorem cxk35 : con_chk (kl bB cxF [cxt33, cxt34]) PT bB 198 cxF cxJ cxjo cxP 8764 cxt35 = true := fq_chk1 (fq_jn_eq _) rfl (by decide +kernel)   -- X10_yearFault
theorem cxo35 : con_ok PT bB 198 cxF cxQ cxt35 := con_chk_ok (fun _ _ h => h) cxpp (kl_ok (List.forall_mem_cons.mpr ⟨cxo33, List.forall_mem_cons.mpr ⟨cxo34, fun _ h => (by cases h)⟩⟩)) nw_class (fun _ => by decide) cxk35
