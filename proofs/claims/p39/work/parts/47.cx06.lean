/-! contracts -/
def cxt66 : con := (134, [(2, 0, 1)], [], [some (0, (-1), 239)], [], 15, 1200, true)
theorem cxk66 : con_chk (kl bB cxF [cxt1, cxt2]) PT bB 198 cxF cxJ cxjo cxP 8764 cxt66 = true := by decide +kernel   -- X10_yearFault
theorem cxo66 : con_ok PT bB 198 cxF cxQ cxt66 := con_chk_ok (fun _ _ h => h) cxpp (kl_ok (List.forall_mem_cons.mpr ⟨cxo1, List.forall_mem_cons.mpr ⟨cxo2, fun _ h => (by cases h)⟩⟩)) nw_class (fun _ => by decide) cxk66
