/-! the calls themselves -/
def cxr_years : con := (124, [(2, 0, 1), (0, -2147483648, 2147483647), (0, -2147483648, 2147483647)], [], [some (0, -2147483648, 2147483647)], [], 25, 2000, false)
theorem cxq_years : con_chkS (kl bB cxF [cxt42, cxt87, cxt97, cxt150, cxt153, cxt247]) PT bB 198 cxF cxJ cxjo cxP2 [] 7521 cxr_years = true := fq_chkS1 (fq_jn_eq _) rfl (by decide +kernel)   -- 7121
theorem cxw_years : con_ok PT bB 198 cxF cxQ cxr_years := con_chkS_ok (fun _ _ h => h) cxpp (kl_ok (List.forall_mem_cons.mpr ⟨cxo42, List.forall_mem_cons.mpr ⟨cxo87, List.forall_mem_cons.mpr ⟨cxo97, List.forall_mem_cons.mpr ⟨cxo150, List.forall_mem_cons.mpr ⟨cxo153, List.forall_mem_cons.mpr ⟨cxo247, fun _ h => (by cases h)⟩⟩⟩⟩⟩⟩)) nw_class (fun h => by cases h) cxq_years
