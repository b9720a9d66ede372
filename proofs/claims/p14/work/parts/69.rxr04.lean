/-! the calls themselves -/
def rxr_rests : con := (261, [(2, 162, 1), (0, -2147483648, 2147483647)], [], [some (0, -2147483648, 2147483647)], [], 75, 4200, false)
theorem rxq_rests : con_chkS (kn_or (kl bB rxF [rxt76]) rk) PT bB 198 rxF0 rxJ rxjo rxP [] 9306 rxr_rests = true := fq_chkS2 (fq_jn_eq _) rfl (by decide +kernel)   -- 8906
theorem rxw_rests : con_ok PT bB 198 rxF rxQ rxr_rests := con_chkS_ok rxle rxpp (kn_or_ok (kl_ok (List.forall_mem_cons.mpr ⟨rxo76, fun _ h => (by cases h)⟩)) rk_ok) nw_class (fun h => by cases h) rxq_rests
