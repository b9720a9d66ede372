/-! the calls themselves -/
def rxr_count : con := (267, [(2, 162, 1), (0, -2147483648, 2147483647)], [], [some (0, -2147483648, 2147483647)], [], 75, 4200, false)
theorem rxq_count : con_chkS (kn_or (kl bB rxF [rxt4, rxt10, rxt77]) rk) PT bB 198 rxF0 rxJ rxjo rxP [] 646 rxr_count = true := fq_chkS2 (fq_jn_eq _) rfl (by decide +kernel)   -- 246
theorem rxw_count : con_ok PT bB 198 rxF rxQ rxr_count := con_chkS_ok rxle rxpp (kn_or_ok (kl_ok (List.forall_mem_cons.mpr ⟨rxo4, List.forall_mem_cons.mpr ⟨rxo10, List.forall_mem_cons.mpr ⟨rxo77, fun _ h => (by cases h)⟩⟩⟩)) rk_ok) nw_class (fun h => by cases h) rxq_count
def rxr_row : con := (268, [(2, 162, 1), (0, -2147483648, 2147483647)], [], [some (1, -9223372036854775808, 9223372036854775807)], [], 65, 3400, false)
theorem rxq_row : con_chkS (kn_or (kl bB rxF []) rk) PT bB 198 rxF0 rxJ rxjo rxP [] 803 rxr_row = true := fq_chkS2 (fq_jn_eq _) rfl (by decide +kernel)   -- 403
theorem rxw_row : con_ok PT bB 198 rxF rxQ rxr_row := con_chkS_ok rxle rxpp (kn_or_ok (kl_ok (fun _ h => (by cases h))) rk_ok) nw_class (fun h => by cases h) rxq_row
