/-! the calls themselves -/
def rxr_ranks : con := (249, [(2, 162, 1)], [], [some (0, -2147483648, 2147483647)], [], 70, 3800, false)
theorem rxq_ranks : con_chkS (kn_or (kl bB rxF [rxt72]) rk) PT bB 198 rxF0 rxJ rxjo rxP [] 2271 rxr_ranks = true := fq_chkS2 (fq_jn_eq _) rfl (by decide +kernel)   -- 1871
theorem rxw_ranks : con_ok PT bB 198 rxF rxQ rxr_ranks := con_chkS_ok rxle rxpp (kn_or_ok (kl_ok (List.forall_mem_cons.mpr ⟨rxo72, fun _ h => (by cases h)⟩)) rk_ok) nw_class (fun h => by cases h) rxq_ranks
def rxr_heard : con := (251, [(2, 162, 1), (0, -2147483648, 2147483647), (0, -2147483648, 2147483647)], [], [some (0, -2147483648, 2147483647)], [], 65, 3400, false)
theorem rxq_heard : con_chkS (kn_or (kl bB rxF []) rk) PT bB 198 rxF0 rxJ rxjo rxP [] 823 rxr_heard = true := fq_chkS2 (fq_jn_eq _) rfl (by decide +kernel)   -- 423
theorem rxw_heard : con_ok PT bB 198 rxF rxQ rxr_heard := con_chkS_ok rxle rxpp (kn_or_ok (kl_ok (fun _ h => (by cases h))) rk_ok) nw_class (fun h => by cases h) rxq_heard
def rxr_forget : con := (252, [(2, 162, 1)], [], [some (0, -2147483648, 2147483647)], [], 65, 3400, false)
theorem rxq_forget : con_chkS (kn_or (kl bB rxF []) rk) PT bB 198 rxF0 rxJ rxjo rxP [] 411 rxr_forget = true := fq_chkS2 (fq_jn_eq _) rfl (by decide +kernel)   -- 11
theorem rxw_forget : con_ok PT bB 198 rxF rxQ rxr_forget := con_chkS_ok rxle rxpp (kn_or_ok (kl_ok (fun _ h => (by cases h))) rk_ok) nw_class (fun h => by cases h) rxq_forget
def rxr_fits : con := (255, [(2, 162, 1)], [], [some (0, -2147483648, 2147483647)], [], 75, 4200, false)
theorem rxq_fits : con_chkS (kn_or (kl bB rxF [rxt5, rxt74]) rk) PT bB 198 rxF0 rxJ rxjo rxP [] 838 rxr_fits = true := fq_chkS2 (fq_jn_eq _) rfl (by decide +kernel)   -- 438
theorem rxw_fits : con_ok PT bB 198 rxF rxQ rxr_fits := con_chkS_ok rxle rxpp (kn_or_ok (kl_ok (List.forall_mem_cons.mpr ⟨rxo5, List.forall_mem_cons.mpr ⟨rxo74, fun _ h => (by cases h)⟩⟩)) rk_ok) nw_class (fun h => by cases h) rxq_fits
def rxr_ask : con := (256, [(2, 162, 1)], [], [some (0, -2147483648, 2147483647)], [], 75, 4200, false)
theorem rxq_ask : con_chkS (kn_or (kl bB rxF [rxt5, rxt74]) rk) PT bB 198 rxF0 rxJ rxjo rxP [] 4290 rxr_ask = true := fq_chkS2 (fq_jn_eq _) rfl (by decide +kernel)   -- 3890
theorem rxw_ask : con_ok PT bB 198 rxF rxQ rxr_ask := con_chkS_ok rxle rxpp (kn_or_ok (kl_ok (List.forall_mem_cons.mpr ⟨rxo5, List.forall_mem_cons.mpr ⟨rxo74, fun _ h => (by cases h)⟩⟩)) rk_ok) nw_class (fun h => by cases h) rxq_ask
