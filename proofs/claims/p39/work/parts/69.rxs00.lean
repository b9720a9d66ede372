/-! long calls, in pieces -/
def rxr_year : con := (228, [(2, 162, 1)], [], [some (0, -2147483648, 2147483647)], [], 85, 5000, false)
def rxz_year_1 : List ast := [(42, [some (2, 162, 1), some (0, 0, 80), some (0, 0, 1), none, none], [], [])]
def rxz_year_2 : List ast := [(64, [some (2, 162, 1), some (0, 0, 80), some (0, 0, 1), some (0, 0, 0), some (0, 0, 0)], [], [])]
def rxz_year_3 : List ast := [(64, [some (2, 162, 1), some (0, 0, 80), some (0, 0, 1), some (0, 0, 0), some (0, 12, 12)], [], [])]
def rxz_year_4 : List ast := [(64, [some (2, 162, 1), some (0, 0, 80), some (0, 0, 1), some (0, 0, 0), some (0, 24, 24)], [], [])]
theorem rxs_year_4 : seg_chk [] (kn_or (kl bB rxF [rxt5, rxt48]) rk) PT bB 198 rxF0 rxJ rxjo rxP 1733 rxr_year rxz_year_4 = true := by decide +kernel   -- 1333
theorem rxs_year_3 : seg_chk rxz_year_4 (kn_or (kl bB rxF [rxt5, rxt48]) rk) PT bB 198 rxF0 rxJ rxjo rxP 1735 rxr_year rxz_year_3 = true := by decide +kernel   -- 1335
theorem rxs_year_2 : seg_chk rxz_year_3 (kn_or (kl bB rxF [rxt5, rxt48]) rk) PT bB 198 rxF0 rxJ rxjo rxP 1738 rxr_year rxz_year_2 = true := by decide +kernel   -- 1338
theorem rxs_year_1 : seg_chk rxz_year_2 (kn_or (kl bB rxF [rxt5, rxt48]) rk) PT bB 198 rxF0 rxJ rxjo rxP 3231 rxr_year rxz_year_1 = true := by decide +kernel   -- 2831
theorem rxs_year_0 : seg_chk rxz_year_1 (kn_or (kl bB rxF [rxt5, rxt48]) rk) PT bB 198 rxF0 rxJ rxjo rxP 5078 rxr_year (sp_all bB 198 [] [(0, aa_l0 rxr_year.2.1 (pm_max PT rxr_year.1), [], rxr_year.2.2.1)]) = true := by decide +kernel   -- 4678
theorem rxw_year : con_ok PT bB 198 rxF rxQ rxr_year := seg_con rfl (ps := []) (seg_chk_ok rxle rxpp (kn_or_ok (kl_ok (List.forall_mem_cons.mpr ⟨rxo5, List.forall_mem_cons.mpr ⟨rxo48, fun _ h => (by cases h)⟩⟩)) rk_ok) (seg_chk_ok rxle rxpp (kn_or_ok (kl_ok (List.forall_mem_cons.mpr ⟨rxo5, List.forall_mem_cons.mpr ⟨rxo48, fun _ h => (by cases h)⟩⟩)) rk_ok) (seg_chk_ok rxle rxpp (kn_or_ok (kl_ok (List.forall_mem_cons.mpr ⟨rxo5, List.forall_mem_cons.mpr ⟨rxo48, fun _ h => (by cases h)⟩⟩)) rk_ok) (seg_chk_ok rxle rxpp (kn_or_ok (kl_ok (List.forall_mem_cons.mpr ⟨rxo5, List.forall_mem_cons.mpr ⟨rxo48, fun _ h => (by cases h)⟩⟩)) rk_ok) (seg_chk_ok rxle rxpp (kn_or_ok (kl_ok (List.forall_mem_cons.mpr ⟨rxo5, List.forall_mem_cons.mpr ⟨rxo48, fun _ h => (by cases h)⟩⟩)) rk_ok) seg_nil rxs_year_4) rxs_year_3) rxs_year_2) rxs_year_1) rxs_year_0)
