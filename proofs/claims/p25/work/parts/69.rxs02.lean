/-! long calls, in pieces -/
def rxr_league : con := (250, [(2, 162, 1)], [], [some (0, -2147483648, 2147483647)], [], 75, 4200, false)
def rxz_league_1 : List ast := [(9, [some (2, 162, 1), some (0, 0, 63), some (0, 12, 12), none, none], [], [])]
def rxz_league_2 : List ast := [(9, [some (2, 162, 1), some (0, 0, 63), some (0, 24, 24), none, none], [], [])]
def rxz_league_3 : List ast := [(9, [some (2, 162, 1), some (0, 0, 63), some (0, 36, 36), none, none], [], [])]
def rxz_league_4 : List ast := [(9, [some (2, 162, 1), some (0, 0, 63), some (0, 48, 48), none, none], [], [])]
theorem rxs_league_4 : seg_chk [] (kn_or (kl bB rxF [rxt5, rxt8]) rk) PT bB 198 rxF0 rxJ rxjo rxP 5725 rxr_league rxz_league_4 = true := by decide +kernel   -- 5325
theorem rxs_league_3 : seg_chk rxz_league_4 (kn_or (kl bB rxF [rxt5, rxt8]) rk) PT bB 198 rxF0 rxJ rxjo rxP 4251 rxr_league rxz_league_3 = true := by decide +kernel   -- 3851
theorem rxs_league_2 : seg_chk rxz_league_3 (kn_or (kl bB rxF [rxt5, rxt8]) rk) PT bB 198 rxF0 rxJ rxjo rxP 4194 rxr_league rxz_league_2 = true := by decide +kernel   -- 3794
theorem rxs_league_1 : seg_chk rxz_league_2 (kn_or (kl bB rxF [rxt5, rxt8]) rk) PT bB 198 rxF0 rxJ rxjo rxP 4128 rxr_league rxz_league_1 = true := by decide +kernel   -- 3728
theorem rxs_league_0 : seg_chk rxz_league_1 (kn_or (kl bB rxF [rxt5, rxt8]) rk) PT bB 198 rxF0 rxJ rxjo rxP 3910 rxr_league (sp_all bB 198 [] [(0, aa_l0 rxr_league.2.1 (pm_max PT rxr_league.1), [], rxr_league.2.2.1)]) = true := by decide +kernel   -- 3510
theorem rxw_league : con_ok PT bB 198 rxF rxQ rxr_league := seg_con rfl (ps := []) (seg_chk_ok rxle rxpp (kn_or_ok (kl_ok (List.forall_mem_cons.mpr ⟨rxo5, List.forall_mem_cons.mpr ⟨rxo8, fun _ h => (by cases h)⟩⟩)) rk_ok) (seg_chk_ok rxle rxpp (kn_or_ok (kl_ok (List.forall_mem_cons.mpr ⟨rxo5, List.forall_mem_cons.mpr ⟨rxo8, fun _ h => (by cases h)⟩⟩)) rk_ok) (seg_chk_ok rxle rxpp (kn_or_ok (kl_ok (List.forall_mem_cons.mpr ⟨rxo5, List.forall_mem_cons.mpr ⟨rxo8, fun _ h => (by cases h)⟩⟩)) rk_ok) (seg_chk_ok rxle rxpp (kn_or_ok (kl_ok (List.forall_mem_cons.mpr ⟨rxo5, List.forall_mem_cons.mpr ⟨rxo8, fun _ h => (by cases h)⟩⟩)) rk_ok) (seg_chk_ok rxle rxpp (kn_or_ok (kl_ok (List.forall_mem_cons.mpr ⟨rxo5, List.forall_mem_cons.mpr ⟨rxo8, fun _ h => (by cases h)⟩⟩)) rk_ok) seg_nil rxs_league_4) rxs_league_3) rxs_league_2) rxs_league_1) rxs_league_0)
