/-! the calls themselves -/
def rxr_wins : con := (234, [(2, 162, 1), (0, -2147483648, 2147483647), (0, -2147483648, 2147483647)], [], [some (0, -2147483648, 2147483647)], [], 105, 6600, false)
theorem rxq_wins : con_chkS (kn_or (kl bB rxF [rxt49, rxt51, rxt54, rxt58, rxt63]) rk) PT bB 198 rxF0 rxJ rxjo rxP [(0, 1, 0, 0, [(-1), 5]), (0, 2, 0, 0, [(-1), 5])] 2184 rxr_wins = true := fq_chkS2 (fq_jn_eq _) rfl (by decide +kernel)   -- 1784
theorem rxw_wins : con_ok PT bB 198 rxF rxQ rxr_wins := con_chkS_ok rxle rxpp (kn_or_ok (kl_ok (List.forall_mem_cons.mpr ⟨rxo49, List.forall_mem_cons.mpr ⟨rxo51, List.forall_mem_cons.mpr ⟨rxo54, List.forall_mem_cons.mpr ⟨rxo58, List.forall_mem_cons.mpr ⟨rxo63, fun _ h => (by cases h)⟩⟩⟩⟩⟩)) rk_ok) nw_class (fun h => by cases h) rxq_wins
def rxr_unseen : con := (235, [(2, 162, 1), (0, -2147483648, 2147483647)], [], [some (0, -2147483648, 2147483647)], [], 70, 3800, false)
theorem rxq_unseen : con_chkS (kn_or (kl bB rxF [rxt2, rxt5]) rk) PT bB 198 rxF0 rxJ rxjo rxP [(0, 1, 0, 0, [(-1), 7])] 3212 rxr_unseen = true := fq_chkS2 (fq_jn_eq _) rfl (by decide +kernel)   -- 2812
theorem rxw_unseen : con_ok PT bB 198 rxF rxQ rxr_unseen := con_chkS_ok rxle rxpp (kn_or_ok (kl_ok (List.forall_mem_cons.mpr ⟨rxo2, List.forall_mem_cons.mpr ⟨rxo5, fun _ h => (by cases h)⟩⟩)) rk_ok) nw_class (fun h => by cases h) rxq_unseen
