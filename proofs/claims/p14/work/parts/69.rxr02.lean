/-! the calls themselves -/
def rxr_swaps : con := (236, [(2, 162, 1)], [], [some (0, -2147483648, 2147483647)], [], 75, 4200, false)
theorem rxq_swaps : con_chkS (kn_or (kl bB rxF [rxt6]) rk) PT bB 198 rxF0 rxJ rxjo rxP [] 3113 rxr_swaps = true := fq_chkS2 (fq_jn_eq _) rfl (by decide +kernel)   -- 2713
theorem rxw_swaps : con_ok PT bB 198 rxF rxQ rxr_swaps := con_chkS_ok rxle rxpp (kn_or_ok (kl_ok (List.forall_mem_cons.mpr ⟨rxo6, fun _ h => (by cases h)⟩)) rk_ok) nw_class (fun h => by cases h) rxq_swaps
def rxr_feeds : con := (242, [(2, 162, 1), (0, -2147483648, 2147483647)], [], [some (0, -2147483648, 2147483647)], [], 80, 4600, false)
theorem rxq_feeds : con_chkS (kn_or (kl bB rxF [rxt65, rxt78]) rk) PT bB 198 rxF0 rxJ rxjo rxP [(0, 1, 0, 0, [(-1), 5])] 757 rxr_feeds = true := fq_chkS2 (fq_jn_eq _) rfl (by decide +kernel)   -- 357
theorem rxw_feeds : con_ok PT bB 198 rxF rxQ rxr_feeds := con_chkS_ok rxle rxpp (kn_or_ok (kl_ok (List.forall_mem_cons.mpr ⟨rxo65, List.forall_mem_cons.mpr ⟨rxo78, fun _ h => (by cases h)⟩⟩)) rk_ok) nw_class (fun h => by cases h) rxq_feeds
def rxr_starves : con := (243, [(2, 162, 1), (0, -2147483648, 2147483647), (0, -2147483648, 2147483647)], [], [some (0, -2147483648, 2147483647)], [], 80, 4600, false)
theorem rxq_starves : con_chkS (kn_or (kl bB rxF [rxt26, rxt65]) rk) PT bB 198 rxF0 rxJ rxjo rxP [(0, 1, 0, 0, [(-1), 5]), (0, 2, 0, 0, [(-1), 5])] 2294 rxr_starves = true := fq_chkS2 (fq_jn_eq _) rfl (by decide +kernel)   -- 1894
theorem rxw_starves : con_ok PT bB 198 rxF rxQ rxr_starves := con_chkS_ok rxle rxpp (kn_or_ok (kl_ok (List.forall_mem_cons.mpr ⟨rxo26, List.forall_mem_cons.mpr ⟨rxo65, fun _ h => (by cases h)⟩⟩)) rk_ok) nw_class (fun h => by cases h) rxq_starves
def rxr_net : con := (244, [(2, 162, 1), (0, -2147483648, 2147483647)], [], [some (0, -2147483648, 2147483647)], [], 70, 3800, false)
theorem rxq_net : con_chkS (kn_or (kl bB rxF [rxt10, rxt11]) rk) PT bB 198 rxF0 rxJ rxjo rxP [(0, 1, 0, 0, [(-1), 5])] 750 rxr_net = true := fq_chkS2 (fq_jn_eq _) rfl (by decide +kernel)   -- 350
theorem rxw_net : con_ok PT bB 198 rxF rxQ rxr_net := con_chkS_ok rxle rxpp (kn_or_ok (kl_ok (List.forall_mem_cons.mpr ⟨rxo10, List.forall_mem_cons.mpr ⟨rxo11, fun _ h => (by cases h)⟩⟩)) rk_ok) nw_class (fun h => by cases h) rxq_net
def rxr_ring : con := (247, [(2, 162, 1)], [], [some (0, -2147483648, 2147483647)], [], 95, 5800, false)
theorem rxq_ring : con_chkS (kn_or (kl bB rxF [rxt71]) rk) PT bB 198 rxF0 rxJ rxjo rxP [] 1041 rxr_ring = true := fq_chkS2 (fq_jn_eq _) rfl (by decide +kernel)   -- 641
theorem rxw_ring : con_ok PT bB 198 rxF rxQ rxr_ring := con_chkS_ok rxle rxpp (kn_or_ok (kl_ok (List.forall_mem_cons.mpr ⟨rxo71, fun _ h => (by cases h)⟩)) rk_ok) nw_class (fun h => by cases h) rxq_ring
