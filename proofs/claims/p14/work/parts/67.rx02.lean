/-! contracts -/
def rxt31 : con := (220, [(2, 162, 1), (0, 0, 5), (0, 6, 2147483647), (0, (-2147483648), 2147483647)], [], [some (0, (-1), (-1))], [], 65, 3400, false)
theorem rxk31 : con_chk (kn_or (kl bB rxF []) rk) PT bB 198 rxF0 rxJ rxjo rxP 675 rxt31 = true := fq_chk2 (fq_jn_eq _) rfl (by decide +kernel)   -- X11_envoys
theorem rxo31 : con_ok PT bB 198 rxF rxQ rxt31 := con_chk_ok rxle rxpp (kn_or_ok (kl_ok (fun _ h => (by cases h))) rk_ok) nw_class (fun h => by cases h) rxk31
def rxt32 : con := (220, [(2, 162, 1), (0, 0, 5), (0, (-2147483648), (-1)), (0, (-2147483648), 2147483647)], [], [some (0, (-1), (-1))], [], 65, 3400, false)
theorem rxk32 : con_chk (kn_or (kl bB rxF []) rk) PT bB 198 rxF0 rxJ rxjo rxP 619 rxt32 = true := fq_chk2 (fq_jn_eq _) rfl (by decide +kernel)   -- X11_envoys
theorem rxo32 : con_ok PT bB 198 rxF rxQ rxt32 := con_chk_ok rxle rxpp (kn_or_ok (kl_ok (fun _ h => (by cases h))) rk_ok) nw_class (fun h => by cases h) rxk32
def rxt33 : con := (220, [(2, 162, 1), (0, 6, 2147483647), (0, 0, 5), (0, (-2147483648), 2147483647)], [], [some (0, (-1), (-1))], [], 65, 3400, false)
theorem rxk33 : con_chk (kn_or (kl bB rxF []) rk) PT bB 198 rxF0 rxJ rxjo rxP 485 rxt33 = true := fq_chk2 (fq_jn_eq _) rfl (by decide +kernel)   -- X11_envoys
theorem rxo33 : con_ok PT bB 198 rxF rxQ rxt33 := con_chk_ok rxle rxpp (kn_or_ok (kl_ok (fun _ h => (by cases h))) rk_ok) nw_class (fun h => by cases h) rxk33
def rxt34 : con := (220, [(2, 162, 1), (0, 6, 2147483647), (0, 6, 2147483647), (0, (-2147483648), 2147483647)], [], [some (0, (-1), (-1))], [], 65, 3400, false)
theorem rxk34 : con_chk (kn_or (kl bB rxF []) rk) PT bB 198 rxF0 rxJ rxjo rxP 485 rxt34 = true := fq_chk2 (fq_jn_eq _) rfl (by decide +kernel)   -- X11_envoys
theorem rxo34 : con_ok PT bB 198 rxF rxQ rxt34 := con_chk_ok rxle rxpp (kn_or_ok (kl_ok (fun _ h => (by cases h))) rk_ok) nw_class (fun h => by cases h) rxk34
def rxt35 : con := (220, [(2, 162, 1), (0, 6, 2147483647), (0, (-2147483648), (-1)), (0, (-2147483648), 2147483647)], [], [some (0, (-1), (-1))], [], 65, 3400, false)
theorem rxk35 : con_chk (kn_or (kl bB rxF []) rk) PT bB 198 rxF0 rxJ rxjo rxP 485 rxt35 = true := fq_chk2 (fq_jn_eq _) rfl (by decide +kernel)   -- X11_envoys
theorem rxo35 : con_ok PT bB 198 rxF rxQ rxt35 := con_chk_ok rxle rxpp (kn_or_ok (kl_ok (fun _ h => (by cases h))) rk_ok) nw_class (fun h => by cases h) rxk35
def rxt36 : con := (220, [(2, 162, 1), (0, (-2147483648), (-1)), (0, 0, 5), (0, (-2147483648), 2147483647)], [], [some (0, (-1), (-1))], [], 65, 3400, false)
theorem rxk36 : con_chk (kn_or (kl bB rxF []) rk) PT bB 198 rxF0 rxJ rxjo rxP 429 rxt36 = true := fq_chk2 (fq_jn_eq _) rfl (by decide +kernel)   -- X11_envoys
theorem rxo36 : con_ok PT bB 198 rxF rxQ rxt36 := con_chk_ok rxle rxpp (kn_or_ok (kl_ok (fun _ h => (by cases h))) rk_ok) nw_class (fun h => by cases h) rxk36
def rxt37 : con := (220, [(2, 162, 1), (0, (-2147483648), (-1)), (0, 6, 2147483647), (0, (-2147483648), 2147483647)], [], [some (0, (-1), (-1))], [], 65, 3400, false)
theorem rxk37 : con_chk (kn_or (kl bB rxF []) rk) PT bB 198 rxF0 rxJ rxjo rxP 429 rxt37 = true := fq_chk2 (fq_jn_eq _) rfl (by decide +kernel)   -- X11_envoys
theorem rxo37 : con_ok PT bB 198 rxF rxQ rxt37 := con_chk_ok rxle rxpp (kn_or_ok (kl_ok (fun _ h => (by cases h))) rk_ok) nw_class (fun h => by cases h) rxk37
def rxt38 : con := (220, [(2, 162, 1), (0, (-2147483648), (-1)), (0, (-2147483648), (-1)), (0, (-2147483648), 2147483647)], [], [some (0, (-1), (-1))], [], 65, 3400, false)
theorem rxk38 : con_chk (kn_or (kl bB rxF []) rk) PT bB 198 rxF0 rxJ rxjo rxP 429 rxt38 = true := fq_chk2 (fq_jn_eq _) rfl (by decide +kernel)   -- X11_envoys
theorem rxo38 : con_ok PT bB 198 rxF rxQ rxt38 := con_chk_ok rxle rxpp (kn_or_ok (kl_ok (fun _ h => (by cases h))) rk_ok) nw_class (fun h => by cases h) rxk38
def rxt39 : con := (221, [(2, 162, 1), (0, 0, 5), (0, 0, 5)], [], [some (0, (-2), 9999)], [], 65, 3400, false)
theorem rxk39 : con_chk (kn_or (kl bB rxF []) rk) PT bB 198 rxF0 rxJ rxjo rxP 925 rxt39 = true := fq_chk2 (fq_jn_eq _) rfl (by decide +kernel)   -- X11_forgives
theorem rxo39 : con_ok PT bB 198 rxF rxQ rxt39 := con_chk_ok rxle rxpp (kn_or_ok (kl_ok (fun _ h => (by cases h))) rk_ok) nw_class (fun h => by cases h) rxk39
def rxt40 : con := (221, [(2, 162, 1), (0, 0, 5), (0, 6, 2147483647)], [], [some (0, (-1), (-1))], [], 65, 3400, false)
theorem rxk40 : con_chk (kn_or (kl bB rxF []) rk) PT bB 198 rxF0 rxJ rxjo rxP 675 rxt40 = true := fq_chk2 (fq_jn_eq _) rfl (by decide +kernel)   -- X11_forgives
theorem rxo40 : con_ok PT bB 198 rxF rxQ rxt40 := con_chk_ok rxle rxpp (kn_or_ok (kl_ok (fun _ h => (by cases h))) rk_ok) nw_class (fun h => by cases h) rxk40
def rxt41 : con := (221, [(2, 162, 1), (0, 0, 5), (0, (-2147483648), (-1))], [], [some (0, (-1), (-1))], [], 65, 3400, false)
theorem rxk41 : con_chk (kn_or (kl bB rxF []) rk) PT bB 198 rxF0 rxJ rxjo rxP 619 rxt41 = true := fq_chk2 (fq_jn_eq _) rfl (by decide +kernel)   -- X11_forgives
theorem rxo41 : con_ok PT bB 198 rxF rxQ rxt41 := con_chk_ok rxle rxpp (kn_or_ok (kl_ok (fun _ h => (by cases h))) rk_ok) nw_class (fun h => by cases h) rxk41
def rxt42 : con := (221, [(2, 162, 1), (0, 6, 2147483647), (0, 0, 5)], [], [some (0, (-1), (-1))], [], 65, 3400, false)
theorem rxk42 : con_chk (kn_or (kl bB rxF []) rk) PT bB 198 rxF0 rxJ rxjo rxP 485 rxt42 = true := fq_chk2 (fq_jn_eq _) rfl (by decide +kernel)   -- X11_forgives
theorem rxo42 : con_ok PT bB 198 rxF rxQ rxt42 := con_chk_ok rxle rxpp (kn_or_ok (kl_ok (fun _ h => (by cases h))) rk_ok) nw_class (fun h => by cases h) rxk42
def rxt43 : con := (221, [(2, 162, 1), (0, 6, 2147483647), (0, 6, 2147483647)], [], [some (0, (-1), (-1))], [], 65, 3400, false)
theorem rxk43 : con_chk (kn_or (kl bB rxF []) rk) PT bB 198 rxF0 rxJ rxjo rxP 485 rxt43 = true := fq_chk2 (fq_jn_eq _) rfl (by decide +kernel)   -- X11_forgives
theorem rxo43 : con_ok PT bB 198 rxF rxQ rxt43 := con_chk_ok rxle rxpp (kn_or_ok (kl_ok (fun _ h => (by cases h))) rk_ok) nw_class (fun h => by cases h) rxk43
def rxt44 : con := (221, [(2, 162, 1), (0, 6, 2147483647), (0, (-2147483648), (-1))], [], [some (0, (-1), (-1))], [], 65, 3400, false)
theorem rxk44 : con_chk (kn_or (kl bB rxF []) rk) PT bB 198 rxF0 rxJ rxjo rxP 485 rxt44 = true := fq_chk2 (fq_jn_eq _) rfl (by decide +kernel)   -- X11_forgives
theorem rxo44 : con_ok PT bB 198 rxF rxQ rxt44 := con_chk_ok rxle rxpp (kn_or_ok (kl_ok (fun _ h => (by cases h))) rk_ok) nw_class (fun h => by cases h) rxk44
def rxt45 : con := (221, [(2, 162, 1), (0, (-2147483648), (-1)), (0, 0, 5)], [], [some (0, (-1), (-1))], [], 65, 3400, false)
theorem rxk45 : con_chk (kn_or (kl bB rxF []) rk) PT bB 198 rxF0 rxJ rxjo rxP 429 rxt45 = true := fq_chk2 (fq_jn_eq _) rfl (by decide +kernel)   -- X11_forgives
theorem rxo45 : con_ok PT bB 198 rxF rxQ rxt45 := con_chk_ok rxle rxpp (kn_or_ok (kl_ok (fun _ h => (by cases h))) rk_ok) nw_class (fun h => by cases h) rxk45
def rxt46 : con := (221, [(2, 162, 1), (0, (-2147483648), (-1)), (0, 6, 2147483647)], [], [some (0, (-1), (-1))], [], 65, 3400, false)
theorem rxk46 : con_chk (kn_or (kl bB rxF []) rk) PT bB 198 rxF0 rxJ rxjo rxP 429 rxt46 = true := fq_chk2 (fq_jn_eq _) rfl (by decide +kernel)   -- X11_forgives
theorem rxo46 : con_ok PT bB 198 rxF rxQ rxt46 := con_chk_ok rxle rxpp (kn_or_ok (kl_ok (fun _ h => (by cases h))) rk_ok) nw_class (fun h => by cases h) rxk46
def rxt47 : con := (221, [(2, 162, 1), (0, (-2147483648), (-1)), (0, (-2147483648), (-1))], [], [some (0, (-1), (-1))], [], 65, 3400, false)
theorem rxk47 : con_chk (kn_or (kl bB rxF []) rk) PT bB 198 rxF0 rxJ rxjo rxP 429 rxt47 = true := fq_chk2 (fq_jn_eq _) rfl (by decide +kernel)   -- X11_forgives
theorem rxo47 : con_ok PT bB 198 rxF rxQ rxt47 := con_chk_ok rxle rxpp (kn_or_ok (kl_ok (fun _ h => (by cases h))) rk_ok) nw_class (fun h => by cases h) rxk47
def rxt48 : con := (227, [(2, 162, 1), (0, 0, 35)], [], [some (0, 0, 1)], [], 80, 4600, false)
theorem rxk48 : con_chk (kn_or (kl bB rxF [rxt16, rxt17, rxt18, rxt19, rxt20, rxt21, rxt22, rxt23, rxt24, rxt28, rxt30, rxt31, rxt32, rxt33, rxt34, rxt35, rxt36, rxt37, rxt38, rxt39, rxt40, rxt41, rxt42, rxt43, rxt44, rxt45, rxt46, rxt47]) rk) PT bB 198 rxF0 rxJ rxjo rxP 685 rxt48 = true := fq_chk2 (fq_jn_eq _) rfl (by decide +kernel)   -- X11_does
theorem rxo48 : con_ok PT bB 198 rxF rxQ rxt48 := con_chk_ok rxle rxpp (kn_or_ok (kl_ok (List.forall_mem_cons.mpr ⟨rxo16, List.forall_mem_cons.mpr ⟨rxo17, List.forall_mem_cons.mpr ⟨rxo18, List.forall_mem_cons.mpr ⟨rxo19, List.forall_mem_cons.mpr ⟨rxo20, List.forall_mem_cons.mpr ⟨rxo21, List.forall_mem_cons.mpr ⟨rxo22, List.forall_mem_cons.mpr ⟨rxo23, List.forall_mem_cons.mpr ⟨rxo24, List.forall_mem_cons.mpr ⟨rxo28, List.forall_mem_cons.mpr ⟨rxo30, List.forall_mem_cons.mpr ⟨rxo31, List.forall_mem_cons.mpr ⟨rxo32, List.forall_mem_cons.mpr ⟨rxo33, List.forall_mem_cons.mpr ⟨rxo34, List.forall_mem_cons.mpr ⟨rxo35, List.forall_mem_cons.mpr ⟨rxo36, List.forall_mem_cons.mpr ⟨rxo37, List.forall_mem_cons.mpr ⟨rxo38, List.forall_mem_cons.mpr ⟨rxo39, List.forall_mem_cons.mpr ⟨rxo40, List.forall_mem_cons.mpr ⟨rxo41, List.forall_mem_cons.mpr ⟨rxo42, List.forall_mem_cons.mpr ⟨rxo43, List.forall_mem_cons.mpr ⟨rxo44, List.forall_mem_cons.mpr ⟨rxo45, List.forall_mem_cons.mpr ⟨rxo46, List.forall_mem_cons.mpr ⟨rxo47, fun _ h => (by cases h)⟩⟩⟩⟩⟩⟩⟩⟩⟩⟩⟩⟩⟩⟩⟩⟩⟩⟩⟩⟩⟩⟩⟩⟩⟩⟩⟩⟩)) rk_ok) nw_class (fun h => by cases h) rxk48
def rxt49 : con := (233, [(2, 162, 1), (0, 0, 0), (0, 0, 0), (0, 0, 0), (0, 0, 5), (0, 0, 5)], [], [none], [], 65, 3400, false)
theorem rxk49 : con_chk (kn_or (kl bB rxF []) rk) PT bB 198 rxF0 rxJ rxjo rxP 446 rxt49 = true := fq_chk2 (fq_jn_eq _) rfl (by decide +kernel)   -- X11_winsBy
theorem rxo49 : con_ok PT bB 198 rxF rxQ rxt49 := con_chk_ok rxle rxpp (kn_or_ok (kl_ok (fun _ h => (by cases h))) rk_ok) nw_class (fun h => by cases h) rxk49
def rxt50 : con := (233, [(2, 162, 1), (0, 1, 1), (0, 1, 1), (0, 1, 128), (0, 0, 5), (0, 0, 5)], [], [none], [], 80, 4600, false)
theorem rxk50 : con_chk (kn_or (kl bB rxF [rxt25]) rk) PT bB 198 rxF0 rxJ rxjo rxP 492 rxt50 = true := fq_chk2 (fq_jn_eq _) rfl (by decide +kernel)   -- X11_winsBy
theorem rxo50 : con_ok PT bB 198 rxF rxQ rxt50 := con_chk_ok rxle rxpp (kn_or_ok (kl_ok (List.forall_mem_cons.mpr ⟨rxo25, fun _ h => (by cases h)⟩)) rk_ok) nw_class (fun h => by cases h) rxk50
def rxt51 : con := (233, [(2, 162, 1), (0, 0, 0), (0, 1, 1), (0, 0, 0), (0, 0, 5), (0, 0, 5)], [], [none], [], 85, 5000, false)
theorem rxk51 : con_chk (kn_or (kl bB rxF [rxt50]) rk) PT bB 198 rxF0 rxJ rxjo rxP 914 rxt51 = true := fq_chk2 (fq_jn_eq _) rfl (by decide +kernel)   -- X11_winsBy
theorem rxo51 : con_ok PT bB 198 rxF rxQ rxt51 := con_chk_ok rxle rxpp (kn_or_ok (kl_ok (List.forall_mem_cons.mpr ⟨rxo50, fun _ h => (by cases h)⟩)) rk_ok) nw_class (fun h => by cases h) rxk51
def rxt52 : con := (233, [(2, 162, 1), (0, 2, 2), (0, 2, 2), (0, 0, 256), (0, 0, 5), (0, 0, 5)], [], [none], [], 80, 4600, false)
theorem rxk52 : con_chk (kn_or (kl bB rxF [rxt25]) rk) PT bB 198 rxF0 rxJ rxjo rxP 530 rxt52 = true := fq_chk2 (fq_jn_eq _) rfl (by decide +kernel)   -- X11_winsBy
theorem rxo52 : con_ok PT bB 198 rxF rxQ rxt52 := con_chk_ok rxle rxpp (kn_or_ok (kl_ok (List.forall_mem_cons.mpr ⟨rxo25, fun _ h => (by cases h)⟩)) rk_ok) nw_class (fun h => by cases h) rxk52
def rxt53 : con := (233, [(2, 162, 1), (0, 1, 1), (0, 2, 2), (0, 1, 128), (0, 0, 5), (0, 0, 5)], [], [none], [], 85, 5000, false)
theorem rxk53 : con_chk (kn_or (kl bB rxF [rxt52]) rk) PT bB 198 rxF0 rxJ rxjo rxP 930 rxt53 = true := fq_chk2 (fq_jn_eq _) rfl (by decide +kernel)   -- X11_winsBy
theorem rxo53 : con_ok PT bB 198 rxF rxQ rxt53 := con_chk_ok rxle rxpp (kn_or_ok (kl_ok (List.forall_mem_cons.mpr ⟨rxo52, fun _ h => (by cases h)⟩)) rk_ok) nw_class (fun h => by cases h) rxk53
def rxt54 : con := (233, [(2, 162, 1), (0, 0, 0), (0, 2, 2), (0, 0, 0), (0, 0, 5), (0, 0, 5)], [], [none], [], 90, 5400, false)
theorem rxk54 : con_chk (kn_or (kl bB rxF [rxt53]) rk) PT bB 198 rxF0 rxJ rxjo rxP 914 rxt54 = true := fq_chk2 (fq_jn_eq _) rfl (by decide +kernel)   -- X11_winsBy
theorem rxo54 : con_ok PT bB 198 rxF rxQ rxt54 := con_chk_ok rxle rxpp (kn_or_ok (kl_ok (List.forall_mem_cons.mpr ⟨rxo53, fun _ h => (by cases h)⟩)) rk_ok) nw_class (fun h => by cases h) rxk54
def rxt55 : con := (233, [(2, 162, 1), (0, 3, 3), (0, 3, 3), (0, 0, 511), (0, 0, 5), (0, 0, 5)], [], [none], [], 80, 4600, false)
theorem rxk55 : con_chk (kn_or (kl bB rxF [rxt25]) rk) PT bB 198 rxF0 rxJ rxjo rxP 568 rxt55 = true := fq_chk2 (fq_jn_eq _) rfl (by decide +kernel)   -- X11_winsBy
theorem rxo55 : con_ok PT bB 198 rxF rxQ rxt55 := con_chk_ok rxle rxpp (kn_or_ok (kl_ok (List.forall_mem_cons.mpr ⟨rxo25, fun _ h => (by cases h)⟩)) rk_ok) nw_class (fun h => by cases h) rxk55
def rxt56 : con := (233, [(2, 162, 1), (0, 2, 2), (0, 3, 3), (0, 0, 256), (0, 0, 5), (0, 0, 5)], [], [none], [], 85, 5000, false)
theorem rxk56 : con_chk (kn_or (kl bB rxF [rxt55]) rk) PT bB 198 rxF0 rxJ rxjo rxP 930 rxt56 = true := fq_chk2 (fq_jn_eq _) rfl (by decide +kernel)   -- X11_winsBy
theorem rxo56 : con_ok PT bB 198 rxF rxQ rxt56 := con_chk_ok rxle rxpp (kn_or_ok (kl_ok (List.forall_mem_cons.mpr ⟨rxo55, fun _ h => (by cases h)⟩)) rk_ok) nw_class (fun h => by cases h) rxk56
def rxt57 : con := (233, [(2, 162, 1), (0, 1, 1), (0, 3, 3), (0, 1, 128), (0, 0, 5), (0, 0, 5)], [], [none], [], 90, 5400, false)
theorem rxk57 : con_chk (kn_or (kl bB rxF [rxt56]) rk) PT bB 198 rxF0 rxJ rxjo rxP 930 rxt57 = true := fq_chk2 (fq_jn_eq _) rfl (by decide +kernel)   -- X11_winsBy
theorem rxo57 : con_ok PT bB 198 rxF rxQ rxt57 := con_chk_ok rxle rxpp (kn_or_ok (kl_ok (List.forall_mem_cons.mpr ⟨rxo56, fun _ h => (by cases h)⟩)) rk_ok) nw_class (fun h => by cases h) rxk57
def rxt58 : con := (233, [(2, 162, 1), (0, 0, 0), (0, 3, 3), (0, 0, 0), (0, 0, 5), (0, 0, 5)], [], [none], [], 95, 5800, false)
theorem rxk58 : con_chk (kn_or (kl bB rxF [rxt57]) rk) PT bB 198 rxF0 rxJ rxjo rxP 914 rxt58 = true := fq_chk2 (fq_jn_eq _) rfl (by decide +kernel)   -- X11_winsBy
theorem rxo58 : con_ok PT bB 198 rxF rxQ rxt58 := con_chk_ok rxle rxpp (kn_or_ok (kl_ok (List.forall_mem_cons.mpr ⟨rxo57, fun _ h => (by cases h)⟩)) rk_ok) nw_class (fun h => by cases h) rxk58
def rxt59 : con := (233, [(2, 162, 1), (0, 4, 4), (0, 4, 4), (0, 0, 999), (0, 0, 5), (0, 0, 5)], [], [none], [], 80, 4600, false)
theorem rxk59 : con_chk (kn_or (kl bB rxF [rxt25]) rk) PT bB 198 rxF0 rxJ rxjo rxP 606 rxt59 = true := fq_chk2 (fq_jn_eq _) rfl (by decide +kernel)   -- X11_winsBy
theorem rxo59 : con_ok PT bB 198 rxF rxQ rxt59 := con_chk_ok rxle rxpp (kn_or_ok (kl_ok (List.forall_mem_cons.mpr ⟨rxo25, fun _ h => (by cases h)⟩)) rk_ok) nw_class (fun h => by cases h) rxk59
def rxt60 : con := (233, [(2, 162, 1), (0, 3, 3), (0, 4, 4), (0, 0, 511), (0, 0, 5), (0, 0, 5)], [], [none], [], 85, 5000, false)
theorem rxk60 : con_chk (kn_or (kl bB rxF [rxt59]) rk) PT bB 198 rxF0 rxJ rxjo rxP 930 rxt60 = true := fq_chk2 (fq_jn_eq _) rfl (by decide +kernel)   -- X11_winsBy
theorem rxo60 : con_ok PT bB 198 rxF rxQ rxt60 := con_chk_ok rxle rxpp (kn_or_ok (kl_ok (List.forall_mem_cons.mpr ⟨rxo59, fun _ h => (by cases h)⟩)) rk_ok) nw_class (fun h => by cases h) rxk60
