/-! contracts -/
def rxt0 : con := (174, [(2, 162, 1), (2, 170, 1), (0, 0, 5)], [], [some (0, 0, 255)], [], 65, 3400, true)
theorem rxk0 : con_chk (kn_or (kl bB rxF []) rk) PT bB 198 rxF0 rxJ rxjo rxP 722 rxt0 = true := fq_chk2 (fq_jn_eq _) rfl (by decide +kernel)   -- X11_giftsOf
theorem rxo0 : con_ok PT bB 198 rxF rxQ rxt0 := con_chk_ok rxle rxpp (kn_or_ok (kl_ok (fun _ h => (by cases h))) rk_ok) nw_class (fun _ => by decide) rxk0
def rxt1 : con := (174, [(2, 162, 1), (2, 171, 1), (0, 0, 5)], [], [some (0, 0, 255)], [], 65, 3400, true)
theorem rxk1 : con_chk (kn_or (kl bB rxF []) rk) PT bB 198 rxF0 rxJ rxjo rxP 722 rxt1 = true := fq_chk2 (fq_jn_eq _) rfl (by decide +kernel)   -- X11_giftsOf
theorem rxo1 : con_ok PT bB 198 rxF rxQ rxt1 := con_chk_ok rxle rxpp (kn_or_ok (kl_ok (fun _ h => (by cases h))) rk_ok) nw_class (fun _ => by decide) rxk1
def rxt2 : con := (175, [(2, 170, 1), (0, 0, 5), (0, 0, 5)], [], [some (0, 0, 1)], [], 65, 3400, true)
theorem rxk2 : con_chk (kn_or (kl bB rxF []) rk) PT bB 198 rxF0 rxJ rxjo rxP 439 rxt2 = true := fq_chk2 (fq_jn_eq _) rfl (by decide +kernel)   -- X11_areAllied
theorem rxo2 : con_ok PT bB 198 rxF rxQ rxt2 := con_chk_ok rxle rxpp (kn_or_ok (kl_ok (fun _ h => (by cases h))) rk_ok) nw_class (fun _ => by decide) rxk2
def rxt3 : con := (176, [(2, 170, 1), (0, 0, 5), (0, 0, 5)], [], [some (0, 0, 1)], [], 65, 3400, true)
theorem rxk3 : con_chk (kn_or (kl bB rxF []) rk) PT bB 198 rxF0 rxJ rxjo rxP 437 rxt3 = true := fq_chk2 (fq_jn_eq _) rfl (by decide +kernel)   -- X11_areAtWar
theorem rxo3 : con_ok PT bB 198 rxF rxQ rxt3 := con_chk_ok rxle rxpp (kn_or_ok (kl_ok (fun _ h => (by cases h))) rk_ok) nw_class (fun _ => by decide) rxk3
def rxt4 : con := (177, [(2, 162, 1), (2, 170, 1)], [], [some (0, 0, 5994)], [], 65, 3400, true)
theorem rxk4 : con_chk (kn_or (kl bB rxF []) rk) PT bB 198 rxF0 rxJ rxjo rxP 566 rxt4 = true := fq_chk2 (fq_jn_eq _) rfl (by decide +kernel)   -- X11_grainAll
theorem rxo4 : con_ok PT bB 198 rxF rxQ rxt4 := con_chk_ok rxle rxpp (kn_or_ok (kl_ok (fun _ h => (by cases h))) rk_ok) nw_class (fun _ => by decide) rxk4
def rxt5 : con := (270, [(0, (-2147483648), 2147483647)], [], [some (0, 0, 1010580540)], [], 65, 3400, true)
theorem rxk5 : con_chk (kn_or (kl bB rxF []) rk) PT bB 198 rxF0 rxJ rxjo rxP 442 rxt5 = true := fq_chk2 (fq_jn_eq _) rfl (by decide +kernel)   -- J6_bitCount_0f7a4
theorem rxo5 : con_ok PT bB 198 rxF rxQ rxt5 := con_chk_ok rxle rxpp (kn_or_ok (kl_ok (fun _ h => (by cases h))) rk_ok) nw_class (fun _ => by decide) rxk5
def rxt6 : con := (201, [(2, 162, 1), (2, 170, 1), (0, 0, 7), (0, 0, 5)], [], [some (0, 0, 999)], [], 70, 3800, false)
theorem rxk6 : con_chk (kn_or (kl bB rxF [rxt5]) rk) PT bB 198 rxF0 rxJ rxjo rxP 501 rxt6 = true := fq_chk2 (fq_jn_eq _) rfl (by decide +kernel)   -- X11_valueOf
theorem rxo6 : con_ok PT bB 198 rxF rxQ rxt6 := con_chk_ok rxle rxpp (kn_or_ok (kl_ok (List.forall_mem_cons.mpr ⟨rxo5, fun _ h => (by cases h)⟩)) rk_ok) nw_class (fun h => by cases h) rxk6
def rxt7 : con := (201, [(2, 162, 1), (2, 171, 1), (0, 0, 7), (0, 0, 5)], [], [some (0, 0, 999)], [], 70, 3800, false)
theorem rxk7 : con_chk (kn_or (kl bB rxF [rxt5]) rk) PT bB 198 rxF0 rxJ rxjo rxP 501 rxt7 = true := fq_chk2 (fq_jn_eq _) rfl (by decide +kernel)   -- X11_valueOf
theorem rxo7 : con_ok PT bB 198 rxF rxQ rxt7 := con_chk_ok rxle rxpp (kn_or_ok (kl_ok (List.forall_mem_cons.mpr ⟨rxo5, fun _ h => (by cases h)⟩)) rk_ok) nw_class (fun h => by cases h) rxk7
def rxt8 : con := (202, [(2, 162, 1), (0, 0, 5)], [], [some (0, 0, 63)], [], 70, 3800, true)
theorem rxk8 : con_chk (kn_or (kl bB rxF [rxt2]) rk) PT bB 198 rxF0 rxJ rxjo rxP 614 rxt8 = true := fq_chk2 (fq_jn_eq _) rfl (by decide +kernel)   -- X11_alliedTo
theorem rxo8 : con_ok PT bB 198 rxF rxQ rxt8 := con_chk_ok rxle rxpp (kn_or_ok (kl_ok (List.forall_mem_cons.mpr ⟨rxo2, fun _ h => (by cases h)⟩)) rk_ok) nw_class (fun _ => by decide) rxk8
def rxt9 : con := (203, [(2, 162, 1), (0, 0, 5)], [], [some (0, 0, 63)], [], 70, 3800, true)
theorem rxk9 : con_chk (kn_or (kl bB rxF [rxt3]) rk) PT bB 198 rxF0 rxJ rxjo rxP 614 rxt9 = true := fq_chk2 (fq_jn_eq _) rfl (by decide +kernel)   -- X11_atWarWith
theorem rxo9 : con_ok PT bB 198 rxF rxQ rxt9 := con_chk_ok rxle rxpp (kn_or_ok (kl_ok (List.forall_mem_cons.mpr ⟨rxo3, fun _ h => (by cases h)⟩)) rk_ok) nw_class (fun _ => by decide) rxk9
def rxt10 : con := (204, [(2, 162, 1), (0, 0, 5)], [], [some (0, 0, 59994)], [], 65, 3400, true)
theorem rxk10 : con_chk (kn_or (kl bB rxF []) rk) PT bB 198 rxF0 rxJ rxjo rxP 638 rxt10 = true := fq_chk2 (fq_jn_eq _) rfl (by decide +kernel)   -- X11_owesAll
theorem rxo10 : con_ok PT bB 198 rxF rxQ rxt10 := con_chk_ok rxle rxpp (kn_or_ok (kl_ok (fun _ h => (by cases h))) rk_ok) nw_class (fun _ => by decide) rxk10
def rxt11 : con := (205, [(2, 162, 1), (0, 0, 5)], [], [some (0, 0, 59994)], [], 65, 3400, true)
theorem rxk11 : con_chk (kn_or (kl bB rxF []) rk) PT bB 198 rxF0 rxJ rxjo rxP 638 rxt11 = true := fq_chk2 (fq_jn_eq _) rfl (by decide +kernel)   -- X11_owedAll
theorem rxo11 : con_ok PT bB 198 rxF rxQ rxt11 := con_chk_ok rxle rxpp (kn_or_ok (kl_ok (fun _ h => (by cases h))) rk_ok) nw_class (fun _ => by decide) rxk11
def rxt12 : con := (213, [(2, 162, 1), (0, (-2), 9999)], [], [some (0, (-2), 9999)], [], 65, 3400, false)
theorem rxk12 : con_chk (kn_or (kl bB rxF []) rk) PT bB 198 rxF0 rxJ rxjo rxP 410 rxt12 = true := fq_chk2 (fq_jn_eq _) rfl (by decide +kernel)   -- X11_counts
theorem rxo12 : con_ok PT bB 198 rxF rxQ rxt12 := con_chk_ok rxle rxpp (kn_or_ok (kl_ok (fun _ h => (by cases h))) rk_ok) nw_class (fun h => by cases h) rxk12
def rxt13 : con := (215, [(2, 170, 1), (0, 0, 5), (0, 0, 5), (0, (-9), 9)], [], [some (0, 0, 20)], [], 65, 3400, false)
theorem rxk13 : con_chk (kn_or (kl bB rxF []) rk) PT bB 198 rxF0 rxJ rxjo rxP 424 rxt13 = true := fq_chk2 (fq_jn_eq _) rfl (by decide +kernel)   -- X11_grows
theorem rxo13 : con_ok PT bB 198 rxF rxQ rxt13 := con_chk_ok rxle rxpp (kn_or_ok (kl_ok (fun _ h => (by cases h))) rk_ok) nw_class (fun h => by cases h) rxk13
def rxt14 : con := (215, [(2, 171, 1), (0, 0, 5), (0, 0, 5), (0, (-6), 4)], [], [some (0, 0, 20)], [], 65, 3400, false)
theorem rxk14 : con_chk (kn_or (kl bB rxF []) rk) PT bB 198 rxF0 rxJ rxjo rxP 424 rxt14 = true := fq_chk2 (fq_jn_eq _) rfl (by decide +kernel)   -- X11_grows
theorem rxo14 : con_ok PT bB 198 rxF rxQ rxt14 := con_chk_ok rxle rxpp (kn_or_ok (kl_ok (fun _ h => (by cases h))) rk_ok) nw_class (fun h => by cases h) rxk14
def rxt15 : con := (216, [(0, 0, 999), (0, 0, 9999)], [], [some (0, (-5), 4)], [], 65, 3400, true)
theorem rxk15 : con_chk (kn_or (kl bB rxF []) rk) PT bB 198 rxF0 rxJ rxjo rxP 422 rxt15 = true := fq_chk2 (fq_jn_eq _) rfl (by decide +kernel)   -- X11_moved
theorem rxo15 : con_ok PT bB 198 rxF rxQ rxt15 := con_chk_ok rxle rxpp (kn_or_ok (kl_ok (fun _ h => (by cases h))) rk_ok) nw_class (fun _ => by decide) rxk15
def rxt16 : con := (217, [(2, 162, 1), (2, 170, 1), (0, 0, 7), (0, 0, 5)], [], [some (0, (-2), 20)], [], 75, 4200, false)
theorem rxk16 : con_chk (kn_or (kl bB rxF [rxt6, rxt13, rxt15]) rk) PT bB 198 rxF0 rxJ rxjo rxP 1179 rxt16 = true := fq_chk2 (fq_jn_eq _) rfl (by decide +kernel)   -- X11_sends
theorem rxo16 : con_ok PT bB 198 rxF rxQ rxt16 := con_chk_ok rxle rxpp (kn_or_ok (kl_ok (List.forall_mem_cons.mpr ⟨rxo6, List.forall_mem_cons.mpr ⟨rxo13, List.forall_mem_cons.mpr ⟨rxo15, fun _ h => (by cases h)⟩⟩⟩)) rk_ok) nw_class (fun h => by cases h) rxk16
def rxt17 : con := (217, [(2, 162, 1), (2, 170, 1), (0, 0, 7), (0, 6, 2147483647)], [], [some (0, (-1), (-1))], [], 65, 3400, false)
theorem rxk17 : con_chk (kn_or (kl bB rxF []) rk) PT bB 198 rxF0 rxJ rxjo rxP 788 rxt17 = true := fq_chk2 (fq_jn_eq _) rfl (by decide +kernel)   -- X11_sends
theorem rxo17 : con_ok PT bB 198 rxF rxQ rxt17 := con_chk_ok rxle rxpp (kn_or_ok (kl_ok (fun _ h => (by cases h))) rk_ok) nw_class (fun h => by cases h) rxk17
def rxt18 : con := (217, [(2, 162, 1), (2, 170, 1), (0, 0, 7), (0, (-2147483648), (-1))], [], [some (0, (-1), (-1))], [], 65, 3400, false)
theorem rxk18 : con_chk (kn_or (kl bB rxF []) rk) PT bB 198 rxF0 rxJ rxjo rxP 732 rxt18 = true := fq_chk2 (fq_jn_eq _) rfl (by decide +kernel)   -- X11_sends
theorem rxo18 : con_ok PT bB 198 rxF rxQ rxt18 := con_chk_ok rxle rxpp (kn_or_ok (kl_ok (fun _ h => (by cases h))) rk_ok) nw_class (fun h => by cases h) rxk18
def rxt19 : con := (217, [(2, 162, 1), (2, 170, 1), (0, 8, 2147483647), (0, 0, 5)], [], [some (0, (-1), (-1))], [], 65, 3400, false)
theorem rxk19 : con_chk (kn_or (kl bB rxF []) rk) PT bB 198 rxF0 rxJ rxjo rxP 458 rxt19 = true := fq_chk2 (fq_jn_eq _) rfl (by decide +kernel)   -- X11_sends
theorem rxo19 : con_ok PT bB 198 rxF rxQ rxt19 := con_chk_ok rxle rxpp (kn_or_ok (kl_ok (fun _ h => (by cases h))) rk_ok) nw_class (fun h => by cases h) rxk19
def rxt20 : con := (217, [(2, 162, 1), (2, 170, 1), (0, 8, 2147483647), (0, 6, 2147483647)], [], [some (0, (-1), (-1))], [], 65, 3400, false)
theorem rxk20 : con_chk (kn_or (kl bB rxF []) rk) PT bB 198 rxF0 rxJ rxjo rxP 458 rxt20 = true := fq_chk2 (fq_jn_eq _) rfl (by decide +kernel)   -- X11_sends
theorem rxo20 : con_ok PT bB 198 rxF rxQ rxt20 := con_chk_ok rxle rxpp (kn_or_ok (kl_ok (fun _ h => (by cases h))) rk_ok) nw_class (fun h => by cases h) rxk20
def rxt21 : con := (217, [(2, 162, 1), (2, 170, 1), (0, 8, 2147483647), (0, (-2147483648), (-1))], [], [some (0, (-1), (-1))], [], 65, 3400, false)
theorem rxk21 : con_chk (kn_or (kl bB rxF []) rk) PT bB 198 rxF0 rxJ rxjo rxP 458 rxt21 = true := fq_chk2 (fq_jn_eq _) rfl (by decide +kernel)   -- X11_sends
theorem rxo21 : con_ok PT bB 198 rxF rxQ rxt21 := con_chk_ok rxle rxpp (kn_or_ok (kl_ok (fun _ h => (by cases h))) rk_ok) nw_class (fun h => by cases h) rxk21
def rxt22 : con := (217, [(2, 162, 1), (2, 170, 1), (0, (-2147483648), (-1)), (0, 0, 5)], [], [some (0, (-1), (-1))], [], 65, 3400, false)
theorem rxk22 : con_chk (kn_or (kl bB rxF []) rk) PT bB 198 rxF0 rxJ rxjo rxP 422 rxt22 = true := fq_chk2 (fq_jn_eq _) rfl (by decide +kernel)   -- X11_sends
theorem rxo22 : con_ok PT bB 198 rxF rxQ rxt22 := con_chk_ok rxle rxpp (kn_or_ok (kl_ok (fun _ h => (by cases h))) rk_ok) nw_class (fun h => by cases h) rxk22
def rxt23 : con := (217, [(2, 162, 1), (2, 170, 1), (0, (-2147483648), (-1)), (0, 6, 2147483647)], [], [some (0, (-1), (-1))], [], 65, 3400, false)
theorem rxk23 : con_chk (kn_or (kl bB rxF []) rk) PT bB 198 rxF0 rxJ rxjo rxP 422 rxt23 = true := fq_chk2 (fq_jn_eq _) rfl (by decide +kernel)   -- X11_sends
theorem rxo23 : con_ok PT bB 198 rxF rxQ rxt23 := con_chk_ok rxle rxpp (kn_or_ok (kl_ok (fun _ h => (by cases h))) rk_ok) nw_class (fun h => by cases h) rxk23
def rxt24 : con := (217, [(2, 162, 1), (2, 170, 1), (0, (-2147483648), (-1)), (0, (-2147483648), (-1))], [], [some (0, (-1), (-1))], [], 65, 3400, false)
theorem rxk24 : con_chk (kn_or (kl bB rxF []) rk) PT bB 198 rxF0 rxJ rxjo rxP 422 rxt24 = true := fq_chk2 (fq_jn_eq _) rfl (by decide +kernel)   -- X11_sends
theorem rxo24 : con_ok PT bB 198 rxF rxQ rxt24 := con_chk_ok rxle rxpp (kn_or_ok (kl_ok (fun _ h => (by cases h))) rk_ok) nw_class (fun h => by cases h) rxk24
def rxt25 : con := (217, [(2, 162, 1), (2, 171, 1), (0, 0, 7), (0, 0, 5)], [], [some (0, (-2), 20)], [], 75, 4200, false)
theorem rxk25 : con_chk (kn_or (kl bB rxF [rxt7, rxt14, rxt15]) rk) PT bB 198 rxF0 rxJ rxjo rxP 1179 rxt25 = true := fq_chk2 (fq_jn_eq _) rfl (by decide +kernel)   -- X11_sends
theorem rxo25 : con_ok PT bB 198 rxF rxQ rxt25 := con_chk_ok rxle rxpp (kn_or_ok (kl_ok (List.forall_mem_cons.mpr ⟨rxo7, List.forall_mem_cons.mpr ⟨rxo14, List.forall_mem_cons.mpr ⟨rxo15, fun _ h => (by cases h)⟩⟩⟩)) rk_ok) nw_class (fun h => by cases h) rxk25
def rxt26 : con := (218, [(2, 162, 1), (2, 170, 1), (0, 0, 7)], [], [some (0, 0, 1)], [], 65, 3400, true)
theorem rxk26 : con_chk (kn_or (kl bB rxF []) rk) PT bB 198 rxF0 rxJ rxjo rxP 437 rxt26 = true := fq_chk2 (fq_jn_eq _) rfl (by decide +kernel)   -- X11_isHungry
theorem rxo26 : con_ok PT bB 198 rxF rxQ rxt26 := con_chk_ok rxle rxpp (kn_or_ok (kl_ok (fun _ h => (by cases h))) rk_ok) nw_class (fun _ => by decide) rxk26
def rxt27 : con := (218, [(2, 162, 1), (2, 171, 1), (0, 0, 7)], [], [some (0, 0, 1)], [], 65, 3400, true)
theorem rxk27 : con_chk (kn_or (kl bB rxF []) rk) PT bB 198 rxF0 rxJ rxjo rxP 437 rxt27 = true := fq_chk2 (fq_jn_eq _) rfl (by decide +kernel)   -- X11_isHungry
theorem rxo27 : con_ok PT bB 198 rxF rxQ rxt27 := con_chk_ok rxle rxpp (kn_or_ok (kl_ok (fun _ h => (by cases h))) rk_ok) nw_class (fun _ => by decide) rxk27
def rxt28 : con := (219, [(2, 162, 1), (2, 170, 1)], [], [none], [], 70, 3800, false)
theorem rxk28 : con_chk (kn_or (kl bB rxF [rxt26]) rk) PT bB 198 rxF0 rxJ rxjo rxP 1166 rxt28 = true := fq_chk2 (fq_jn_eq _) rfl (by decide +kernel)   -- X11_monthGoes
theorem rxo28 : con_ok PT bB 198 rxF rxQ rxt28 := con_chk_ok rxle rxpp (kn_or_ok (kl_ok (List.forall_mem_cons.mpr ⟨rxo26, fun _ h => (by cases h)⟩)) rk_ok) nw_class (fun h => by cases h) rxk28
def rxt29 : con := (219, [(2, 162, 1), (2, 171, 1)], [], [none], [], 70, 3800, false)
theorem rxk29 : con_chk (kn_or (kl bB rxF [rxt27]) rk) PT bB 198 rxF0 rxJ rxjo rxP 1166 rxt29 = true := fq_chk2 (fq_jn_eq _) rfl (by decide +kernel)   -- X11_monthGoes
theorem rxo29 : con_ok PT bB 198 rxF rxQ rxt29 := con_chk_ok rxle rxpp (kn_or_ok (kl_ok (List.forall_mem_cons.mpr ⟨rxo27, fun _ h => (by cases h)⟩)) rk_ok) nw_class (fun h => by cases h) rxk29
def rxt30 : con := (220, [(2, 162, 1), (0, 0, 5), (0, 0, 5), (0, (-2147483648), 2147483647)], [], [some (0, (-1), 20)], [], 70, 3800, false)
theorem rxk30 : con_chk (kn_or (kl bB rxF [rxt13]) rk) PT bB 198 rxF0 rxJ rxjo rxP 993 rxt30 = true := fq_chk2 (fq_jn_eq _) rfl (by decide +kernel)   -- X11_envoys
theorem rxo30 : con_ok PT bB 198 rxF rxQ rxt30 := con_chk_ok rxle rxpp (kn_or_ok (kl_ok (List.forall_mem_cons.mpr ⟨rxo13, fun _ h => (by cases h)⟩)) rk_ok) nw_class (fun h => by cases h) rxk30
