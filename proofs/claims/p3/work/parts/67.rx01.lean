section MH67rx01x0
/-! contracts -/
def rxt0 : con := (174, [(2, 162, 1), (2, 170, 1), (0, 0, 5)], [], [some (0, 0, 255)], [], 65, 3400, true)
theorem rxk0 : con_chk (kn_or (kl bB rxF []) rk) PT bB 198 rxF0 rxJ rxjo rxP 722 rxt0 = true := fq_chk2 (fq_jn_eq _) rfl (by decide +kernel)   -- X11_giftsOf
theorem rxo0 : con_ok PT bB 198 rxF rxQ rxt0 := con_chk_ok rxle rxpp (kn_or_ok (kl_ok (fun _ h => (by cases h))) rk_ok) nw_class (fun _ => by decide) rxk0
def rxt1 : con := (174, [(2, 162, 1), (2, 171, 1), (0, 0, 5)], [], [some (0, 0, 255)], [], 65, 3400, true)
theorem rxk1 : con_chk (kn_or (kl bB rxF []) rk) PT bB 198 rxF0 rxJ rxjo rxP 722 rxt1 = true := fq_chk2 (fq_jn_eq _) rfl (by decide +kernel)   -- X11_giftsOf
theorem rxo1 : con_ok PT bB 198 rxF rxQ rxt1 := con_chk_ok rxle rxpp (kn_or_ok (kl_ok (fun _ h => (by cases h))) rk_ok) nw_class (fun _ => by decide) rxk1
def rxt2 : con := (175, [(2, 170, 1), (0, 0, 5), (0, 0, 5)], [], [some (0, 0, 1)], [], 65, 3400, true)
theorem rxk2 : con_chk (kn_or (kl bB rxF []) rk) PT bB 198 rxF0 rxJ rxjo rxP 439 rxt2 = true := fq_chk2 (fq_jn_eq _) rfl (by decide +kernel)   -- X11_areAllied
theorem rxo2 : con_ok PT bB 198 rxF rxQ rxt2 := con_chk_ok rxle rxpp (kn_or_ok (kl_ok (fun _ h => (by cases h))) rk_ok) nw_class (fun _ => by decide) rxk2
def rxt3 : con := (176, [(2, 170, 1), (0, 0, 5), (0, 0, 5)], [], [some (0, 0, 1)], [], 65, 3400, true)
theorem rxk3 : con_chk (kn_or (kl bB rxF []) rk) PT bB 198 rxF0 rxJ rxjo rxP 437 rxt3 = true := fq_chk2 (fq_jn_eq _) rfl (by decide +kernel)   -- X11_areAtWar
theorem rxo3 : con_ok PT bB 198 rxF rxQ rxt3 := con_chk_ok rxle rxpp (kn_or_ok (kl_ok (fun _ h => (by cases h))) rk_ok) nw_class (fun _ => by decide) rxk3
def rxt4 : con := (177, [(2, 162, 1), (2, 170, 1)], [], [some (0, 0, 5994)], [], 65, 3400, true)
theorem rxk4 : con_chk (kn_or (kl bB rxF []) rk) PT bB 198 rxF0 rxJ rxjo rxP 566 rxt4 = true := fq_chk2 (fq_jn_eq _) rfl (by decide +kernel)   -- X11_grainAll
theorem rxo4 : con_ok PT bB 198 rxF rxQ rxt4 := con_chk_ok rxle rxpp (kn_or_ok (kl_ok (fun _ h => (by cases h))) rk_ok) nw_class (fun _ => by decide) rxk4
def rxt5 : con := (270, [(0, (-2147483648), 2147483647)], [], [some (0, 0, 1010580540)], [], 65, 3400, true)
theorem rxk5 : con_chk (kn_or (kl bB rxF []) rk) PT bB 198 rxF0 rxJ rxjo rxP 442 rxt5 = true := fq_chk2 (fq_jn_eq _) rfl (by decide +kernel)   -- J6_bitCount_0f7a4
theorem rxo5 : con_ok PT bB 198 rxF rxQ rxt5 := con_chk_ok rxle rxpp (kn_or_ok (kl_ok (fun _ h => (by cases h))) rk_ok) nw_class (fun _ => by decide) rxk5
def rxt6 : con := (201, [(2, 162, 1), (2, 170, 1), (0, 0, 7), (0, 0, 5)], [], [some (0, 0, 999)], [], 70, 3800, false)
theorem rxk6 : con_chk (kn_or (kl bB rxF [rxt5]) rk) PT bB 198 rxF0 rxJ rxjo rxP 501 rxt6 = true := fq_chk2 (fq_jn_eq _) rfl (by decide +kernel)   -- X11_valueOf
theorem rxo6 : con_ok PT bB 198 rxF rxQ rxt6 := con_chk_ok rxle rxpp (kn_or_ok (kl_ok (List.forall_mem_cons.mpr ⟨rxo5, fun _ h => (by cases h)⟩)) rk_ok) nw_class (fun h => by cases h) rxk6
def rxt7 : con := (201, [(2, 162, 1), (2, 171, 1), (0, 0, 7), (0, 0, 5)], [], [some (0, 0, 999)], [], 70, 3800, false)
theorem rxk7 : con_chk (kn_or (kl bB rxF [rxt5]) rk) PT bB 198 rxF0 rxJ rxjo rxP 501 rxt7 = true := fq_chk2 (fq_jn_eq _) rfl (by decide +kernel)   -- X11_valueOf
theorem rxo7 : con_ok PT bB 198 rxF rxQ rxt7 := con_chk_ok rxle rxpp (kn_or_ok (kl_ok (List.forall_mem_cons.mpr ⟨rxo5, fun _ h => (by cases h)⟩)) rk_ok) nw_class (fun h => by cases h) rxk7
def rxt8 : con := (202, [(2, 162, 1), (0, 0, 5)], [], [some (0, 0, 63)], [], 70, 3800, true)
theorem rxk8 : con_chk (kn_or (kl bB rxF [rxt2]) rk) PT bB 198 rxF0 rxJ rxjo rxP 614 rxt8 = true := fq_chk2 (fq_jn_eq _) rfl (by decide +kernel)   -- X11_alliedTo
theorem rxo8 : con_ok PT bB 198 rxF rxQ rxt8 := con_chk_ok rxle rxpp (kn_or_ok (kl_ok (List.forall_mem_cons.mpr ⟨rxo2, fun _ h => (by cases h)⟩)) rk_ok) nw_class (fun _ => by decide) rxk8
def rxt9 : con := (203, [(2, 162, 1), (0, 0, 5)], [], [some (0, 0, 63)], [], 70, 3800, true)
theorem rxk9 : con_chk (kn_or (kl bB rxF [rxt3]) rk) PT bB 198 rxF0 rxJ rxjo rxP 614 rxt9 = true := fq_chk2 (fq_jn_eq _) rfl (by decide +kernel)   -- X11_atWarWith
theorem rxo9 : con_ok PT bB 198 rxF rxQ rxt9 := con_chk_ok rxle rxpp (kn_or_ok (kl_ok (List.forall_mem_cons.mpr ⟨rxo3, fun _ h => (by cases h)⟩)) rk_ok) nw_class (fun _ => by decide) rxk9
def rxt10 : con := (204, [(2, 162, 1), (0, 0, 5)], [], [some (0, 0, 59994)], [], 65, 3400, true)
theorem rxk10 : con_chk (kn_or (kl bB rxF []) rk) PT bB 198 rxF0 rxJ rxjo rxP 638 rxt10 = true := fq_chk2 (fq_jn_eq _) rfl (by decide +kernel)   -- X11_owesAll
theorem rxo10 : con_ok PT bB 198 rxF rxQ rxt10 := con_chk_ok rxle rxpp (kn_or_ok (kl_ok (fun _ h => (by cases h))) rk_ok) nw_class (fun _ => by decide) rxk10
def rxt11 : con := (205, [(2, 162, 1), (0, 0, 5)], [], [some (0, 0, 59994)], [], 65, 3400, true)
theorem rxk11 : con_chk (kn_or (kl bB rxF []) rk) PT bB 198 rxF0 rxJ rxjo rxP 638 rxt11 = true := fq_chk2 (fq_jn_eq _) rfl (by decide +kernel)   -- X11_owedAll
theorem rxo11 : con_ok PT bB 198 rxF rxQ rxt11 := con_chk_ok rxle rxpp (kn_or_ok (kl_ok (fun _ h => (by cases h))) rk_ok) nw_class (fun _ => by decide) rxk11
def rxt12 : con := (213, [(2, 162, 1), (0, (-2), 9999)], [], [some (0, (-2), 9999)], [], 65, 3400, false)
theorem rxk12 : con_chk (kn_or (kl bB rxF []) rk) PT bB 198 rxF0 rxJ rxjo rxP 410 rxt12 = true := fq_chk2 (fq_jn_eq _) rfl (by decide +kernel)   -- X11_counts
theorem rxo12 : con_ok PT bB 198 rxF rxQ rxt12 := con_chk_ok rxle rxpp (kn_or_ok (kl_ok (fun _ h => (by cases h))) rk_ok) nw_class (fun h => by cases h) rxk12
def rxt13 : con := (215, [(2, 170, 1), (0, 0, 5), (0, 0, 5), (0, (-9), 9)], [], [some (0, 0, 20)], [], 65, 3400, false)
theorem rxk13 : con_chk (kn_or (kl bB rxF []) rk) PT bB 198 rxF0 rxJ rxjo rxP 424 rxt13 = true := fq_chk2 (fq_jn_eq _) rfl (by decide +kernel)   -- X11_grows
theorem rxo13 : con_ok PT bB 198 rxF rxQ rxt13 := con_chk_ok rxle rxpp (kn_or_ok (kl_ok (fun _ h => (by cases h))) rk_ok) nw_class (fun h => by cases h) rxk13
def rxt14 : con := (215, [(2, 171, 1), (0, 0, 5), (0, 0, 5), (0, (-6), 4)], [], [some (0, 0, 20)], [], 65, 3400, false)
theorem rxk14 : con_chk (kn_or (kl bB rxF []) rk) PT bB 198 rxF0 rxJ rxjo rxP 424 rxt14 = true := fq_chk2 (fq_jn_eq _) rfl (by decide +kernel)   -- X11_grows
theorem rxo14 : con_ok PT bB 198 rxF rxQ rxt14 := con_chk_ok rxle rxpp (kn_or_ok (kl_ok (fun _ h => (by cases h))) rk_ok) nw_class (fun h => by cases h) rxk14
def rxt15 : con := (216, [(0, 0, 999), (0, 0, 9999)], [], [some (0, (-5), 4)], [], 65, 3400, true)
theorem rxk15 : con_chk (kn_or (kl bB rxF []) rk) PT bB 198 rxF0 rxJ rxjo rxP 422 rxt15 = true := fq_chk2 (fq_jn_eq _) rfl (by decide +kernel)   -- X11_moved
theorem rxo15 : con_ok PT bB 198 rxF rxQ rxt15 := con_chk_ok rxle rxpp (kn_or_ok (kl_ok (fun _ h => (by cases h))) rk_ok) nw_class (fun _ => by decide) rxk15
def rxt16 : con := (217, [(2, 162, 1), (2, 170, 1), (0, 0, 7), (0, 0, 5)], [], [some (0, (-2), 20)], [], 75, 4200, false)
theorem rxk16 : con_chk (kn_or (kl bB rxF [rxt6, rxt13, rxt15]) rk) PT bB 198 rxF0 rxJ rxjo rxP 1179 rxt16 = true := fq_chk2 (fq_jn_eq _) rfl (by decide +kernel)   -- X11_sends
theorem rxo16 : con_ok PT bB 198 rxF rxQ rxt16 := con_chk_ok rxle rxpp (kn_or_ok (kl_ok (List.forall_mem_cons.mpr ⟨rxo6, List.forall_mem_cons.mpr ⟨rxo13, List.forall_mem_cons.mpr ⟨rxo15, fun _ h => (by cases h)⟩⟩⟩)) rk_ok) nw_class (fun h => by cases h) rxk16
def rxt17 : con := (217, [(2, 162, 1), (2, 170, 1), (0, 0, 7), (0, 6, 2147483647)], [], [some (0, (-1), (-1))], [], 65, 3400, false)
theorem rxk17 : con_chk (kn_or (kl bB rxF []) rk) PT bB 198 rxF0 rxJ rxjo rxP 788 rxt17 = true := fq_chk2 (fq_jn_eq _) rfl (by decide +kernel)   -- X11_sends
theorem rxo17 : con_ok PT bB 198 rxF rxQ rxt17 := con_chk_ok rxle rxpp (kn_or_ok (kl_ok (fun _ h => (by cases h))) rk_ok) nw_class (fun h => by cases h) rxk17
def rxt18 : con := (217, [(2, 162, 1), (2, 170, 1), (0, 0, 7), (0, (-2147483648), (-1))], [], [some (0, (-1), (-1))], [], 65, 3400, false)
theorem rxk18 : con_chk (kn_or (kl bB rxF []) rk) PT bB 198 rxF0 rxJ rxjo rxP 732 rxt18 = true := fq_chk2 (fq_jn_eq _) rfl (by decide +kernel)   -- X11_sends
theorem rxo18 : con_ok PT bB 198 rxF rxQ rxt18 := con_chk_ok rxle rxpp (kn_or_ok (kl_ok (fun _ h => (by cases h))) rk_ok) nw_class (fun h => by cases h) rxk18
def rxt19 : con := (217, [(2, 162, 1), (2, 170, 1), (0, 8, 2147483647), (0, 0, 5)], [], [some (0, (-1), (-1))], [], 65, 3400, false)
theorem rxk19 : con_chk (kn_or (kl bB rxF []) rk) PT bB 198 rxF0 rxJ rxjo rxP 458 rxt19 = true := fq_chk2 (fq_jn_eq _) rfl (by decide +kernel)   -- X11_sends
theorem rxo19 : con_ok PT bB 198 rxF rxQ rxt19 := con_chk_ok rxle rxpp (kn_or_ok (kl_ok (fun _ h => (by cases h))) rk_ok) nw_class (fun h => by cases h) rxk19
def rxt20 : con := (217, [(2, 162, 1), (2, 170, 1), (0, 8, 2147483647), (0, 6, 2147483647)], [], [some (0, (-1), (-1))], [], 65, 3400, false)
theorem rxk20 : con_chk (kn_or (kl bB rxF []) rk) PT bB 198 rxF0 rxJ rxjo rxP 458 rxt20 = true := fq_chk2 (fq_jn_eq _) rfl (by decide +kernel)   -- X11_sends
theorem rxo20 : con_ok PT bB 198 rxF rxQ rxt20 := con_chk_ok rxle rxpp (kn_or_ok (kl_ok (fun _ h => (by cases h))) rk_ok) nw_class (fun h => by cases h) rxk20
def rxt21 : con := (217, [(2, 162, 1), (2, 170, 1), (0, 8, 2147483647), (0, (-2147483648), (-1))], [], [some (0, (-1), (-1))], [], 65, 3400, false)
theorem rxk21 : con_chk (kn_or (kl bB rxF []) rk) PT bB 198 rxF0 rxJ rxjo rxP 458 rxt21 = true := fq_chk2 (fq_jn_eq _) rfl (by decide +kernel)   -- X11_sends
theorem rxo21 : con_ok PT bB 198 rxF rxQ rxt21 := con_chk_ok rxle rxpp (kn_or_ok (kl_ok (fun _ h => (by cases h))) rk_ok) nw_class (fun h => by cases h) rxk21
def rxt22 : con := (217, [(2, 162, 1), (2, 170, 1), (0, (-2147483648), (-1)), (0, 0, 5)], [], [some (0, (-1), (-1))], [], 65, 3400, false)
theorem rxk22 : con_chk (kn_or (kl bB rxF []) rk) PT bB 198 rxF0 rxJ rxjo rxP 422 rxt22 = true := fq_chk2 (fq_jn_eq _) rfl (by decide +kernel)   -- X11_sends
theorem rxo22 : con_ok PT bB 198 rxF rxQ rxt22 := con_chk_ok rxle rxpp (kn_or_ok (kl_ok (fun _ h => (by cases h))) rk_ok) nw_class (fun h => by cases h) rxk22
def rxt23 : con := (217, [(2, 162, 1), (2, 170, 1), (0, (-2147483648), (-1)), (0, 6, 2147483647)], [], [some (0, (-1), (-1))], [], 65, 3400, false)
theorem rxk23 : con_chk (kn_or (kl bB rxF []) rk) PT bB 198 rxF0 rxJ rxjo rxP 422 rxt23 = true := fq_chk2 (fq_jn_eq _) rfl (by decide +kernel)   -- X11_sends
theorem rxo23 : con_ok PT bB 198 rxF rxQ rxt23 := con_chk_ok rxle rxpp (kn_or_ok (kl_ok (fun _ h => (by cases h))) rk_ok) nw_class (fun h => by cases h) rxk23
def rxt24 : con := (217, [(2, 162, 1), (2, 170, 1), (0, (-2147483648), (-1)), (0, (-2147483648), (-1))], [], [some (0, (-1), (-1))], [], 65, 3400, false)
theorem rxk24 : con_chk (kn_or (kl bB rxF []) rk) PT bB 198 rxF0 rxJ rxjo rxP 422 rxt24 = true := fq_chk2 (fq_jn_eq _) rfl (by decide +kernel)   -- X11_sends
theorem rxo24 : con_ok PT bB 198 rxF rxQ rxt24 := con_chk_ok rxle rxpp (kn_or_ok (kl_ok (fun _ h => (by cases h))) rk_ok) nw_class (fun h => by cases h) rxk24
def rxt25 : con := (217, [(2, 162, 1), (2, 171, 1), (0, 0, 7), (0, 0, 5)], [], [some (0, (-2), 20)], [], 75, 4200, false)
theorem rxk25 : con_chk (kn_or (kl bB rxF [rxt7, rxt14, rxt15]) rk) PT bB 198 rxF0 rxJ rxjo rxP 1179 rxt25 = true := fq_chk2 (fq_jn_eq _) rfl (by decide +kernel)   -- X11_sends
theorem rxo25 : con_ok PT bB 198 rxF rxQ rxt25 := con_chk_ok rxle rxpp (kn_or_ok (kl_ok (List.forall_mem_cons.mpr ⟨rxo7, List.forall_mem_cons.mpr ⟨rxo14, List.forall_mem_cons.mpr ⟨rxo15, fun _ h => (by cases h)⟩⟩⟩)) rk_ok) nw_class (fun h => by cases h) rxk25
def rxt26 : con := (218, [(2, 162, 1), (2, 170, 1), (0, 0, 7)], [], [some (0, 0, 1)], [], 65, 3400, true)
theorem rxk26 : con_chk (kn_or (kl bB rxF []) rk) PT bB 198 rxF0 rxJ rxjo rxP 437 rxt26 = true := fq_chk2 (fq_jn_eq _) rfl (by decide +kernel)   -- X11_isHungry
theorem rxo26 : con_ok PT bB 198 rxF rxQ rxt26 := con_chk_ok rxle rxpp (kn_or_ok (kl_ok (fun _ h => (by cases h))) rk_ok) nw_class (fun _ => by decide) rxk26
def rxt27 : con := (218, [(2, 162, 1), (2, 171, 1), (0, 0, 7)], [], [some (0, 0, 1)], [], 65, 3400, true)
theorem rxk27 : con_chk (kn_or (kl bB rxF []) rk) PT bB 198 rxF0 rxJ rxjo rxP 437 rxt27 = true := fq_chk2 (fq_jn_eq _) rfl (by decide +kernel)   -- X11_isHungry
theorem rxo27 : con_ok PT bB 198 rxF rxQ rxt27 := con_chk_ok rxle rxpp (kn_or_ok (kl_ok (fun _ h => (by cases h))) rk_ok) nw_class (fun _ => by decide) rxk27
def rxt28 : con := (219, [(2, 162, 1), (2, 170, 1)], [], [none], [], 70, 3800, false)
theorem rxk28 : con_chk (kn_or (kl bB rxF [rxt26]) rk) PT bB 198 rxF0 rxJ rxjo rxP 1166 rxt28 = true := fq_chk2 (fq_jn_eq _) rfl (by decide +kernel)   -- X11_monthGoes
theorem rxo28 : con_ok PT bB 198 rxF rxQ rxt28 := con_chk_ok rxle rxpp (kn_or_ok (kl_ok (List.forall_mem_cons.mpr ⟨rxo26, fun _ h => (by cases h)⟩)) rk_ok) nw_class (fun h => by cases h) rxk28
def rxt29 : con := (219, [(2, 162, 1), (2, 171, 1)], [], [none], [], 70, 3800, false)
theorem rxk29 : con_chk (kn_or (kl bB rxF [rxt27]) rk) PT bB 198 rxF0 rxJ rxjo rxP 1166 rxt29 = true := fq_chk2 (fq_jn_eq _) rfl (by decide +kernel)   -- X11_monthGoes
theorem rxo29 : con_ok PT bB 198 rxF rxQ rxt29 := con_chk_ok rxle rxpp (kn_or_ok (kl_ok (List.forall_mem_cons.mpr ⟨rxo27, fun _ h => (by cases h)⟩)) rk_ok) nw_class (fun h => by cases h) rxk29
def rxt30 : con := (220, [(2, 162, 1), (0, 0, 5), (0, 0, 5), (0, (-2147483648), 2147483647)], [], [some (0, (-1), 20)], [], 70, 3800, false)
theorem rxk30 : con_chk (kn_or (kl bB rxF [rxt13]) rk) PT bB 198 rxF0 rxJ rxjo rxP 993 rxt30 = true := fq_chk2 (fq_jn_eq _) rfl (by decide +kernel)   -- X11_envoys
theorem rxo30 : con_ok PT bB 198 rxF rxQ rxt30 := con_chk_ok rxle rxpp (kn_or_ok (kl_ok (List.forall_mem_cons.mpr ⟨rxo13, fun _ h => (by cases h)⟩)) rk_ok) nw_class (fun h => by cases h) rxk30
end MH67rx01x0
section MH67rx01x1
/-! contracts -/
def rxt31 : con := (220, [(2, 162, 1), (0, 0, 5), (0, 6, 2147483647), (0, (-2147483648), 2147483647)], [], [some (0, (-1), (-1))], [], 65, 3400, false)
theorem rxk31 : con_chk (kn_or (kl bB rxF []) rk) PT bB 198 rxF0 rxJ rxjo rxP 675 rxt31 = true := fq_chk2 (fq_jn_eq _) rfl (by decide +kernel)   -- X11_envoys
theorem rxo31 : con_ok PT bB 198 rxF rxQ rxt31 := con_chk_ok rxle rxpp (kn_or_ok (kl_ok (fun _ h => (by cases h))) rk_ok) nw_class (fun h => by cases h) rxk31
def rxt32 : con := (220, [(2, 162, 1), (0, 0, 5), (0, (-2147483648), (-1)), (0, (-2147483648), 2147483647)], [], [some (0, (-1), (-1))], [], 65, 3400, false)
theorem rxk32 : con_chk (kn_or (kl bB rxF []) rk) PT bB 198 rxF0 rxJ rxjo rxP 619 rxt32 = true := fq_chk2 (fq_jn_eq _) rfl (by decide +kernel)   -- X11_envoys
theorem rxo32 : con_ok PT bB 198 rxF rxQ rxt32 := con_chk_ok rxle rxpp (kn_or_ok (kl_ok (fun _ h => (by cases h))) rk_ok) nw_class (fun h => by cases h) rxk32
def rxt33 : con := (220, [(2, 162, 1), (0, 6, 2147483647), (0, 0, 5), (0, (-2147483648), 2147483647)], [], [some (0, (-1), (-1))], [], 65, 3400, false)
theorem rxk33 : con_chk (kn_or (kl bB rxF []) rk) PT bB 198 rxF0 rxJ rxjo rxP 485 rxt33 = true := fq_chk2 (fq_jn_eq _) rfl (by decide +kernel)   -- X11_envoys
theorem rxo33 : con_ok PT bB 198 rxF rxQ rxt33 := con_chk_ok rxle rxpp (kn_or_ok (kl_ok (fun _ h => (by cases h))) rk_ok) nw_class (fun h => by cases h) rxk33
def rxt34 : con := (220, [(2, 162, 1), (0, 6, 2147483647), (0, 6, 2147483647), (0, (-2147483648), 2147483647)], [], [some (0, (-1), (-1))], [], 65, 3400, false)
theorem rxk34 : con_chk (kn_or (kl bB rxF []) rk) PT bB 198 rxF0 rxJ rxjo rxP 485 rxt34 = true := fq_chk2 (fq_jn_eq _) rfl (by decide +kernel)   -- X11_envoys
theorem rxo34 : con_ok PT bB 198 rxF rxQ rxt34 := con_chk_ok rxle rxpp (kn_or_ok (kl_ok (fun _ h => (by cases h))) rk_ok) nw_class (fun h => by cases h) rxk34
def rxt35 : con := (220, [(2, 162, 1), (0, 6, 2147483647), (0, (-2147483648), (-1)), (0, (-2147483648), 2147483647)], [], [some (0, (-1), (-1))], [], 65, 3400, false)
theorem rxk35 : con_chk (kn_or (kl bB rxF []) rk) PT bB 198 rxF0 rxJ rxjo rxP 485 rxt35 = true := fq_chk2 (fq_jn_eq _) rfl (by decide +kernel)   -- X11_envoys
theorem rxo35 : con_ok PT bB 198 rxF rxQ rxt35 := con_chk_ok rxle rxpp (kn_or_ok (kl_ok (fun _ h => (by cases h))) rk_ok) nw_class (fun h => by cases h) rxk35
def rxt36 : con := (220, [(2, 162, 1), (0, (-2147483648), (-1)), (0, 0, 5), (0, (-2147483648), 2147483647)], [], [some (0, (-1), (-1))], [], 65, 3400, false)
theorem rxk36 : con_chk (kn_or (kl bB rxF []) rk) PT bB 198 rxF0 rxJ rxjo rxP 429 rxt36 = true := fq_chk2 (fq_jn_eq _) rfl (by decide +kernel)   -- X11_envoys
theorem rxo36 : con_ok PT bB 198 rxF rxQ rxt36 := con_chk_ok rxle rxpp (kn_or_ok (kl_ok (fun _ h => (by cases h))) rk_ok) nw_class (fun h => by cases h) rxk36
def rxt37 : con := (220, [(2, 162, 1), (0, (-2147483648), (-1)), (0, 6, 2147483647), (0, (-2147483648), 2147483647)], [], [some (0, (-1), (-1))], [], 65, 3400, false)
theorem rxk37 : con_chk (kn_or (kl bB rxF []) rk) PT bB 198 rxF0 rxJ rxjo rxP 429 rxt37 = true := fq_chk2 (fq_jn_eq _) rfl (by decide +kernel)   -- X11_envoys
theorem rxo37 : con_ok PT bB 198 rxF rxQ rxt37 := con_chk_ok rxle rxpp (kn_or_ok (kl_ok (fun _ h => (by cases h))) rk_ok) nw_class (fun h => by cases h) rxk37
def rxt38 : con := (220, [(2, 162, 1), (0, (-2147483648), (-1)), (0, (-2147483648), (-1)), (0, (-2147483648), 2147483647)], [], [some (0, (-1), (-1))], [], 65, 3400, false)
theorem rxk38 : con_chk (kn_or (kl bB rxF []) rk) PT bB 198 rxF0 rxJ rxjo rxP 429 rxt38 = true := fq_chk2 (fq_jn_eq _) rfl (by decide +kernel)   -- X11_envoys
theorem rxo38 : con_ok PT bB 198 rxF rxQ rxt38 := con_chk_ok rxle rxpp (kn_or_ok (kl_ok (fun _ h => (by cases h))) rk_ok) nw_class (fun h => by cases h) rxk38
def rxt39 : con := (221, [(2, 162, 1), (0, 0, 5), (0, 0, 5)], [], [some (0, (-2), 9999)], [], 65, 3400, false)
theorem rxk39 : con_chk (kn_or (kl bB rxF []) rk) PT bB 198 rxF0 rxJ rxjo rxP 925 rxt39 = true := fq_chk2 (fq_jn_eq _) rfl (by decide +kernel)   -- X11_forgives
theorem rxo39 : con_ok PT bB 198 rxF rxQ rxt39 := con_chk_ok rxle rxpp (kn_or_ok (kl_ok (fun _ h => (by cases h))) rk_ok) nw_class (fun h => by cases h) rxk39
def rxt40 : con := (221, [(2, 162, 1), (0, 0, 5), (0, 6, 2147483647)], [], [some (0, (-1), (-1))], [], 65, 3400, false)
theorem rxk40 : con_chk (kn_or (kl bB rxF []) rk) PT bB 198 rxF0 rxJ rxjo rxP 675 rxt40 = true := fq_chk2 (fq_jn_eq _) rfl (by decide +kernel)   -- X11_forgives
theorem rxo40 : con_ok PT bB 198 rxF rxQ rxt40 := con_chk_ok rxle rxpp (kn_or_ok (kl_ok (fun _ h => (by cases h))) rk_ok) nw_class (fun h => by cases h) rxk40
def rxt41 : con := (221, [(2, 162, 1), (0, 0, 5), (0, (-2147483648), (-1))], [], [some (0, (-1), (-1))], [], 65, 3400, false)
theorem rxk41 : con_chk (kn_or (kl bB rxF []) rk) PT bB 198 rxF0 rxJ rxjo rxP 619 rxt41 = true := fq_chk2 (fq_jn_eq _) rfl (by decide +kernel)   -- X11_forgives
theorem rxo41 : con_ok PT bB 198 rxF rxQ rxt41 := con_chk_ok rxle rxpp (kn_or_ok (kl_ok (fun _ h => (by cases h))) rk_ok) nw_class (fun h => by cases h) rxk41
def rxt42 : con := (221, [(2, 162, 1), (0, 6, 2147483647), (0, 0, 5)], [], [some (0, (-1), (-1))], [], 65, 3400, false)
theorem rxk42 : con_chk (kn_or (kl bB rxF []) rk) PT bB 198 rxF0 rxJ rxjo rxP 485 rxt42 = true := fq_chk2 (fq_jn_eq _) rfl (by decide +kernel)   -- X11_forgives
theorem rxo42 : con_ok PT bB 198 rxF rxQ rxt42 := con_chk_ok rxle rxpp (kn_or_ok (kl_ok (fun _ h => (by cases h))) rk_ok) nw_class (fun h => by cases h) rxk42
def rxt43 : con := (221, [(2, 162, 1), (0, 6, 2147483647), (0, 6, 2147483647)], [], [some (0, (-1), (-1))], [], 65, 3400, false)
theorem rxk43 : con_chk (kn_or (kl bB rxF []) rk) PT bB 198 rxF0 rxJ rxjo rxP 485 rxt43 = true := fq_chk2 (fq_jn_eq _) rfl (by decide +kernel)   -- X11_forgives
theorem rxo43 : con_ok PT bB 198 rxF rxQ rxt43 := con_chk_ok rxle rxpp (kn_or_ok (kl_ok (fun _ h => (by cases h))) rk_ok) nw_class (fun h => by cases h) rxk43
def rxt44 : con := (221, [(2, 162, 1), (0, 6, 2147483647), (0, (-2147483648), (-1))], [], [some (0, (-1), (-1))], [], 65, 3400, false)
theorem rxk44 : con_chk (kn_or (kl bB rxF []) rk) PT bB 198 rxF0 rxJ rxjo rxP 485 rxt44 = true := fq_chk2 (fq_jn_eq _) rfl (by decide +kernel)   -- X11_forgives
theorem rxo44 : con_ok PT bB 198 rxF rxQ rxt44 := con_chk_ok rxle rxpp (kn_or_ok (kl_ok (fun _ h => (by cases h))) rk_ok) nw_class (fun h => by cases h) rxk44
def rxt45 : con := (221, [(2, 162, 1), (0, (-2147483648), (-1)), (0, 0, 5)], [], [some (0, (-1), (-1))], [], 65, 3400, false)
theorem rxk45 : con_chk (kn_or (kl bB rxF []) rk) PT bB 198 rxF0 rxJ rxjo rxP 429 rxt45 = true := fq_chk2 (fq_jn_eq _) rfl (by decide +kernel)   -- X11_forgives
theorem rxo45 : con_ok PT bB 198 rxF rxQ rxt45 := con_chk_ok rxle rxpp (kn_or_ok (kl_ok (fun _ h => (by cases h))) rk_ok) nw_class (fun h => by cases h) rxk45
def rxt46 : con := (221, [(2, 162, 1), (0, (-2147483648), (-1)), (0, 6, 2147483647)], [], [some (0, (-1), (-1))], [], 65, 3400, false)
theorem rxk46 : con_chk (kn_or (kl bB rxF []) rk) PT bB 198 rxF0 rxJ rxjo rxP 429 rxt46 = true := fq_chk2 (fq_jn_eq _) rfl (by decide +kernel)   -- X11_forgives
theorem rxo46 : con_ok PT bB 198 rxF rxQ rxt46 := con_chk_ok rxle rxpp (kn_or_ok (kl_ok (fun _ h => (by cases h))) rk_ok) nw_class (fun h => by cases h) rxk46
def rxt47 : con := (221, [(2, 162, 1), (0, (-2147483648), (-1)), (0, (-2147483648), (-1))], [], [some (0, (-1), (-1))], [], 65, 3400, false)
theorem rxk47 : con_chk (kn_or (kl bB rxF []) rk) PT bB 198 rxF0 rxJ rxjo rxP 429 rxt47 = true := fq_chk2 (fq_jn_eq _) rfl (by decide +kernel)   -- X11_forgives
theorem rxo47 : con_ok PT bB 198 rxF rxQ rxt47 := con_chk_ok rxle rxpp (kn_or_ok (kl_ok (fun _ h => (by cases h))) rk_ok) nw_class (fun h => by cases h) rxk47
def rxt48 : con := (227, [(2, 162, 1), (0, 0, 35)], [], [some (0, 0, 1)], [], 80, 4600, false)
theorem rxk48 : con_chk (kn_or (kl bB rxF [rxt16, rxt17, rxt18, rxt19, rxt20, rxt21, rxt22, rxt23, rxt24, rxt28, rxt30, rxt31, rxt32, rxt33, rxt34, rxt35, rxt36, rxt37, rxt38, rxt39, rxt40, rxt41, rxt42, rxt43, rxt44, rxt45, rxt46, rxt47]) rk) PT bB 198 rxF0 rxJ rxjo rxP 685 rxt48 = true := fq_chk2 (fq_jn_eq _) rfl (by decide +kernel)   -- X11_does
theorem rxo48 : con_ok PT bB 198 rxF rxQ rxt48 := con_chk_ok rxle rxpp (kn_or_ok (kl_ok (List.forall_mem_cons.mpr ⟨rxo16, List.forall_mem_cons.mpr ⟨rxo17, List.forall_mem_cons.mpr ⟨rxo18, List.forall_mem_cons.mpr ⟨rxo19, List.forall_mem_cons.mpr ⟨rxo20, List.forall_mem_cons.mpr ⟨rxo21, List.forall_mem_cons.mpr ⟨rxo22, List.forall_mem_cons.mpr ⟨rxo23, List.forall_mem_cons.mpr ⟨rxo24, List.forall_mem_cons.mpr ⟨rxo28, List.forall_mem_cons.mpr ⟨rxo30, List.forall_mem_cons.mpr ⟨rxo31, List.forall_mem_cons.mpr ⟨rxo32, List.forall_mem_cons.mpr ⟨rxo33, List.forall_mem_cons.mpr ⟨rxo34, List.forall_mem_cons.mpr ⟨rxo35, List.forall_mem_cons.mpr ⟨rxo36, List.forall_mem_cons.mpr ⟨rxo37, List.forall_mem_cons.mpr ⟨rxo38, List.forall_mem_cons.mpr ⟨rxo39, List.forall_mem_cons.mpr ⟨rxo40, List.forall_mem_cons.mpr ⟨rxo41, List.forall_mem_cons.mpr ⟨rxo42, List.forall_mem_cons.mpr ⟨rxo43, List.forall_mem_cons.mpr ⟨rxo44, List.forall_mem_cons.mpr ⟨rxo45, List.forall_mem_cons.mpr ⟨rxo46, List.forall_mem_cons.mpr ⟨rxo47, fun _ h => (by cases h)⟩⟩⟩⟩⟩⟩⟩⟩⟩⟩⟩⟩⟩⟩⟩⟩⟩⟩⟩⟩⟩⟩⟩⟩⟩⟩⟩⟩)) rk_ok) nw_class (fun h => by cases h) rxk48
def rxt49 : con := (233, [(2, 162, 1), (0, 0, 0), (0, 0, 0), (0, 0, 0), (0, 0, 5), (0, 0, 5)], [], [none], [], 65, 3400, false)
theorem rxk49 : con_chk (kn_or (kl bB rxF []) rk) PT bB 198 rxF0 rxJ rxjo rxP 446 rxt49 = true := fq_chk2 (fq_jn_eq _) rfl (by decide +kernel)   -- X11_winsBy
theorem rxo49 : con_ok PT bB 198 rxF rxQ rxt49 := con_chk_ok rxle rxpp (kn_or_ok (kl_ok (fun _ h => (by cases h))) rk_ok) nw_class (fun h => by cases h) rxk49
def rxt50 : con := (233, [(2, 162, 1), (0, 1, 1), (0, 1, 1), (0, 1, 128), (0, 0, 5), (0, 0, 5)], [], [none], [], 80, 4600, false)
theorem rxk50 : con_chk (kn_or (kl bB rxF [rxt25]) rk) PT bB 198 rxF0 rxJ rxjo rxP 492 rxt50 = true := fq_chk2 (fq_jn_eq _) rfl (by decide +kernel)   -- X11_winsBy
theorem rxo50 : con_ok PT bB 198 rxF rxQ rxt50 := con_chk_ok rxle rxpp (kn_or_ok (kl_ok (List.forall_mem_cons.mpr ⟨rxo25, fun _ h => (by cases h)⟩)) rk_ok) nw_class (fun h => by cases h) rxk50
def rxt51 : con := (233, [(2, 162, 1), (0, 0, 0), (0, 1, 1), (0, 0, 0), (0, 0, 5), (0, 0, 5)], [], [none], [], 85, 5000, false)
theorem rxk51 : con_chk (kn_or (kl bB rxF [rxt50]) rk) PT bB 198 rxF0 rxJ rxjo rxP 914 rxt51 = true := fq_chk2 (fq_jn_eq _) rfl (by decide +kernel)   -- X11_winsBy
theorem rxo51 : con_ok PT bB 198 rxF rxQ rxt51 := con_chk_ok rxle rxpp (kn_or_ok (kl_ok (List.forall_mem_cons.mpr ⟨rxo50, fun _ h => (by cases h)⟩)) rk_ok) nw_class (fun h => by cases h) rxk51
def rxt52 : con := (233, [(2, 162, 1), (0, 2, 2), (0, 2, 2), (0, 0, 256), (0, 0, 5), (0, 0, 5)], [], [none], [], 80, 4600, false)
theorem rxk52 : con_chk (kn_or (kl bB rxF [rxt25]) rk) PT bB 198 rxF0 rxJ rxjo rxP 530 rxt52 = true := fq_chk2 (fq_jn_eq _) rfl (by decide +kernel)   -- X11_winsBy
theorem rxo52 : con_ok PT bB 198 rxF rxQ rxt52 := con_chk_ok rxle rxpp (kn_or_ok (kl_ok (List.forall_mem_cons.mpr ⟨rxo25, fun _ h => (by cases h)⟩)) rk_ok) nw_class (fun h => by cases h) rxk52
def rxt53 : con := (233, [(2, 162, 1), (0, 1, 1), (0, 2, 2), (0, 1, 128), (0, 0, 5), (0, 0, 5)], [], [none], [], 85, 5000, false)
theorem rxk53 : con_chk (kn_or (kl bB rxF [rxt52]) rk) PT bB 198 rxF0 rxJ rxjo rxP 930 rxt53 = true := fq_chk2 (fq_jn_eq _) rfl (by decide +kernel)   -- X11_winsBy
theorem rxo53 : con_ok PT bB 198 rxF rxQ rxt53 := con_chk_ok rxle rxpp (kn_or_ok (kl_ok (List.forall_mem_cons.mpr ⟨rxo52, fun _ h => (by cases h)⟩)) rk_ok) nw_class (fun h => by cases h) rxk53
def rxt54 : con := (233, [(2, 162, 1), (0, 0, 0), (0, 2, 2), (0, 0, 0), (0, 0, 5), (0, 0, 5)], [], [none], [], 90, 5400, false)
theorem rxk54 : con_chk (kn_or (kl bB rxF [rxt53]) rk) PT bB 198 rxF0 rxJ rxjo rxP 914 rxt54 = true := fq_chk2 (fq_jn_eq _) rfl (by decide +kernel)   -- X11_winsBy
theorem rxo54 : con_ok PT bB 198 rxF rxQ rxt54 := con_chk_ok rxle rxpp (kn_or_ok (kl_ok (List.forall_mem_cons.mpr ⟨rxo53, fun _ h => (by cases h)⟩)) rk_ok) nw_class (fun h => by cases h) rxk54
def rxt55 : con := (233, [(2, 162, 1), (0, 3, 3), (0, 3, 3), (0, 0, 511), (0, 0, 5), (0, 0, 5)], [], [none], [], 80, 4600, false)
theorem rxk55 : con_chk (kn_or (kl bB rxF [rxt25]) rk) PT bB 198 rxF0 rxJ rxjo rxP 568 rxt55 = true := fq_chk2 (fq_jn_eq _) rfl (by decide +kernel)   -- X11_winsBy
theorem rxo55 : con_ok PT bB 198 rxF rxQ rxt55 := con_chk_ok rxle rxpp (kn_or_ok (kl_ok (List.forall_mem_cons.mpr ⟨rxo25, fun _ h => (by cases h)⟩)) rk_ok) nw_class (fun h => by cases h) rxk55
def rxt56 : con := (233, [(2, 162, 1), (0, 2, 2), (0, 3, 3), (0, 0, 256), (0, 0, 5), (0, 0, 5)], [], [none], [], 85, 5000, false)
theorem rxk56 : con_chk (kn_or (kl bB rxF [rxt55]) rk) PT bB 198 rxF0 rxJ rxjo rxP 930 rxt56 = true := fq_chk2 (fq_jn_eq _) rfl (by decide +kernel)   -- X11_winsBy
theorem rxo56 : con_ok PT bB 198 rxF rxQ rxt56 := con_chk_ok rxle rxpp (kn_or_ok (kl_ok (List.forall_mem_cons.mpr ⟨rxo55, fun _ h => (by cases h)⟩)) rk_ok) nw_class (fun h => by cases h) rxk56
def rxt57 : con := (233, [(2, 162, 1), (0, 1, 1), (0, 3, 3), (0, 1, 128), (0, 0, 5), (0, 0, 5)], [], [none], [], 90, 5400, false)
theorem rxk57 : con_chk (kn_or (kl bB rxF [rxt56]) rk) PT bB 198 rxF0 rxJ rxjo rxP 930 rxt57 = true := fq_chk2 (fq_jn_eq _) rfl (by decide +kernel)   -- X11_winsBy
theorem rxo57 : con_ok PT bB 198 rxF rxQ rxt57 := con_chk_ok rxle rxpp (kn_or_ok (kl_ok (List.forall_mem_cons.mpr ⟨rxo56, fun _ h => (by cases h)⟩)) rk_ok) nw_class (fun h => by cases h) rxk57
def rxt58 : con := (233, [(2, 162, 1), (0, 0, 0), (0, 3, 3), (0, 0, 0), (0, 0, 5), (0, 0, 5)], [], [none], [], 95, 5800, false)
theorem rxk58 : con_chk (kn_or (kl bB rxF [rxt57]) rk) PT bB 198 rxF0 rxJ rxjo rxP 914 rxt58 = true := fq_chk2 (fq_jn_eq _) rfl (by decide +kernel)   -- X11_winsBy
theorem rxo58 : con_ok PT bB 198 rxF rxQ rxt58 := con_chk_ok rxle rxpp (kn_or_ok (kl_ok (List.forall_mem_cons.mpr ⟨rxo57, fun _ h => (by cases h)⟩)) rk_ok) nw_class (fun h => by cases h) rxk58
def rxt59 : con := (233, [(2, 162, 1), (0, 4, 4), (0, 4, 4), (0, 0, 999), (0, 0, 5), (0, 0, 5)], [], [none], [], 80, 4600, false)
theorem rxk59 : con_chk (kn_or (kl bB rxF [rxt25]) rk) PT bB 198 rxF0 rxJ rxjo rxP 606 rxt59 = true := fq_chk2 (fq_jn_eq _) rfl (by decide +kernel)   -- X11_winsBy
theorem rxo59 : con_ok PT bB 198 rxF rxQ rxt59 := con_chk_ok rxle rxpp (kn_or_ok (kl_ok (List.forall_mem_cons.mpr ⟨rxo25, fun _ h => (by cases h)⟩)) rk_ok) nw_class (fun h => by cases h) rxk59
def rxt60 : con := (233, [(2, 162, 1), (0, 3, 3), (0, 4, 4), (0, 0, 511), (0, 0, 5), (0, 0, 5)], [], [none], [], 85, 5000, false)
theorem rxk60 : con_chk (kn_or (kl bB rxF [rxt59]) rk) PT bB 198 rxF0 rxJ rxjo rxP 930 rxt60 = true := fq_chk2 (fq_jn_eq _) rfl (by decide +kernel)   -- X11_winsBy
theorem rxo60 : con_ok PT bB 198 rxF rxQ rxt60 := con_chk_ok rxle rxpp (kn_or_ok (kl_ok (List.forall_mem_cons.mpr ⟨rxo59, fun _ h => (by cases h)⟩)) rk_ok) nw_class (fun h => by cases h) rxk60
end MH67rx01x1
section MH67rx01x2
section MG67rx03x0
/-! contracts -/
def rxt61 : con := (233, [(2, 162, 1), (0, 2, 2), (0, 4, 4), (0, 0, 256), (0, 0, 5), (0, 0, 5)], [], [none], [], 90, 5400, false)
theorem rxk61 : con_chk (kn_or (kl bB rxF [rxt60]) rk) PT bB 198 rxF0 rxJ rxjo rxP 930 rxt61 = true := fq_chk2 (fq_jn_eq _) rfl (by decide +kernel)   -- X11_winsBy
theorem rxo61 : con_ok PT bB 198 rxF rxQ rxt61 := con_chk_ok rxle rxpp (kn_or_ok (kl_ok (List.forall_mem_cons.mpr ⟨rxo60, fun _ h => (by cases h)⟩)) rk_ok) nw_class (fun h => by cases h) rxk61
def rxt62 : con := (233, [(2, 162, 1), (0, 1, 1), (0, 4, 4), (0, 1, 128), (0, 0, 5), (0, 0, 5)], [], [none], [], 95, 5800, false)
theorem rxk62 : con_chk (kn_or (kl bB rxF [rxt61]) rk) PT bB 198 rxF0 rxJ rxjo rxP 930 rxt62 = true := fq_chk2 (fq_jn_eq _) rfl (by decide +kernel)   -- X11_winsBy
theorem rxo62 : con_ok PT bB 198 rxF rxQ rxt62 := con_chk_ok rxle rxpp (kn_or_ok (kl_ok (List.forall_mem_cons.mpr ⟨rxo61, fun _ h => (by cases h)⟩)) rk_ok) nw_class (fun h => by cases h) rxk62
def rxt63 : con := (233, [(2, 162, 1), (0, 0, 0), (0, 4, 4), (0, 0, 0), (0, 0, 5), (0, 0, 5)], [], [none], [], 100, 6200, false)
theorem rxk63 : con_chk (kn_or (kl bB rxF [rxt62]) rk) PT bB 198 rxF0 rxJ rxjo rxP 914 rxt63 = true := fq_chk2 (fq_jn_eq _) rfl (by decide +kernel)   -- X11_winsBy
theorem rxo63 : con_ok PT bB 198 rxF rxQ rxt63 := con_chk_ok rxle rxpp (kn_or_ok (kl_ok (List.forall_mem_cons.mpr ⟨rxo62, fun _ h => (by cases h)⟩)) rk_ok) nw_class (fun h => by cases h) rxk63
end MG67rx03x0
section MG67rx03x1
/-! laysFar: by hand -/
theorem rx04_hand : True := trivial
end MG67rx03x1
end MH67rx01x2
section MH67rx01x3
/-! contracts -/
def rxt65 : con := (241, [(2, 162, 1), (0, 0, 5)], [], [some (0, (-1), 99)], [], 75, 4200, false)
theorem rxk65 : con_chk (kn_or (kl bB rxF [rxt1, rxt29]) rk) PT bB 198 rxF0 rxJ rxjo rxP 4169 rxt65 = true := fq_chk2 (fq_jn_eq _) rfl (by decide +kernel)   -- X11_diesIn
theorem rxo65 : con_ok PT bB 198 rxF rxQ rxt65 := con_chk_ok rxle rxpp (kn_or_ok (kl_ok (List.forall_mem_cons.mpr ⟨rxo1, List.forall_mem_cons.mpr ⟨rxo29, fun _ h => (by cases h)⟩⟩)) rk_ok) nw_class (fun h => by cases h) rxk65
def rxt66 : con := (246, [(2, 162, 1), (0, 6, 6), (0, 0, 599)], [(162, .inr (11, [(0, 0, 1), (0, 0, 100), (2, 163, 1), (0, 0, 6), (0, 0, 8), (0, (-2147483648), 2147483647), (2, 164, 1), (2, 165, 1), (2, 166, 1), (2, 167, 1), (2, 168, 1), (2, 169, 1), (2, 170, 1), (2, 171, 1), (2, 172, 1), (0, 0, 80), (0, 0, 63), (0, 0, 60), (0, 0, 4), (2, 173, 1), (0, 0, 8), (2, 174, 1), (2, 175, 1), (0, 0, 80), (0, 0, 80), (2, 176, 1), (2, 177, 1), (0, 0, 15), (2, 178, 1), (0, 0, 999), (0, 0, 1), (2, 179, 1), (2, 180, 1), (2, 181, 1), (2, 182, 1), (0, 0, 35), (2, 183, 1), (2, 184, 1), (0, 0, 1000000), (2, 185, 1), (2, 186, 1), (0, (-2147483648), 2147483647), (2, 187, 1), (2, 188, 1), (2, 189, 1), (2, 190, 1), (0, 2, 7), (0, 0, 12), (2, 191, 1), (2, 192, 1), (2, 193, 1), (0, (-2147483648), 2147483647), (2, 194, 1), (2, 195, 1), (2, 196, 1)]))], [none], [(162, .inr (11, [(0, 0, 1), (0, 0, 100), (2, 163, 1), (0, 0, 6), (0, 0, 8), (0, (-2147483648), 2147483647), (2, 164, 1), (2, 165, 1), (2, 166, 1), (2, 167, 1), (2, 168, 1), (2, 169, 1), (2, 170, 1), (2, 171, 1), (2, 172, 1), (0, 0, 80), (0, 0, 63), (0, 0, 60), (0, 0, 4), (2, 173, 1), (0, 0, 8), (2, 174, 1), (2, 175, 1), (0, 0, 80), (0, 0, 80), (2, 176, 1), (2, 177, 1), (0, 0, 15), (2, 178, 1), (0, 0, 999), (0, 0, 1), (2, 179, 1), (2, 180, 1), (2, 181, 1), (2, 182, 1), (0, 0, 35), (2, 183, 1), (2, 184, 1), (0, 0, 1000000), (2, 185, 1), (2, 186, 1), (0, (-2147483648), 2147483647), (2, 187, 1), (2, 188, 1), (2, 189, 1), (2, 190, 1), (0, 2, 7), (0, 0, 12), (2, 191, 1), (2, 192, 1), (2, 193, 1), (0, (-2147483648), 2147483647), (2, 194, 1), (2, 195, 1), (2, 196, 1)]))], 65, 3400, false)
theorem rxk66 : con_chk (kn_or (kl bB rxF []) rk) PT bB 198 rxF0 rxJ rxjo rxP 712 rxt66 = true := fq_chk2 (fq_jn_eq _) rfl (by decide +kernel)   -- X11_rings
theorem rxo66 : con_ok PT bB 198 rxF rxQ rxt66 := con_chk_ok rxle rxpp (kn_or_ok (kl_ok (fun _ h => (by cases h))) rk_ok) nw_class (fun h => by cases h) rxk66
def rxt67 : con := (246, [(2, 162, 1), (0, 5, 5), (0, 0, 511)], [(162, .inr (11, [(0, 0, 1), (0, 0, 100), (2, 163, 1), (0, 0, 6), (0, 0, 8), (0, (-2147483648), 2147483647), (2, 164, 1), (2, 165, 1), (2, 166, 1), (2, 167, 1), (2, 168, 1), (2, 169, 1), (2, 170, 1), (2, 171, 1), (2, 172, 1), (0, 0, 80), (0, 0, 63), (0, 0, 60), (0, 0, 4), (2, 173, 1), (0, 0, 8), (2, 174, 1), (2, 175, 1), (0, 0, 80), (0, 0, 80), (2, 176, 1), (2, 177, 1), (0, 0, 15), (2, 178, 1), (0, 0, 999), (0, 0, 1), (2, 179, 1), (2, 180, 1), (2, 181, 1), (2, 182, 1), (0, 0, 35), (2, 183, 1), (2, 184, 1), (0, 0, 1000000), (2, 185, 1), (2, 186, 1), (0, (-2147483648), 2147483647), (2, 187, 1), (2, 188, 1), (2, 189, 1), (2, 190, 1), (0, 2, 7), (0, 0, 12), (2, 191, 1), (2, 192, 1), (2, 193, 1), (0, (-2147483648), 2147483647), (2, 194, 1), (2, 195, 1), (2, 196, 1)]))], [none], [(162, .inr (11, [(0, 0, 1), (0, 0, 100), (2, 163, 1), (0, 0, 6), (0, 0, 8), (0, (-2147483648), 2147483647), (2, 164, 1), (2, 165, 1), (2, 166, 1), (2, 167, 1), (2, 168, 1), (2, 169, 1), (2, 170, 1), (2, 171, 1), (2, 172, 1), (0, 0, 80), (0, 0, 63), (0, 0, 60), (0, 0, 4), (2, 173, 1), (0, 0, 8), (2, 174, 1), (2, 175, 1), (0, 0, 80), (0, 0, 80), (2, 176, 1), (2, 177, 1), (0, 0, 15), (2, 178, 1), (0, 0, 999), (0, 0, 1), (2, 179, 1), (2, 180, 1), (2, 181, 1), (2, 182, 1), (0, 0, 35), (2, 183, 1), (2, 184, 1), (0, 0, 1000000), (2, 185, 1), (2, 186, 1), (0, (-2147483648), 2147483647), (2, 187, 1), (2, 188, 1), (2, 189, 1), (2, 190, 1), (0, 2, 7), (0, 0, 12), (2, 191, 1), (2, 192, 1), (2, 193, 1), (0, (-2147483648), 2147483647), (2, 194, 1), (2, 195, 1), (2, 196, 1)]))], 70, 3800, false)
theorem rxk67 : con_chk (kn_or (kl bB rxF [rxt66]) rk) PT bB 198 rxF0 rxJ rxjo rxP 1239 rxt67 = true := fq_chk2 (fq_jn_eq _) rfl (by decide +kernel)   -- X11_rings
theorem rxo67 : con_ok PT bB 198 rxF rxQ rxt67 := con_chk_ok rxle rxpp (kn_or_ok (kl_ok (List.forall_mem_cons.mpr ⟨rxo66, fun _ h => (by cases h)⟩)) rk_ok) nw_class (fun h => by cases h) rxk67
def rxt68 : con := (246, [(2, 162, 1), (0, 4, 4), (0, 0, 255)], [(162, .inr (11, [(0, 0, 1), (0, 0, 100), (2, 163, 1), (0, 0, 6), (0, 0, 8), (0, (-2147483648), 2147483647), (2, 164, 1), (2, 165, 1), (2, 166, 1), (2, 167, 1), (2, 168, 1), (2, 169, 1), (2, 170, 1), (2, 171, 1), (2, 172, 1), (0, 0, 80), (0, 0, 63), (0, 0, 60), (0, 0, 4), (2, 173, 1), (0, 0, 8), (2, 174, 1), (2, 175, 1), (0, 0, 80), (0, 0, 80), (2, 176, 1), (2, 177, 1), (0, 0, 15), (2, 178, 1), (0, 0, 999), (0, 0, 1), (2, 179, 1), (2, 180, 1), (2, 181, 1), (2, 182, 1), (0, 0, 35), (2, 183, 1), (2, 184, 1), (0, 0, 1000000), (2, 185, 1), (2, 186, 1), (0, (-2147483648), 2147483647), (2, 187, 1), (2, 188, 1), (2, 189, 1), (2, 190, 1), (0, 2, 7), (0, 0, 12), (2, 191, 1), (2, 192, 1), (2, 193, 1), (0, (-2147483648), 2147483647), (2, 194, 1), (2, 195, 1), (2, 196, 1)]))], [none], [(162, .inr (11, [(0, 0, 1), (0, 0, 100), (2, 163, 1), (0, 0, 6), (0, 0, 8), (0, (-2147483648), 2147483647), (2, 164, 1), (2, 165, 1), (2, 166, 1), (2, 167, 1), (2, 168, 1), (2, 169, 1), (2, 170, 1), (2, 171, 1), (2, 172, 1), (0, 0, 80), (0, 0, 63), (0, 0, 60), (0, 0, 4), (2, 173, 1), (0, 0, 8), (2, 174, 1), (2, 175, 1), (0, 0, 80), (0, 0, 80), (2, 176, 1), (2, 177, 1), (0, 0, 15), (2, 178, 1), (0, 0, 999), (0, 0, 1), (2, 179, 1), (2, 180, 1), (2, 181, 1), (2, 182, 1), (0, 0, 35), (2, 183, 1), (2, 184, 1), (0, 0, 1000000), (2, 185, 1), (2, 186, 1), (0, (-2147483648), 2147483647), (2, 187, 1), (2, 188, 1), (2, 189, 1), (2, 190, 1), (0, 2, 7), (0, 0, 12), (2, 191, 1), (2, 192, 1), (2, 193, 1), (0, (-2147483648), 2147483647), (2, 194, 1), (2, 195, 1), (2, 196, 1)]))], 75, 4200, false)
theorem rxk68 : con_chk (kn_or (kl bB rxF [rxt67]) rk) PT bB 198 rxF0 rxJ rxjo rxP 1207 rxt68 = true := fq_chk2 (fq_jn_eq _) rfl (by decide +kernel)   -- X11_rings
theorem rxo68 : con_ok PT bB 198 rxF rxQ rxt68 := con_chk_ok rxle rxpp (kn_or_ok (kl_ok (List.forall_mem_cons.mpr ⟨rxo67, fun _ h => (by cases h)⟩)) rk_ok) nw_class (fun h => by cases h) rxk68
def rxt69 : con := (246, [(2, 162, 1), (0, 3, 3), (0, 0, 127)], [(162, .inr (11, [(0, 0, 1), (0, 0, 100), (2, 163, 1), (0, 0, 6), (0, 0, 8), (0, (-2147483648), 2147483647), (2, 164, 1), (2, 165, 1), (2, 166, 1), (2, 167, 1), (2, 168, 1), (2, 169, 1), (2, 170, 1), (2, 171, 1), (2, 172, 1), (0, 0, 80), (0, 0, 63), (0, 0, 60), (0, 0, 4), (2, 173, 1), (0, 0, 8), (2, 174, 1), (2, 175, 1), (0, 0, 80), (0, 0, 80), (2, 176, 1), (2, 177, 1), (0, 0, 15), (2, 178, 1), (0, 0, 999), (0, 0, 1), (2, 179, 1), (2, 180, 1), (2, 181, 1), (2, 182, 1), (0, 0, 35), (2, 183, 1), (2, 184, 1), (0, 0, 1000000), (2, 185, 1), (2, 186, 1), (0, (-2147483648), 2147483647), (2, 187, 1), (2, 188, 1), (2, 189, 1), (2, 190, 1), (0, 2, 7), (0, 0, 12), (2, 191, 1), (2, 192, 1), (2, 193, 1), (0, (-2147483648), 2147483647), (2, 194, 1), (2, 195, 1), (2, 196, 1)]))], [none], [(162, .inr (11, [(0, 0, 1), (0, 0, 100), (2, 163, 1), (0, 0, 6), (0, 0, 8), (0, (-2147483648), 2147483647), (2, 164, 1), (2, 165, 1), (2, 166, 1), (2, 167, 1), (2, 168, 1), (2, 169, 1), (2, 170, 1), (2, 171, 1), (2, 172, 1), (0, 0, 80), (0, 0, 63), (0, 0, 60), (0, 0, 4), (2, 173, 1), (0, 0, 8), (2, 174, 1), (2, 175, 1), (0, 0, 80), (0, 0, 80), (2, 176, 1), (2, 177, 1), (0, 0, 15), (2, 178, 1), (0, 0, 999), (0, 0, 1), (2, 179, 1), (2, 180, 1), (2, 181, 1), (2, 182, 1), (0, 0, 35), (2, 183, 1), (2, 184, 1), (0, 0, 1000000), (2, 185, 1), (2, 186, 1), (0, (-2147483648), 2147483647), (2, 187, 1), (2, 188, 1), (2, 189, 1), (2, 190, 1), (0, 2, 7), (0, 0, 12), (2, 191, 1), (2, 192, 1), (2, 193, 1), (0, (-2147483648), 2147483647), (2, 194, 1), (2, 195, 1), (2, 196, 1)]))], 80, 4600, false)
theorem rxk69 : con_chk (kn_or (kl bB rxF [rxt68]) rk) PT bB 198 rxF0 rxJ rxjo rxP 1175 rxt69 = true := fq_chk2 (fq_jn_eq _) rfl (by decide +kernel)   -- X11_rings
theorem rxo69 : con_ok PT bB 198 rxF rxQ rxt69 := con_chk_ok rxle rxpp (kn_or_ok (kl_ok (List.forall_mem_cons.mpr ⟨rxo68, fun _ h => (by cases h)⟩)) rk_ok) nw_class (fun h => by cases h) rxk69
end MH67rx01x3
section MH67rx01x4
/-! contracts -/
def rxt70 : con := (246, [(2, 162, 1), (0, 2, 2), (0, 0, 79)], [(162, .inr (11, [(0, 0, 1), (0, 0, 100), (2, 163, 1), (0, 0, 6), (0, 0, 8), (0, (-2147483648), 2147483647), (2, 164, 1), (2, 165, 1), (2, 166, 1), (2, 167, 1), (2, 168, 1), (2, 169, 1), (2, 170, 1), (2, 171, 1), (2, 172, 1), (0, 0, 80), (0, 0, 63), (0, 0, 60), (0, 0, 4), (2, 173, 1), (0, 0, 8), (2, 174, 1), (2, 175, 1), (0, 0, 80), (0, 0, 80), (2, 176, 1), (2, 177, 1), (0, 0, 15), (2, 178, 1), (0, 0, 999), (0, 0, 1), (2, 179, 1), (2, 180, 1), (2, 181, 1), (2, 182, 1), (0, 0, 35), (2, 183, 1), (2, 184, 1), (0, 0, 1000000), (2, 185, 1), (2, 186, 1), (0, (-2147483648), 2147483647), (2, 187, 1), (2, 188, 1), (2, 189, 1), (2, 190, 1), (0, 2, 7), (0, 0, 12), (2, 191, 1), (2, 192, 1), (2, 193, 1), (0, (-2147483648), 2147483647), (2, 194, 1), (2, 195, 1), (2, 196, 1)]))], [none], [(162, .inr (11, [(0, 0, 1), (0, 0, 100), (2, 163, 1), (0, 0, 6), (0, 0, 8), (0, (-2147483648), 2147483647), (2, 164, 1), (2, 165, 1), (2, 166, 1), (2, 167, 1), (2, 168, 1), (2, 169, 1), (2, 170, 1), (2, 171, 1), (2, 172, 1), (0, 0, 80), (0, 0, 63), (0, 0, 60), (0, 0, 4), (2, 173, 1), (0, 0, 8), (2, 174, 1), (2, 175, 1), (0, 0, 80), (0, 0, 80), (2, 176, 1), (2, 177, 1), (0, 0, 15), (2, 178, 1), (0, 0, 999), (0, 0, 1), (2, 179, 1), (2, 180, 1), (2, 181, 1), (2, 182, 1), (0, 0, 35), (2, 183, 1), (2, 184, 1), (0, 0, 1000000), (2, 185, 1), (2, 186, 1), (0, (-2147483648), 2147483647), (2, 187, 1), (2, 188, 1), (2, 189, 1), (2, 190, 1), (0, 2, 7), (0, 0, 12), (2, 191, 1), (2, 192, 1), (2, 193, 1), (0, (-2147483648), 2147483647), (2, 194, 1), (2, 195, 1), (2, 196, 1)]))], 85, 5000, false)
theorem rxk70 : con_chk (kn_or (kl bB rxF [rxt69]) rk) PT bB 198 rxF0 rxJ rxjo rxP 1143 rxt70 = true := fq_chk2 (fq_jn_eq _) rfl (by decide +kernel)   -- X11_rings
theorem rxo70 : con_ok PT bB 198 rxF rxQ rxt70 := con_chk_ok rxle rxpp (kn_or_ok (kl_ok (List.forall_mem_cons.mpr ⟨rxo69, fun _ h => (by cases h)⟩)) rk_ok) nw_class (fun h => by cases h) rxk70
def rxt71 : con := (246, [(2, 162, 1), (0, 1, 1), (0, 1, 35)], [(162, .inr (11, [(0, 0, 1), (0, 0, 100), (2, 163, 1), (0, 0, 6), (0, 0, 8), (0, (-2147483648), 2147483647), (2, 164, 1), (2, 165, 1), (2, 166, 1), (2, 167, 1), (2, 168, 1), (2, 169, 1), (2, 170, 1), (2, 171, 1), (2, 172, 1), (0, 0, 80), (0, 0, 63), (0, 0, 60), (0, 0, 4), (2, 173, 1), (0, 0, 8), (2, 174, 1), (2, 175, 1), (0, 0, 80), (0, 0, 80), (2, 176, 1), (2, 177, 1), (0, 0, 15), (2, 178, 1), (0, 0, 999), (0, 0, 1), (2, 179, 1), (2, 180, 1), (2, 181, 1), (2, 182, 1), (0, 0, 35), (2, 183, 1), (2, 184, 1), (0, 0, 1000000), (2, 185, 1), (2, 186, 1), (0, (-2147483648), 2147483647), (2, 187, 1), (2, 188, 1), (2, 189, 1), (2, 190, 1), (0, 2, 7), (0, 0, 12), (2, 191, 1), (2, 192, 1), (2, 193, 1), (0, (-2147483648), 2147483647), (2, 194, 1), (2, 195, 1), (2, 196, 1)]))], [none], [(162, .inr (11, [(0, 0, 1), (0, 0, 100), (2, 163, 1), (0, 0, 6), (0, 0, 8), (0, (-2147483648), 2147483647), (2, 164, 1), (2, 165, 1), (2, 166, 1), (2, 167, 1), (2, 168, 1), (2, 169, 1), (2, 170, 1), (2, 171, 1), (2, 172, 1), (0, 0, 80), (0, 0, 63), (0, 0, 60), (0, 0, 4), (2, 173, 1), (0, 0, 8), (2, 174, 1), (2, 175, 1), (0, 0, 80), (0, 0, 80), (2, 176, 1), (2, 177, 1), (0, 0, 15), (2, 178, 1), (0, 0, 999), (0, 0, 1), (2, 179, 1), (2, 180, 1), (2, 181, 1), (2, 182, 1), (0, 0, 35), (2, 183, 1), (2, 184, 1), (0, 0, 1000000), (2, 185, 1), (2, 186, 1), (0, (-2147483648), 2147483647), (2, 187, 1), (2, 188, 1), (2, 189, 1), (2, 190, 1), (0, 2, 7), (0, 0, 12), (2, 191, 1), (2, 192, 1), (2, 193, 1), (0, (-2147483648), 2147483647), (2, 194, 1), (2, 195, 1), (2, 196, 1)]))], 90, 5400, false)
theorem rxk71 : con_chk (kn_or (kl bB rxF [rxt70]) rk) PT bB 198 rxF0 rxJ rxjo rxP 1071 rxt71 = true := fq_chk2 (fq_jn_eq _) rfl (by decide +kernel)   -- X11_rings
theorem rxo71 : con_ok PT bB 198 rxF rxQ rxt71 := con_chk_ok rxle rxpp (kn_or_ok (kl_ok (List.forall_mem_cons.mpr ⟨rxo70, fun _ h => (by cases h)⟩)) rk_ok) nw_class (fun h => by cases h) rxk71
def rxt72 : con := (248, [(2, 162, 1), (0, 0, 5)], [], [some (0, 0, 127)], [], 65, 3400, true)
theorem rxk72 : con_chk (kn_or (kl bB rxF []) rk) PT bB 198 rxF0 rxJ rxjo rxP 758 rxt72 = true := fq_chk2 (fq_jn_eq _) rfl (by decide +kernel)   -- X11_likedBy
theorem rxo72 : con_ok PT bB 198 rxF rxQ rxt72 := con_chk_ok rxle rxpp (kn_or_ok (kl_ok (fun _ h => (by cases h))) rk_ok) nw_class (fun _ => by decide) rxk72
def rxt73 : con := (253, [(2, 162, 1), (0, 0, 7), (0, 0, 3), (0, (-2147483648), 2147483647)], [], [some (0, 0, 1)], [], 65, 3400, true)
theorem rxk73 : con_chk (kn_or (kl bB rxF []) rk) PT bB 198 rxF0 rxJ rxjo rxP 484 rxt73 = true := fq_chk2 (fq_jn_eq _) rfl (by decide +kernel)   -- X11_isSo
theorem rxo73 : con_ok PT bB 198 rxF rxQ rxt73 := con_chk_ok rxle rxpp (kn_or_ok (kl_ok (fun _ h => (by cases h))) rk_ok) nw_class (fun _ => by decide) rxk73
end MH67rx01x4
section MH67rx01x5
/-! contracts -/
def rxt74 : con := (254, [(2, 162, 1)], [], [some (0, 0, 255)], [], 70, 3800, true)
theorem rxk74 : con_chk (kn_or (kl bB rxF [rxt73]) rk) PT bB 198 rxF0 rxJ rxjo rxP 5738 rxt74 = true := fq_chk2 (fq_jn_eq _) rfl (by decide +kernel)   -- X11_fitting
theorem rxo74 : con_ok PT bB 198 rxF rxQ rxt74 := con_chk_ok rxle rxpp (kn_or_ok (kl_ok (List.forall_mem_cons.mpr ⟨rxo73, fun _ h => (by cases h)⟩)) rk_ok) nw_class (fun _ => by decide) rxk74
def rxt75 : con := (259, [(0, 0, 9), (0, 0, 9), (0, 0, 20)], [], [some (0, (-20), 20)], [], 65, 3400, true)
theorem rxk75 : con_chk (kn_or (kl bB rxF []) rk) PT bB 198 rxF0 rxJ rxjo rxP 441 rxt75 = true := fq_chk2 (fq_jn_eq _) rfl (by decide +kernel)   -- X11_earns
theorem rxo75 : con_ok PT bB 198 rxF rxQ rxt75 := con_chk_ok rxle rxpp (kn_or_ok (kl_ok (fun _ h => (by cases h))) rk_ok) nw_class (fun _ => by decide) rxk75
def rxt76 : con := (260, [(0, 0, 9), (0, 0, 9), (0, 0, 20)], [], [some (0, 0, 1)], [], 70, 3800, true)
theorem rxk76 : con_chk (kn_or (kl bB rxF [rxt75]) rk) PT bB 198 rxF0 rxJ rxjo rxP 627 rxt76 = true := fq_chk2 (fq_jn_eq _) rfl (by decide +kernel)   -- X11_isRest
theorem rxo76 : con_ok PT bB 198 rxF rxQ rxt76 := con_chk_ok rxle rxpp (kn_or_ok (kl_ok (List.forall_mem_cons.mpr ⟨rxo75, fun _ h => (by cases h)⟩)) rk_ok) nw_class (fun _ => by decide) rxk76
def rxt77 : con := (266, [(2, 162, 1), (0, 0, 2)], [], [some (0, 0, 15)], [], 70, 3800, true)
theorem rxk77 : con_chk (kn_or (kl bB rxF [rxt2, rxt3]) rk) PT bB 198 rxF0 rxJ rxjo rxP 1498 rxt77 = true := fq_chk2 (fq_jn_eq _) rfl (by decide +kernel)   -- X11_pairMany
theorem rxo77 : con_ok PT bB 198 rxF rxQ rxt77 := con_chk_ok rxle rxpp (kn_or_ok (kl_ok (List.forall_mem_cons.mpr ⟨rxo2, List.forall_mem_cons.mpr ⟨rxo3, fun _ h => (by cases h)⟩⟩)) rk_ok) nw_class (fun _ => by decide) rxk77
def rxt78 : con := (269, [(0, (-2147483648), 2147483647)], [], [some (0, (-2147483648), 2147483647)], [], 65, 3400, true)
theorem rxk78 : con_chk (kn_or (kl bB rxF []) rk) PT bB 198 rxF0 rxJ rxjo rxP 468 rxt78 = true := fq_chk2 (fq_jn_eq _) rfl (by decide +kernel)   -- J6_numberOfTrailingZeros_0f7a4
theorem rxo78 : con_ok PT bB 198 rxF rxQ rxt78 := con_chk_ok rxle rxpp (kn_or_ok (kl_ok (fun _ h => (by cases h))) rk_ok) nw_class (fun _ => by decide) rxk78
end MH67rx01x5
section MH67rx01x6
section MG68segxx0
/-! the frames of courts() and gifts() -/
section SGX
theorem seg_cons {T : pm_Tab} {B : Nat → ac} {sz : Nat} {F : fr_F} {PP : pm_H → Prop} {c : con} {z : ast} {l : List ast} (h1 : seg_ok T B sz F PP c [z]) (h2 : seg_ok T B sz F PP c l) : seg_ok T B sz F PP c (z :: l) := by
  intro st fr lo sl hst hp hF hL
  obtain ⟨s, hs, hok⟩ := hst
  rcases List.mem_cons.mp hs with rfl | hs
  · exact h1 st fr lo sl ⟨s, List.mem_singleton_self _, hok⟩ hp hF hL
  · exact h2 st fr lo sl ⟨s, hs, hok⟩ hp hF hL
theorem seg_piece {T : pm_Tab} {B : Nat → ac} {sz : Nat} {F : fr_F} {PP : pm_H → Prop} {c : con} {l : List ast} {a n : Nat} (h1 : seg_ok T B sz F PP c ((l.drop a).take n)) (h2 : seg_ok T B sz F PP c (l.drop (a + n))) : seg_ok T B sz F PP c (l.drop a) := seg_split n h1 (by rw [List.drop_drop]; exact h2)
/-- without the number of courts and of gifts -/
def rxQ1 (h : pm_H) : Prop := codeOk h ∧ rowsOk h 178 1536 ∧ rowsOk h 196 288
def rxPc (ci f : Nat) : Bool := Nat.beq ci 11 && (Nat.beq f 4 || (Nat.beq f 23 || Nat.beq f 24))
def rxPg (ci f : Nat) : Bool := Nat.beq ci 11 && (Nat.beq f 3 || (Nat.beq f 23 || Nat.beq f 24))
def rxFc0 : fr_F := (fun i => rxC i || (Nat.beq i 178 || Nat.beq i 196), rxPc)
def rxFc : fr_F := (rxC, rxPc)
def rxFg0 : fr_F := (fun i => rxC i || (Nat.beq i 178 || Nat.beq i 196), rxPg)
def rxFg : fr_F := (rxC, rxPg)
theorem rxlec : ∀ h h', fm rxFc0 h h' → fm rxFc h h' := by
  intro h h' q
  refine ⟨fun i hi => q.1 i ?_, q.2⟩
  have hi : rxC i = true := hi
  show (rxC i || (Nat.beq i 178 || Nat.beq i 196)) = true
  rw [hi]
  rfl
theorem rxleg : ∀ h h', fm rxFg0 h h' → fm rxFg h h' := by
  intro h h' q
  refine ⟨fun i hi => q.1 i ?_, q.2⟩
  have hi : rxC i = true := hi
  show (rxC i || (Nat.beq i 178 || Nat.beq i 196)) = true
  rw [hi]
  rfl
theorem rxppc : pp_ok rxFc0 rxQ1 := by
  intro h h' q hp
  obtain ⟨⟨n, dn, f, c1, c2, c3, c4⟩, ⟨f1, r1, r2⟩, f2, r3, r4⟩ := hp
  exact ⟨⟨n, dn, f, fm_mF q rfl c1, (q.1 174 rfl).trans c2, c3, c4⟩, ⟨f1, (q.1 178 rfl).trans r1, r2⟩, f2, (q.1 196 rfl).trans r3, r4⟩
theorem rxppg : pp_ok rxFg0 rxQ1 := by
  intro h h' q hp
  obtain ⟨⟨n, dn, f, c1, c2, c3, c4⟩, ⟨f1, r1, r2⟩, f2, r3, r4⟩ := hp
  exact ⟨⟨n, dn, f, fm_mF q rfl c1, (q.1 174 rfl).trans c2, c3, c4⟩, ⟨f1, (q.1 178 rfl).trans r1, r2⟩, f2, (q.1 196 rfl).trans r3, r4⟩
theorem at_c : at_ok rxFc rxQ1 := fun _ _ _ m hp => ⟨fm_ms rfl rfl m, rxppc _ _ (fm_ms rfl rfl m) hp⟩
theorem at_g : at_ok rxFg rxQ1 := fun _ _ _ m hp => ⟨fm_ms rfl rfl m, rxppg _ _ (fm_ms rfl rfl m) hp⟩
end SGX
end MG68segxx0
section MG68segxx1
/-! contracts of faultOf (by hand) and valueAll -/
section VFO
def rxtFO : con := (186, [(2, 162, 1), (0, 0, 80), (0, 60, 60), (0, 0, 1)], [], [some (0, (-81), 0)], [], 60, 3000, true)
theorem av_nat {v : Value} {u : Nat} (q : av_ok v (0, 0, (u : Int))) : ∃ n : Nat, v = .int (nI n) ∧ n ≤ u := by
  obtain ⟨x, rfl, h1, h2⟩ := av_int rfl q
  have h1 : (0 : Int) ≤ x.toInt := h1
  have h2 : x.toInt ≤ (u : Int) := h2
  obtain ⟨n, rfl, -, e⟩ := hI_of h1
  exact ⟨n, rfl, by omega⟩
theorem rxoFO : con_ok PT bB 198 rxF rxQ rxtFO := by
  intro As h fr lo sl hAs hh hp hF hL
  match As, hAs with
  | [v0, v1, v2, v3], hAs =>
    obtain ⟨q0, q1, q2, q3, -⟩ := hAs
    cases rf162 q0
    obtain ⟨n, rfl, hn⟩ := av_nat (u := 80) q1
    obtain ⟨b, rfl, hb⟩ := av_nat (u := 1) q3
    obtain ⟨x, rfl, h1, h2⟩ := av_int rfl q2
    have h1 : (60 : Int) ≤ x.toInt := h1
    have h2 : x.toInt ≤ (60 : Int) := h2
    obtain ⟨m, rfl, -, e⟩ := hI_of (x := x) (by omega)
    obtain rfl : m = 60 := by omega
    obtain ⟨a, h16, ha⟩ := ty_nat hh (g := 16) (u := 63) rfl (by decide)
    obtain ⟨t, h17, ht⟩ := ty_nat hh (g := 17) (u := 60) rfl (by decide)
    have key : ∀ c : Bool, nI b = cond c 1 0 → pm_WP PT fr lo 186 (0, pm_l0 [.ref 162, .int (nI n), .int (nI 60), .int (nI b)] 5, [], h, 198, sl) (fun x => (∃ a, a ∈ rxtFO.2.2.2.1 ∧ ao_ok x.1 a) ∧ x.2.2 = (198, sl) ∧ (fm rxF h x.2.1 ∧ rxQ x.2.1) ∧ x.2.1 = h) := by
      intro c ec
      rw [ec]
      refine wp_mono (hd_faultOf (n := n) (m := 60) (b := c) h16 h17 hn (by decide) (by omega) (by omega)) ?_
      rintro _ rfl
      have hb := flt_bd (n := n) (m := 60) (a := a) (t := t) (b := c) (by decide) (by omega)
      exact ⟨⟨_, List.mem_singleton_self _, rfl, hb.1, hb.2.1⟩, rfl, ⟨fm_rf h, hp⟩, rfl⟩
    have : b = 0 ∨ b = 1 := by omega
    rcases this with rfl | rfl
    · exact key false rfl
    · exact key true rfl
def rxtVA : con := (257, [(2, 162, 1)], [], [some (0, (-2147483648), 2147483647)], [], 75, 4000, false)
theorem rxkVA : con_chk (kn_or (kl bB rxF [rxt6, rxt7]) rk) PT bB 198 rxF0 rxJ rxjo rxP 250 rxtVA = true := fq_chk2 (fq_jn_eq _) rfl (by decide +kernel)
theorem rxoVA : con_ok PT bB 198 rxF rxQ rxtVA := con_chk_ok rxle rxpp (kn_or_ok (kl_ok (List.forall_mem_cons.mpr ⟨rxo6, List.forall_mem_cons.mpr ⟨rxo7, fun _ h => (by cases h)⟩⟩)) rk_ok) nw_class (fun h => by cases h) rxkVA
end VFO
end MG68segxx1
end MH67rx01x6
section MH67rx01x7
/-! the calls themselves -/
def rxr_sign : con := (178, [(2, 162, 1), (0, -2147483648, 2147483647)], [], [some (0, -2147483648, 2147483647)], [], 65, 3400, false)
theorem rxq_sign : con_chkS (kn_or (kl bB rxF []) rk) PT bB 198 rxF0 rxJ rxjo rxP [] 511 rxr_sign = true := fq_chkS2 (fq_jn_eq _) rfl (by decide +kernel)   -- 111
theorem rxw_sign : con_ok PT bB 198 rxF rxQ rxr_sign := con_chkS_ok rxle rxpp (kn_or_ok (kl_ok (fun _ h => (by cases h))) rk_ok) nw_class (fun h => by cases h) rxq_sign
def rxr_end : con := (179, [(2, 162, 1), (0, -2147483648, 2147483647)], [], [some (0, 0, 1)], [], 65, 3400, false)
theorem rxq_end : con_chkS (kn_or (kl bB rxF []) rk) PT bB 198 rxF0 rxJ rxjo rxP [] 472 rxr_end = true := fq_chkS2 (fq_jn_eq _) rfl (by decide +kernel)   -- 72
theorem rxw_end : con_ok PT bB 198 rxF rxQ rxr_end := con_chkS_ok rxle rxpp (kn_or_ok (kl_ok (fun _ h => (by cases h))) rk_ok) nw_class (fun h => by cases h) rxq_end
def rxr_court : con := (206, [(2, 162, 1), (0, -2147483648, 2147483647), (0, -2147483648, 2147483647)], [], [some (0, -2147483648, 2147483647)], [], 75, 4200, false)
theorem rxq_court : con_chkS (kn_or (kl bB rxF [rxt0, rxt8, rxt9, rxt10]) rk) PT bB 198 rxF0 rxJ rxjo rxP [(0, 1, 0, 0, [(-1), 5])] 666 rxr_court = true := fq_chkS2 (fq_jn_eq _) rfl (by decide +kernel)   -- 266
theorem rxw_court : con_ok PT bB 198 rxF rxQ rxr_court := con_chkS_ok rxle rxpp (kn_or_ok (kl_ok (List.forall_mem_cons.mpr ⟨rxo0, List.forall_mem_cons.mpr ⟨rxo8, List.forall_mem_cons.mpr ⟨rxo9, List.forall_mem_cons.mpr ⟨rxo10, fun _ h => (by cases h)⟩⟩⟩⟩)) rk_ok) nw_class (fun h => by cases h) rxq_court
def rxr_between : con := (207, [(2, 162, 1), (0, -2147483648, 2147483647), (0, -2147483648, 2147483647), (0, -2147483648, 2147483647)], [], [some (0, -2147483648, 2147483647)], [], 65, 3400, false)
theorem rxq_between : con_chkS (kn_or (kl bB rxF []) rk) PT bB 198 rxF0 rxJ rxjo rxP [(0, 1, 0, 0, [(-1), 5]), (0, 2, 0, 0, [(-1), 5])] 951 rxr_between = true := fq_chkS2 (fq_jn_eq _) rfl (by decide +kernel)   -- 551
theorem rxw_between : con_ok PT bB 198 rxF rxQ rxr_between := con_chkS_ok rxle rxpp (kn_or_ok (kl_ok (fun _ h => (by cases h))) rk_ok) nw_class (fun h => by cases h) rxq_between
def rxr_gift : con := (208, [(2, 162, 1), (0, -2147483648, 2147483647), (0, -2147483648, 2147483647)], [], [some (0, -2147483648, 2147483647)], [], 65, 3400, false)
theorem rxq_gift : con_chkS (kn_or (kl bB rxF []) rk) PT bB 198 rxF0 rxJ rxjo rxP [(0, 1, 0, 0, [(-1), 7])] 620 rxr_gift = true := fq_chkS2 (fq_jn_eq _) rfl (by decide +kernel)   -- 220
theorem rxw_gift : con_ok PT bB 198 rxF rxQ rxr_gift := con_chkS_ok rxle rxpp (kn_or_ok (kl_ok (fun _ h => (by cases h))) rk_ok) nw_class (fun h => by cases h) rxq_gift
def rxr_road : con := (209, [(2, 162, 1), (0, -2147483648, 2147483647), (0, -2147483648, 2147483647), (0, -2147483648, 2147483647)], [], [some (0, -2147483648, 2147483647)], [], 65, 3400, false)
theorem rxq_road : con_chkS (kn_or (kl bB rxF []) rk) PT bB 198 rxF0 rxJ rxjo rxP [(0, 1, 0, 0, [(-1), 5]), (0, 2, 0, 0, [(-1), 5])] 867 rxr_road = true := fq_chkS2 (fq_jn_eq _) rfl (by decide +kernel)   -- 467
theorem rxw_road : con_ok PT bB 198 rxF rxQ rxr_road := con_chkS_ok rxle rxpp (kn_or_ok (kl_ok (fun _ h => (by cases h))) rk_ok) nw_class (fun h => by cases h) rxq_road
def rxr_sheet : con := (210, [(2, 162, 1), (0, -2147483648, 2147483647), (0, -2147483648, 2147483647), (0, -2147483648, 2147483647), (0, -2147483648, 2147483647)], [], [some (0, -2147483648, 2147483647)], [], 70, 3800, false)
theorem rxq_sheet : con_chkS (kn_or (kl bB rxF [rxt4]) rk) PT bB 198 rxF0 rxJ rxjo rxP [] 969 rxr_sheet = true := fq_chkS2 (fq_jn_eq _) rfl (by decide +kernel)   -- 569
theorem rxw_sheet : con_ok PT bB 198 rxF rxQ rxr_sheet := con_chkS_ok rxle rxpp (kn_or_ok (kl_ok (List.forall_mem_cons.mpr ⟨rxo4, fun _ h => (by cases h)⟩)) rk_ok) nw_class (fun h => by cases h) rxq_sheet
def rxr_send : con := (222, [(2, 162, 1), (0, -2147483648, 2147483647), (0, -2147483648, 2147483647)], [], [some (0, -2147483648, 2147483647)], [], 80, 4600, false)
theorem rxq_send : con_chkS (kn_or (kl bB rxF [rxt12, rxt16, rxt17, rxt18, rxt19, rxt20, rxt21, rxt22, rxt23, rxt24]) rk) PT bB 198 rxF0 rxJ rxjo rxP [(0, 1, 0, 0, [(-1), 7]), (0, 2, 0, 0, [(-1), 5])] 931 rxr_send = true := fq_chkS2 (fq_jn_eq _) rfl (by decide +kernel)   -- 531
theorem rxw_send : con_ok PT bB 198 rxF rxQ rxr_send := con_chkS_ok rxle rxpp (kn_or_ok (kl_ok (List.forall_mem_cons.mpr ⟨rxo12, List.forall_mem_cons.mpr ⟨rxo16, List.forall_mem_cons.mpr ⟨rxo17, List.forall_mem_cons.mpr ⟨rxo18, List.forall_mem_cons.mpr ⟨rxo19, List.forall_mem_cons.mpr ⟨rxo20, List.forall_mem_cons.mpr ⟨rxo21, List.forall_mem_cons.mpr ⟨rxo22, List.forall_mem_cons.mpr ⟨rxo23, List.forall_mem_cons.mpr ⟨rxo24, fun _ h => (by cases h)⟩⟩⟩⟩⟩⟩⟩⟩⟩⟩)) rk_ok) nw_class (fun h => by cases h) rxq_send
def rxr_months : con := (223, [(2, 162, 1), (0, -2147483648, 2147483647)], [], [some (0, -2147483648, 2147483647)], [], 75, 4200, false)
theorem rxq_months : con_chkS (kn_or (kl bB rxF [rxt4, rxt5, rxt28]) rk) PT bB 198 rxF0 rxJ rxjo rxP [] 1961 rxr_months = true := fq_chkS2 (fq_jn_eq _) rfl (by decide +kernel)   -- 1561
theorem rxw_months : con_ok PT bB 198 rxF rxQ rxr_months := con_chkS_ok rxle rxpp (kn_or_ok (kl_ok (List.forall_mem_cons.mpr ⟨rxo4, List.forall_mem_cons.mpr ⟨rxo5, List.forall_mem_cons.mpr ⟨rxo28, fun _ h => (by cases h)⟩⟩⟩)) rk_ok) nw_class (fun h => by cases h) rxq_months
def rxr_envoy : con := (224, [(2, 162, 1), (0, -2147483648, 2147483647), (0, -2147483648, 2147483647), (0, -2147483648, 2147483647)], [], [some (0, -2147483648, 2147483647)], [], 75, 4200, false)
theorem rxq_envoy : con_chkS (kn_or (kl bB rxF [rxt12, rxt30, rxt31, rxt32, rxt33, rxt34, rxt35, rxt36, rxt37, rxt38]) rk) PT bB 198 rxF0 rxJ rxjo rxP [(0, 1, 0, 0, [(-1), 5]), (0, 2, 0, 0, [(-1), 5])] 517 rxr_envoy = true := fq_chkS2 (fq_jn_eq _) rfl (by decide +kernel)   -- 117
theorem rxw_envoy : con_ok PT bB 198 rxF rxQ rxr_envoy := con_chkS_ok rxle rxpp (kn_or_ok (kl_ok (List.forall_mem_cons.mpr ⟨rxo12, List.forall_mem_cons.mpr ⟨rxo30, List.forall_mem_cons.mpr ⟨rxo31, List.forall_mem_cons.mpr ⟨rxo32, List.forall_mem_cons.mpr ⟨rxo33, List.forall_mem_cons.mpr ⟨rxo34, List.forall_mem_cons.mpr ⟨rxo35, List.forall_mem_cons.mpr ⟨rxo36, List.forall_mem_cons.mpr ⟨rxo37, List.forall_mem_cons.mpr ⟨rxo38, fun _ h => (by cases h)⟩⟩⟩⟩⟩⟩⟩⟩⟩⟩)) rk_ok) nw_class (fun h => by cases h) rxq_envoy
def rxr_forgive : con := (225, [(2, 162, 1), (0, -2147483648, 2147483647), (0, -2147483648, 2147483647)], [], [some (0, -2147483648, 2147483647)], [], 70, 3800, false)
theorem rxq_forgive : con_chkS (kn_or (kl bB rxF [rxt12, rxt39, rxt40, rxt41, rxt42, rxt43, rxt44, rxt45, rxt46, rxt47]) rk) PT bB 198 rxF0 rxJ rxjo rxP [(0, 1, 0, 0, [(-1), 5]), (0, 2, 0, 0, [(-1), 5])] 508 rxr_forgive = true := fq_chkS2 (fq_jn_eq _) rfl (by decide +kernel)   -- 108
theorem rxw_forgive : con_ok PT bB 198 rxF rxQ rxr_forgive := con_chkS_ok rxle rxpp (kn_or_ok (kl_ok (List.forall_mem_cons.mpr ⟨rxo12, List.forall_mem_cons.mpr ⟨rxo39, List.forall_mem_cons.mpr ⟨rxo40, List.forall_mem_cons.mpr ⟨rxo41, List.forall_mem_cons.mpr ⟨rxo42, List.forall_mem_cons.mpr ⟨rxo43, List.forall_mem_cons.mpr ⟨rxo44, List.forall_mem_cons.mpr ⟨rxo45, List.forall_mem_cons.mpr ⟨rxo46, List.forall_mem_cons.mpr ⟨rxo47, fun _ h => (by cases h)⟩⟩⟩⟩⟩⟩⟩⟩⟩⟩)) rk_ok) nw_class (fun h => by cases h) rxq_forgive
def rxr_value : con := (230, [(2, 162, 1), (0, -2147483648, 2147483647), (0, -2147483648, 2147483647)], [], [some (0, -2147483648, 2147483647)], [], 75, 4200, false)
theorem rxq_value : con_chkS (kn_or (kl bB rxF [rxt6]) rk) PT bB 198 rxF0 rxJ rxjo rxP [(0, 1, 0, 0, [(-1), 7]), (0, 2, 0, 0, [(-1), 5])] 732 rxr_value = true := fq_chkS2 (fq_jn_eq _) rfl (by decide +kernel)   -- 332
theorem rxw_value : con_ok PT bB 198 rxF rxQ rxr_value := con_chkS_ok rxle rxpp (kn_or_ok (kl_ok (List.forall_mem_cons.mpr ⟨rxo6, fun _ h => (by cases h)⟩)) rk_ok) nw_class (fun h => by cases h) rxq_value
def rxr_where : con := (231, [(2, 162, 1), (0, -2147483648, 2147483647)], [], [some (0, -2147483648, 2147483647)], [], 75, 4200, false)
theorem rxq_where : con_chkS (kn_or (kl bB rxF [rxt6]) rk) PT bB 198 rxF0 rxJ rxjo rxP [(0, 1, 0, 0, [(-1), 7])] 839 rxr_where = true := fq_chkS2 (fq_jn_eq _) rfl (by decide +kernel)   -- 439
theorem rxw_where : con_ok PT bB 198 rxF rxQ rxr_where := con_chkS_ok rxle rxpp (kn_or_ok (kl_ok (List.forall_mem_cons.mpr ⟨rxo6, fun _ h => (by cases h)⟩)) rk_ok) nw_class (fun h => by cases h) rxq_where
end MH67rx01x7
section MH67rx01x8
/-! the calls themselves -/
def rxr_wins : con := (234, [(2, 162, 1), (0, -2147483648, 2147483647), (0, -2147483648, 2147483647)], [], [some (0, -2147483648, 2147483647)], [], 105, 6600, false)
theorem rxq_wins : con_chkS (kn_or (kl bB rxF [rxt49, rxt51, rxt54, rxt58, rxt63]) rk) PT bB 198 rxF0 rxJ rxjo rxP [(0, 1, 0, 0, [(-1), 5]), (0, 2, 0, 0, [(-1), 5])] 2184 rxr_wins = true := fq_chkS2 (fq_jn_eq _) rfl (by decide +kernel)   -- 1784
theorem rxw_wins : con_ok PT bB 198 rxF rxQ rxr_wins := con_chkS_ok rxle rxpp (kn_or_ok (kl_ok (List.forall_mem_cons.mpr ⟨rxo49, List.forall_mem_cons.mpr ⟨rxo51, List.forall_mem_cons.mpr ⟨rxo54, List.forall_mem_cons.mpr ⟨rxo58, List.forall_mem_cons.mpr ⟨rxo63, fun _ h => (by cases h)⟩⟩⟩⟩⟩)) rk_ok) nw_class (fun h => by cases h) rxq_wins
def rxr_unseen : con := (235, [(2, 162, 1), (0, -2147483648, 2147483647)], [], [some (0, -2147483648, 2147483647)], [], 70, 3800, false)
theorem rxq_unseen : con_chkS (kn_or (kl bB rxF [rxt2, rxt5]) rk) PT bB 198 rxF0 rxJ rxjo rxP [(0, 1, 0, 0, [(-1), 7])] 3212 rxr_unseen = true := fq_chkS2 (fq_jn_eq _) rfl (by decide +kernel)   -- 2812
theorem rxw_unseen : con_ok PT bB 198 rxF rxQ rxr_unseen := con_chkS_ok rxle rxpp (kn_or_ok (kl_ok (List.forall_mem_cons.mpr ⟨rxo2, List.forall_mem_cons.mpr ⟨rxo5, fun _ h => (by cases h)⟩⟩)) rk_ok) nw_class (fun h => by cases h) rxq_unseen
end MH67rx01x8
section MH67rx01x9
/-! the calls themselves -/
def rxr_swaps : con := (236, [(2, 162, 1)], [], [some (0, -2147483648, 2147483647)], [], 75, 4200, false)
theorem rxq_swaps : con_chkS (kn_or (kl bB rxF [rxt6]) rk) PT bB 198 rxF0 rxJ rxjo rxP [] 3113 rxr_swaps = true := fq_chkS2 (fq_jn_eq _) rfl (by decide +kernel)   -- 2713
theorem rxw_swaps : con_ok PT bB 198 rxF rxQ rxr_swaps := con_chkS_ok rxle rxpp (kn_or_ok (kl_ok (List.forall_mem_cons.mpr ⟨rxo6, fun _ h => (by cases h)⟩)) rk_ok) nw_class (fun h => by cases h) rxq_swaps
def rxr_feeds : con := (242, [(2, 162, 1), (0, -2147483648, 2147483647)], [], [some (0, -2147483648, 2147483647)], [], 80, 4600, false)
theorem rxq_feeds : con_chkS (kn_or (kl bB rxF [rxt65, rxt78]) rk) PT bB 198 rxF0 rxJ rxjo rxP [(0, 1, 0, 0, [(-1), 5])] 757 rxr_feeds = true := fq_chkS2 (fq_jn_eq _) rfl (by decide +kernel)   -- 357
theorem rxw_feeds : con_ok PT bB 198 rxF rxQ rxr_feeds := con_chkS_ok rxle rxpp (kn_or_ok (kl_ok (List.forall_mem_cons.mpr ⟨rxo65, List.forall_mem_cons.mpr ⟨rxo78, fun _ h => (by cases h)⟩⟩)) rk_ok) nw_class (fun h => by cases h) rxq_feeds
def rxr_starves : con := (243, [(2, 162, 1), (0, -2147483648, 2147483647), (0, -2147483648, 2147483647)], [], [some (0, -2147483648, 2147483647)], [], 80, 4600, false)
theorem rxq_starves : con_chkS (kn_or (kl bB rxF [rxt26, rxt65]) rk) PT bB 198 rxF0 rxJ rxjo rxP [(0, 1, 0, 0, [(-1), 5]), (0, 2, 0, 0, [(-1), 5])] 2294 rxr_starves = true := fq_chkS2 (fq_jn_eq _) rfl (by decide +kernel)   -- 1894
theorem rxw_starves : con_ok PT bB 198 rxF rxQ rxr_starves := con_chkS_ok rxle rxpp (kn_or_ok (kl_ok (List.forall_mem_cons.mpr ⟨rxo26, List.forall_mem_cons.mpr ⟨rxo65, fun _ h => (by cases h)⟩⟩)) rk_ok) nw_class (fun h => by cases h) rxq_starves
def rxr_net : con := (244, [(2, 162, 1), (0, -2147483648, 2147483647)], [], [some (0, -2147483648, 2147483647)], [], 70, 3800, false)
theorem rxq_net : con_chkS (kn_or (kl bB rxF [rxt10, rxt11]) rk) PT bB 198 rxF0 rxJ rxjo rxP [(0, 1, 0, 0, [(-1), 5])] 750 rxr_net = true := fq_chkS2 (fq_jn_eq _) rfl (by decide +kernel)   -- 350
theorem rxw_net : con_ok PT bB 198 rxF rxQ rxr_net := con_chkS_ok rxle rxpp (kn_or_ok (kl_ok (List.forall_mem_cons.mpr ⟨rxo10, List.forall_mem_cons.mpr ⟨rxo11, fun _ h => (by cases h)⟩⟩)) rk_ok) nw_class (fun h => by cases h) rxq_net
def rxr_ring : con := (247, [(2, 162, 1)], [], [some (0, -2147483648, 2147483647)], [], 95, 5800, false)
theorem rxq_ring : con_chkS (kn_or (kl bB rxF [rxt71]) rk) PT bB 198 rxF0 rxJ rxjo rxP [] 1041 rxr_ring = true := fq_chkS2 (fq_jn_eq _) rfl (by decide +kernel)   -- 641
theorem rxw_ring : con_ok PT bB 198 rxF rxQ rxr_ring := con_chkS_ok rxle rxpp (kn_or_ok (kl_ok (List.forall_mem_cons.mpr ⟨rxo71, fun _ h => (by cases h)⟩)) rk_ok) nw_class (fun h => by cases h) rxq_ring
end MH67rx01x9
section MH67rx01x10
/-! the calls themselves -/
def rxr_ranks : con := (249, [(2, 162, 1)], [], [some (0, -2147483648, 2147483647)], [], 70, 3800, false)
theorem rxq_ranks : con_chkS (kn_or (kl bB rxF [rxt72]) rk) PT bB 198 rxF0 rxJ rxjo rxP [] 2271 rxr_ranks = true := fq_chkS2 (fq_jn_eq _) rfl (by decide +kernel)   -- 1871
theorem rxw_ranks : con_ok PT bB 198 rxF rxQ rxr_ranks := con_chkS_ok rxle rxpp (kn_or_ok (kl_ok (List.forall_mem_cons.mpr ⟨rxo72, fun _ h => (by cases h)⟩)) rk_ok) nw_class (fun h => by cases h) rxq_ranks
def rxr_heard : con := (251, [(2, 162, 1), (0, -2147483648, 2147483647), (0, -2147483648, 2147483647)], [], [some (0, -2147483648, 2147483647)], [], 65, 3400, false)
theorem rxq_heard : con_chkS (kn_or (kl bB rxF []) rk) PT bB 198 rxF0 rxJ rxjo rxP [] 823 rxr_heard = true := fq_chkS2 (fq_jn_eq _) rfl (by decide +kernel)   -- 423
theorem rxw_heard : con_ok PT bB 198 rxF rxQ rxr_heard := con_chkS_ok rxle rxpp (kn_or_ok (kl_ok (fun _ h => (by cases h))) rk_ok) nw_class (fun h => by cases h) rxq_heard
def rxr_forget : con := (252, [(2, 162, 1)], [], [some (0, -2147483648, 2147483647)], [], 65, 3400, false)
theorem rxq_forget : con_chkS (kn_or (kl bB rxF []) rk) PT bB 198 rxF0 rxJ rxjo rxP [] 411 rxr_forget = true := fq_chkS2 (fq_jn_eq _) rfl (by decide +kernel)   -- 11
theorem rxw_forget : con_ok PT bB 198 rxF rxQ rxr_forget := con_chkS_ok rxle rxpp (kn_or_ok (kl_ok (fun _ h => (by cases h))) rk_ok) nw_class (fun h => by cases h) rxq_forget
def rxr_fits : con := (255, [(2, 162, 1)], [], [some (0, -2147483648, 2147483647)], [], 75, 4200, false)
theorem rxq_fits : con_chkS (kn_or (kl bB rxF [rxt5, rxt74]) rk) PT bB 198 rxF0 rxJ rxjo rxP [] 838 rxr_fits = true := fq_chkS2 (fq_jn_eq _) rfl (by decide +kernel)   -- 438
theorem rxw_fits : con_ok PT bB 198 rxF rxQ rxr_fits := con_chkS_ok rxle rxpp (kn_or_ok (kl_ok (List.forall_mem_cons.mpr ⟨rxo5, List.forall_mem_cons.mpr ⟨rxo74, fun _ h => (by cases h)⟩⟩)) rk_ok) nw_class (fun h => by cases h) rxq_fits
def rxr_ask : con := (256, [(2, 162, 1)], [], [some (0, -2147483648, 2147483647)], [], 75, 4200, false)
theorem rxq_ask : con_chkS (kn_or (kl bB rxF [rxt5, rxt74]) rk) PT bB 198 rxF0 rxJ rxjo rxP [] 4290 rxr_ask = true := fq_chkS2 (fq_jn_eq _) rfl (by decide +kernel)   -- 3890
theorem rxw_ask : con_ok PT bB 198 rxF rxQ rxr_ask := con_chkS_ok rxle rxpp (kn_or_ok (kl_ok (List.forall_mem_cons.mpr ⟨rxo5, List.forall_mem_cons.mpr ⟨rxo74, fun _ h => (by cases h)⟩⟩)) rk_ok) nw_class (fun h => by cases h) rxq_ask
end MH67rx01x10
section MH67rx01x11
/-! the calls themselves -/
def rxr_rests : con := (261, [(2, 162, 1), (0, -2147483648, 2147483647)], [], [some (0, -2147483648, 2147483647)], [], 75, 4200, false)
theorem rxq_rests : con_chkS (kn_or (kl bB rxF [rxt76]) rk) PT bB 198 rxF0 rxJ rxjo rxP [] 9306 rxr_rests = true := fq_chkS2 (fq_jn_eq _) rfl (by decide +kernel)   -- 8906
theorem rxw_rests : con_ok PT bB 198 rxF rxQ rxr_rests := con_chkS_ok rxle rxpp (kn_or_ok (kl_ok (List.forall_mem_cons.mpr ⟨rxo76, fun _ h => (by cases h)⟩)) rk_ok) nw_class (fun h => by cases h) rxq_rests
end MH67rx01x11
