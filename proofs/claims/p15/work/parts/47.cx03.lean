section MH47cx03x0
/-! contracts -/
def cxt10 : con := (11, [(2, 151, 1), (0, 6, 6)], [], [some (0, (-2147483648), 2147483647)], [], 5, 400, false)
theorem cxk10 : con_chk (kl bB cxF []) PT bB 198 cxF cxJ cxjo cxP 10689 cxt10 = true := fq_chk1 (fq_jn_eq _) rfl (by decide +kernel)   -- X1_fewestPayments
theorem cxo10 : con_ok PT bB 198 cxF cxQ cxt10 := con_chk_ok (fun _ _ h => h) cxpp (kl_ok (fun _ h => (by cases h))) nw_class (fun h => by cases h) cxk10
end MH47cx03x0
section MH47cx03x1
/-! contracts -/
def cxt11 : con := (11, [(2, 151, 1), (0, 0, 0)], [], [some (0, (-2147483648), 2147483647)], [], 5, 400, false)
theorem cxk11 : con_chk (kl bB cxF []) PT bB 198 cxF cxJ cxjo cxP 423 cxt11 = true := fq_chk1 (fq_jn_eq _) rfl (by decide +kernel)   -- X1_fewestPayments
theorem cxo11 : con_ok PT bB 198 cxF cxQ cxt11 := con_chk_ok (fun _ _ h => h) cxpp (kl_ok (fun _ h => (by cases h))) nw_class (fun h => by cases h) cxk11
def cxt12 : con := (13, [(2, 151, 1), (2, 13, 1), (0, 2, 2), (0, 2, 2), (0, 0, 79)], [], [some (0, 0, 1)], [], 5, 400, false)
theorem cxk12 : con_chk (kl bB cxF []) PT bB 198 cxF cxJ cxjo cxP 436 cxt12 = true := fq_chk1 (fq_jn_eq _) rfl (by decide +kernel)   -- X1_closes
theorem cxo12 : con_ok PT bB 198 cxF cxQ cxt12 := con_chk_ok (fun _ _ h => h) cxpp (kl_ok (fun _ h => (by cases h))) nw_class (fun h => by cases h) cxk12
def cxt13 : con := (13, [(2, 151, 1), (2, 13, 1), (0, 2, 2), (0, 1, 1), (0, 1, 35)], [], [some (0, 0, 1)], [], 10, 800, false)
theorem cxk13 : con_chk (kl bB cxF [cxt12]) PT bB 198 cxF cxJ cxjo cxP 685 cxt13 = true := fq_chk1 (fq_jn_eq _) rfl (by decide +kernel)   -- X1_closes
theorem cxo13 : con_ok PT bB 198 cxF cxQ cxt13 := con_chk_ok (fun _ _ h => h) cxpp (kl_ok (List.forall_mem_cons.mpr ⟨cxo12, fun _ h => (by cases h)⟩)) nw_class (fun h => by cases h) cxk13
def cxt14 : con := (13, [(2, 151, 1), (2, 13, 1), (0, 3, 3), (0, 3, 3), (0, 0, 127)], [], [some (0, 0, 1)], [], 5, 400, false)
theorem cxk14 : con_chk (kl bB cxF []) PT bB 198 cxF cxJ cxjo cxP 436 cxt14 = true := fq_chk1 (fq_jn_eq _) rfl (by decide +kernel)   -- X1_closes
theorem cxo14 : con_ok PT bB 198 cxF cxQ cxt14 := con_chk_ok (fun _ _ h => h) cxpp (kl_ok (fun _ h => (by cases h))) nw_class (fun h => by cases h) cxk14
def cxt15 : con := (13, [(2, 151, 1), (2, 13, 1), (0, 3, 3), (0, 2, 2), (0, 0, 79)], [], [some (0, 0, 1)], [], 10, 800, false)
theorem cxk15 : con_chk (kl bB cxF [cxt14]) PT bB 198 cxF cxJ cxjo cxP 685 cxt15 = true := fq_chk1 (fq_jn_eq _) rfl (by decide +kernel)   -- X1_closes
theorem cxo15 : con_ok PT bB 198 cxF cxQ cxt15 := con_chk_ok (fun _ _ h => h) cxpp (kl_ok (List.forall_mem_cons.mpr ⟨cxo14, fun _ h => (by cases h)⟩)) nw_class (fun h => by cases h) cxk15
def cxt16 : con := (13, [(2, 151, 1), (2, 13, 1), (0, 3, 3), (0, 1, 1), (0, 1, 35)], [], [some (0, 0, 1)], [], 15, 1200, false)
theorem cxk16 : con_chk (kl bB cxF [cxt15]) PT bB 198 cxF cxJ cxjo cxP 685 cxt16 = true := fq_chk1 (fq_jn_eq _) rfl (by decide +kernel)   -- X1_closes
theorem cxo16 : con_ok PT bB 198 cxF cxQ cxt16 := con_chk_ok (fun _ _ h => h) cxpp (kl_ok (List.forall_mem_cons.mpr ⟨cxo15, fun _ h => (by cases h)⟩)) nw_class (fun h => by cases h) cxk16
def cxt17 : con := (13, [(2, 151, 1), (2, 13, 1), (0, 4, 4), (0, 4, 4), (0, 0, 255)], [], [some (0, 0, 1)], [], 5, 400, false)
theorem cxk17 : con_chk (kl bB cxF []) PT bB 198 cxF cxJ cxjo cxP 436 cxt17 = true := fq_chk1 (fq_jn_eq _) rfl (by decide +kernel)   -- X1_closes
theorem cxo17 : con_ok PT bB 198 cxF cxQ cxt17 := con_chk_ok (fun _ _ h => h) cxpp (kl_ok (fun _ h => (by cases h))) nw_class (fun h => by cases h) cxk17
def cxt18 : con := (13, [(2, 151, 1), (2, 13, 1), (0, 4, 4), (0, 3, 3), (0, 0, 127)], [], [some (0, 0, 1)], [], 10, 800, false)
theorem cxk18 : con_chk (kl bB cxF [cxt17]) PT bB 198 cxF cxJ cxjo cxP 685 cxt18 = true := fq_chk1 (fq_jn_eq _) rfl (by decide +kernel)   -- X1_closes
theorem cxo18 : con_ok PT bB 198 cxF cxQ cxt18 := con_chk_ok (fun _ _ h => h) cxpp (kl_ok (List.forall_mem_cons.mpr ⟨cxo17, fun _ h => (by cases h)⟩)) nw_class (fun h => by cases h) cxk18
def cxt19 : con := (13, [(2, 151, 1), (2, 13, 1), (0, 4, 4), (0, 2, 2), (0, 0, 79)], [], [some (0, 0, 1)], [], 15, 1200, false)
theorem cxk19 : con_chk (kl bB cxF [cxt18]) PT bB 198 cxF cxJ cxjo cxP 685 cxt19 = true := fq_chk1 (fq_jn_eq _) rfl (by decide +kernel)   -- X1_closes
theorem cxo19 : con_ok PT bB 198 cxF cxQ cxt19 := con_chk_ok (fun _ _ h => h) cxpp (kl_ok (List.forall_mem_cons.mpr ⟨cxo18, fun _ h => (by cases h)⟩)) nw_class (fun h => by cases h) cxk19
def cxt20 : con := (13, [(2, 151, 1), (2, 13, 1), (0, 4, 4), (0, 1, 1), (0, 1, 35)], [], [some (0, 0, 1)], [], 20, 1600, false)
theorem cxk20 : con_chk (kl bB cxF [cxt19]) PT bB 198 cxF cxJ cxjo cxP 685 cxt20 = true := fq_chk1 (fq_jn_eq _) rfl (by decide +kernel)   -- X1_closes
theorem cxo20 : con_ok PT bB 198 cxF cxQ cxt20 := con_chk_ok (fun _ _ h => h) cxpp (kl_ok (List.forall_mem_cons.mpr ⟨cxo19, fun _ h => (by cases h)⟩)) nw_class (fun h => by cases h) cxk20
def cxt21 : con := (13, [(2, 151, 1), (2, 13, 1), (0, 5, 5), (0, 5, 5), (0, 0, 511)], [], [some (0, 0, 1)], [], 5, 400, false)
theorem cxk21 : con_chk (kl bB cxF []) PT bB 198 cxF cxJ cxjo cxP 436 cxt21 = true := fq_chk1 (fq_jn_eq _) rfl (by decide +kernel)   -- X1_closes
theorem cxo21 : con_ok PT bB 198 cxF cxQ cxt21 := con_chk_ok (fun _ _ h => h) cxpp (kl_ok (fun _ h => (by cases h))) nw_class (fun h => by cases h) cxk21
def cxt22 : con := (13, [(2, 151, 1), (2, 13, 1), (0, 5, 5), (0, 4, 4), (0, 0, 255)], [], [some (0, 0, 1)], [], 10, 800, false)
theorem cxk22 : con_chk (kl bB cxF [cxt21]) PT bB 198 cxF cxJ cxjo cxP 685 cxt22 = true := fq_chk1 (fq_jn_eq _) rfl (by decide +kernel)   -- X1_closes
theorem cxo22 : con_ok PT bB 198 cxF cxQ cxt22 := con_chk_ok (fun _ _ h => h) cxpp (kl_ok (List.forall_mem_cons.mpr ⟨cxo21, fun _ h => (by cases h)⟩)) nw_class (fun h => by cases h) cxk22
def cxt23 : con := (13, [(2, 151, 1), (2, 13, 1), (0, 5, 5), (0, 3, 3), (0, 0, 127)], [], [some (0, 0, 1)], [], 15, 1200, false)
theorem cxk23 : con_chk (kl bB cxF [cxt22]) PT bB 198 cxF cxJ cxjo cxP 685 cxt23 = true := fq_chk1 (fq_jn_eq _) rfl (by decide +kernel)   -- X1_closes
theorem cxo23 : con_ok PT bB 198 cxF cxQ cxt23 := con_chk_ok (fun _ _ h => h) cxpp (kl_ok (List.forall_mem_cons.mpr ⟨cxo22, fun _ h => (by cases h)⟩)) nw_class (fun h => by cases h) cxk23
def cxt24 : con := (13, [(2, 151, 1), (2, 13, 1), (0, 5, 5), (0, 2, 2), (0, 0, 79)], [], [some (0, 0, 1)], [], 20, 1600, false)
theorem cxk24 : con_chk (kl bB cxF [cxt23]) PT bB 198 cxF cxJ cxjo cxP 685 cxt24 = true := fq_chk1 (fq_jn_eq _) rfl (by decide +kernel)   -- X1_closes
theorem cxo24 : con_ok PT bB 198 cxF cxQ cxt24 := con_chk_ok (fun _ _ h => h) cxpp (kl_ok (List.forall_mem_cons.mpr ⟨cxo23, fun _ h => (by cases h)⟩)) nw_class (fun h => by cases h) cxk24
def cxt25 : con := (13, [(2, 151, 1), (2, 13, 1), (0, 5, 5), (0, 1, 1), (0, 1, 35)], [], [some (0, 0, 1)], [], 25, 2000, false)
theorem cxk25 : con_chk (kl bB cxF [cxt24]) PT bB 198 cxF cxJ cxjo cxP 685 cxt25 = true := fq_chk1 (fq_jn_eq _) rfl (by decide +kernel)   -- X1_closes
theorem cxo25 : con_ok PT bB 198 cxF cxQ cxt25 := con_chk_ok (fun _ _ h => h) cxpp (kl_ok (List.forall_mem_cons.mpr ⟨cxo24, fun _ h => (by cases h)⟩)) nw_class (fun h => by cases h) cxk25
def cxt26 : con := (13, [(2, 151, 1), (2, 13, 1), (0, 6, 6), (0, 6, 6), (0, 0, 599)], [], [some (0, 0, 1)], [], 5, 400, false)
theorem cxk26 : con_chk (kl bB cxF []) PT bB 198 cxF cxJ cxjo cxP 436 cxt26 = true := fq_chk1 (fq_jn_eq _) rfl (by decide +kernel)   -- X1_closes
theorem cxo26 : con_ok PT bB 198 cxF cxQ cxt26 := con_chk_ok (fun _ _ h => h) cxpp (kl_ok (fun _ h => (by cases h))) nw_class (fun h => by cases h) cxk26
def cxt27 : con := (13, [(2, 151, 1), (2, 13, 1), (0, 6, 6), (0, 5, 5), (0, 0, 511)], [], [some (0, 0, 1)], [], 10, 800, false)
theorem cxk27 : con_chk (kl bB cxF [cxt26]) PT bB 198 cxF cxJ cxjo cxP 685 cxt27 = true := fq_chk1 (fq_jn_eq _) rfl (by decide +kernel)   -- X1_closes
theorem cxo27 : con_ok PT bB 198 cxF cxQ cxt27 := con_chk_ok (fun _ _ h => h) cxpp (kl_ok (List.forall_mem_cons.mpr ⟨cxo26, fun _ h => (by cases h)⟩)) nw_class (fun h => by cases h) cxk27
def cxt28 : con := (13, [(2, 151, 1), (2, 13, 1), (0, 6, 6), (0, 4, 4), (0, 0, 255)], [], [some (0, 0, 1)], [], 15, 1200, false)
theorem cxk28 : con_chk (kl bB cxF [cxt27]) PT bB 198 cxF cxJ cxjo cxP 685 cxt28 = true := fq_chk1 (fq_jn_eq _) rfl (by decide +kernel)   -- X1_closes
theorem cxo28 : con_ok PT bB 198 cxF cxQ cxt28 := con_chk_ok (fun _ _ h => h) cxpp (kl_ok (List.forall_mem_cons.mpr ⟨cxo27, fun _ h => (by cases h)⟩)) nw_class (fun h => by cases h) cxk28
def cxt29 : con := (13, [(2, 151, 1), (2, 13, 1), (0, 6, 6), (0, 3, 3), (0, 0, 127)], [], [some (0, 0, 1)], [], 20, 1600, false)
theorem cxk29 : con_chk (kl bB cxF [cxt28]) PT bB 198 cxF cxJ cxjo cxP 685 cxt29 = true := fq_chk1 (fq_jn_eq _) rfl (by decide +kernel)   -- X1_closes
theorem cxo29 : con_ok PT bB 198 cxF cxQ cxt29 := con_chk_ok (fun _ _ h => h) cxpp (kl_ok (List.forall_mem_cons.mpr ⟨cxo28, fun _ h => (by cases h)⟩)) nw_class (fun h => by cases h) cxk29
def cxt30 : con := (13, [(2, 151, 1), (2, 13, 1), (0, 6, 6), (0, 2, 2), (0, 0, 79)], [], [some (0, 0, 1)], [], 25, 2000, false)
theorem cxk30 : con_chk (kl bB cxF [cxt29]) PT bB 198 cxF cxJ cxjo cxP 685 cxt30 = true := fq_chk1 (fq_jn_eq _) rfl (by decide +kernel)   -- X1_closes
theorem cxo30 : con_ok PT bB 198 cxF cxQ cxt30 := con_chk_ok (fun _ _ h => h) cxpp (kl_ok (List.forall_mem_cons.mpr ⟨cxo29, fun _ h => (by cases h)⟩)) nw_class (fun h => by cases h) cxk30
def cxt31 : con := (13, [(2, 151, 1), (2, 13, 1), (0, 6, 6), (0, 1, 1), (0, 1, 35)], [], [some (0, 0, 1)], [], 30, 2400, false)
theorem cxk31 : con_chk (kl bB cxF [cxt30]) PT bB 198 cxF cxJ cxjo cxP 685 cxt31 = true := fq_chk1 (fq_jn_eq _) rfl (by decide +kernel)   -- X1_closes
theorem cxo31 : con_ok PT bB 198 cxF cxQ cxt31 := con_chk_ok (fun _ _ h => h) cxpp (kl_ok (List.forall_mem_cons.mpr ⟨cxo30, fun _ h => (by cases h)⟩)) nw_class (fun h => by cases h) cxk31
def cxt32 : con := (12, [(2, 151, 1), (2, 13, 1)], [], [some (0, (-1), 6)], [], 35, 2800, false)
theorem cxk32 : con_chk (kl bB cxF [cxt13, cxt16, cxt20, cxt25, cxt31]) PT bB 198 cxF cxJ cxjo cxP 1169 cxt32 = true := fq_chk1 (fq_jn_eq _) rfl (by decide +kernel)   -- X1_shortestRing
theorem cxo32 : con_ok PT bB 198 cxF cxQ cxt32 := con_chk_ok (fun _ _ h => h) cxpp (kl_ok (List.forall_mem_cons.mpr ⟨cxo13, List.forall_mem_cons.mpr ⟨cxo16, List.forall_mem_cons.mpr ⟨cxo20, List.forall_mem_cons.mpr ⟨cxo25, List.forall_mem_cons.mpr ⟨cxo31, fun _ h => (by cases h)⟩⟩⟩⟩⟩)) nw_class (fun h => by cases h) cxk32
def cxt33 : con := (80, [(2, 1, 1), (0, (-2147483648), 2147483647), (0, 40, 60)], [], [some (0, (-1), 65535)], [], 5, 400, true)
theorem cxk33 : con_chk (kl bB cxF []) PT bB 198 cxF cxJ cxjo cxP 428 cxt33 = true := fq_chk1 (fq_jn_eq _) rfl (by decide +kernel)   -- X8_signAt
theorem cxo33 : con_ok PT bB 198 cxF cxQ cxt33 := con_chk_ok (fun _ _ h => h) cxpp (kl_ok (fun _ h => (by cases h))) nw_class (fun _ => by decide) cxk33
def cxt34 : con := (81, [(2, 1, 1), (0, (-2147483648), 2147483647), (0, 40, 60)], [], [some (0, (-1), 9)], [], 10, 800, true)
theorem cxk34 : con_chk (kl bB cxF [cxt33]) PT bB 198 cxF cxJ cxjo cxP 423 cxt34 = true := fq_chk1 (fq_jn_eq _) rfl (by decide +kernel)   -- X8_digitAt
theorem cxo34 : con_ok PT bB 198 cxF cxQ cxt34 := con_chk_ok (fun _ _ h => h) cxpp (kl_ok (List.forall_mem_cons.mpr ⟨cxo33, fun _ h => (by cases h)⟩)) nw_class (fun _ => by decide) cxk34
end MH47cx03x1
section MH47cx03x2
/-! contracts -/
def cxt35 : con := (134, [(2, 0, 1)], [], [some (0, (-1), 239)], [], 15, 1200, true)
theorem cxk35 : con_chk (kl bB cxF [cxt33, cxt34]) PT bB 198 cxF cxJ cxjo cxP 8764 cxt35 = true := fq_chk1 (fq_jn_eq _) rfl (by decide +kernel)   -- X10_yearFault
theorem cxo35 : con_ok PT bB 198 cxF cxQ cxt35 := con_chk_ok (fun _ _ h => h) cxpp (kl_ok (List.forall_mem_cons.mpr ⟨cxo33, List.forall_mem_cons.mpr ⟨cxo34, fun _ h => (by cases h)⟩⟩)) nw_class (fun _ => by decide) cxk35
end MH47cx03x2
section MH47cx03x3
/-! contracts -/
def cxt36 : con := (138, [(2, 0, 1), (0, 0, 5), (0, 0, 5), (0, (-2147483648), 2147483647)], [], [none], [], 5, 400, false)
theorem cxk36 : con_chk (kl bB cxF []) PT bB 198 cxF cxJ cxjo cxP 431 cxt36 = true := fq_chk1 (fq_jn_eq _) rfl (by decide +kernel)   -- X10_hearEnvoy
theorem cxo36 : con_ok PT bB 198 cxF cxQ cxt36 := con_chk_ok (fun _ _ h => h) cxpp (kl_ok (fun _ h => (by cases h))) nw_class (fun h => by cases h) cxk36
def cxt37 : con := (14, [(2, 151, 1), (2, 13, 1), (0, 0, 6)], [], [some (0, 0, 9999)], [], 5, 400, true)
theorem cxk37 : con_chk (kl bB cxF []) PT bB 198 cxF cxJ cxjo cxP 778 cxt37 = true := fq_chk1 (fq_jn_eq _) rfl (by decide +kernel)   -- X1_leastDue
theorem cxo37 : con_ok PT bB 198 cxF cxQ cxt37 := con_chk_ok (fun _ _ h => h) cxpp (kl_ok (fun _ h => (by cases h))) nw_class (fun _ => by decide) cxk37
def cxt38 : con := (41, [(2, 5, 1), (2, 13, 1), (0, 0, 7)], [], [some (0, 0, 1)], [], 5, 400, true)
theorem cxk38 : con_chk (kl bB cxF []) PT bB 198 cxF cxJ cxjo cxP 431 cxt38 = true := fq_chk1 (fq_jn_eq _) rfl (by decide +kernel)   -- X3_isEater
theorem cxo38 : con_ok PT bB 198 cxF cxQ cxt38 := con_chk_ok (fun _ _ h => h) cxpp (kl_ok (fun _ h => (by cases h))) nw_class (fun _ => by decide) cxk38
def cxt39 : con := (43, [(2, 5, 1), (2, 13, 1), (0, 0, 5)], [], [none], [], 10, 800, false)
theorem cxk39 : con_chk (kl bB cxF [cxt38]) PT bB 198 cxF cxJ cxjo cxP 754 cxt39 = true := fq_chk1 (fq_jn_eq _) rfl (by decide +kernel)   -- X3_passMonthAt
theorem cxo39 : con_ok PT bB 198 cxF cxQ cxt39 := con_chk_ok (fun _ _ h => h) cxpp (kl_ok (List.forall_mem_cons.mpr ⟨cxo38, fun _ h => (by cases h)⟩)) nw_class (fun h => by cases h) cxk39
def cxt40 : con := (42, [(2, 5, 1), (2, 13, 1)], [], [none], [], 15, 1200, false)
theorem cxk40 : con_chk (kl bB cxF [cxt39]) PT bB 198 cxF cxJ cxjo cxP 473 cxt40 = true := fq_chk1 (fq_jn_eq _) rfl (by decide +kernel)   -- X3_passMonth
theorem cxo40 : con_ok PT bB 198 cxF cxQ cxt40 := con_chk_ok (fun _ _ h => h) cxpp (kl_ok (List.forall_mem_cons.mpr ⟨cxo39, fun _ h => (by cases h)⟩)) nw_class (fun h => by cases h) cxk40
def cxt41 : con := (140, [(2, 0, 1), (0, (-1), 60)], [], [none], [], 20, 1600, false)
theorem cxk41 : con_chk (kl bB cxF [cxt40]) PT bB 198 cxF cxJ cxjo cxP 1906 cxt41 = true := fq_chk1 (fq_jn_eq _) rfl (by decide +kernel)   -- X10_passMonths
theorem cxo41 : con_ok PT bB 198 cxF cxQ cxt41 := con_chk_ok (fun _ _ h => h) cxpp (kl_ok (List.forall_mem_cons.mpr ⟨cxo40, fun _ h => (by cases h)⟩)) nw_class (fun h => by cases h) cxk41
def cxt42 : con := (270, [(0, (-2147483648), 2147483647)], [], [some (0, 0, 2147483647)], [], 5, 400, true)
theorem cxk42 : con_chk (kl bB cxF []) PT bB 198 cxF cxJ cxjo cxP 442 cxt42 = true := fq_chk1 (fq_jn_eq _) rfl (by decide +kernel)   -- J6_bitCount_0f7a4
theorem cxo42 : con_ok PT bB 198 cxF cxQ cxt42 := con_chk_ok (fun _ _ h => h) cxpp (kl_ok (fun _ h => (by cases h))) nw_class (fun _ => by decide) cxk42
def cxt43 : con := (67, [(0, (-2147483648), 2147483647)], [], [some (0, (-1), 6)], [], 5, 400, true)
theorem cxk43 : con_chk (kl bB cxF []) PT bB 198 cxF cxJ cxjo cxP 418 cxt43 = true := fq_chk1 (fq_jn_eq _) rfl (by decide +kernel)   -- X6_letterOf
theorem cxo43 : con_ok PT bB 198 cxF cxQ cxt43 := con_chk_ok (fun _ _ h => h) cxpp (kl_ok (fun _ h => (by cases h))) nw_class (fun _ => by decide) cxk43
def cxt44 : con := (69, [(2, 142, 1), (0, (-2147483648), 2147483647)], [], [none], [], 5, 400, false)
theorem cxk44 : con_chk (kl bB cxF []) PT bB 198 cxF cxJ cxjo cxP 421 cxt44 = true := fq_chk1 (fq_jn_eq _) rfl (by decide +kernel)   -- X6_push
theorem cxo44 : con_ok PT bB 198 cxF cxQ cxt44 := con_chk_ok (fun _ _ h => h) cxpp (kl_ok (fun _ h => (by cases h))) nw_class (fun h => by cases h) cxk44
def cxt45 : con := (70, [(2, 142, 1)], [], [some (0, (-2147483648), 2147483647)], [], 5, 400, false)
theorem cxk45 : con_chk (kl bB cxF []) PT bB 198 cxF cxJ cxjo cxP 420 cxt45 = true := fq_chk1 (fq_jn_eq _) rfl (by decide +kernel)   -- X6_pop
theorem cxo45 : con_ok PT bB 198 cxF cxQ cxt45 := con_chk_ok (fun _ _ h => h) cxpp (kl_ok (fun _ h => (by cases h))) nw_class (fun h => by cases h) cxk45
def cxt46 : con := (71, [(0, (-2147483648), 2147483647), (0, (-2147483648), 2147483647), (0, (-2147483648), 2147483647)], [], [some (0, (-2147483648), 2147483647)], [], 5, 400, true)
theorem cxk46 : con_chk (kl bB cxF []) PT bB 198 cxF cxJ cxjo cxP 456 cxt46 = true := fq_chk1 (fq_jn_eq _) rfl (by decide +kernel)   -- X6_joined
theorem cxo46 : con_ok PT bB 198 cxF cxQ cxt46 := con_chk_ok (fun _ _ h => h) cxpp (kl_ok (fun _ h => (by cases h))) nw_class (fun _ => by decide) cxk46
def cxt47 : con := (68, [(2, 142, 1), (2, 12, 1)], [], [some (0, (-2147483648), 2147483647)], [], 10, 800, false)
theorem cxk47 : con_chk (kl bB cxF [cxt43, cxt44, cxt45, cxt46]) PT bB 198 cxF cxJ cxjo cxP 3092 cxt47 = true := fq_chk1 (fq_jn_eq _) rfl (by decide +kernel)   -- X6_evaluate
theorem cxo47 : con_ok PT bB 198 cxF cxQ cxt47 := con_chk_ok (fun _ _ h => h) cxpp (kl_ok (List.forall_mem_cons.mpr ⟨cxo43, List.forall_mem_cons.mpr ⟨cxo44, List.forall_mem_cons.mpr ⟨cxo45, List.forall_mem_cons.mpr ⟨cxo46, fun _ h => (by cases h)⟩⟩⟩⟩)) nw_class (fun h => by cases h) cxk47
def cxt48 : con := (39, [(2, 5, 1), (2, 142, 1), (2, 13, 1), (0, 0, 7), (0, 0, 5)], [], [some (0, 0, 999)], [], 15, 1200, false)
theorem cxk48 : con_chk (kl bB cxF [cxt42, cxt47]) PT bB 198 cxF cxJ cxjo cxP 499 cxt48 = true := fq_chk1 (fq_jn_eq _) rfl (by decide +kernel)   -- X3_valueFor
theorem cxo48 : con_ok PT bB 198 cxF cxQ cxt48 := con_chk_ok (fun _ _ h => h) cxpp (kl_ok (List.forall_mem_cons.mpr ⟨cxo42, List.forall_mem_cons.mpr ⟨cxo47, fun _ h => (by cases h)⟩⟩)) nw_class (fun h => by cases h) cxk48
def cxt49 : con := (69, [(2, 145, 1), (0, (-2147483648), 2147483647)], [], [none], [], 5, 400, false)
theorem cxk49 : con_chk (kl bB cxF []) PT bB 198 cxF cxJ cxjo cxP 421 cxt49 = true := fq_chk1 (fq_jn_eq _) rfl (by decide +kernel)   -- X6_push
theorem cxo49 : con_ok PT bB 198 cxF cxQ cxt49 := con_chk_ok (fun _ _ h => h) cxpp (kl_ok (fun _ h => (by cases h))) nw_class (fun h => by cases h) cxk49
def cxt50 : con := (70, [(2, 145, 1)], [], [some (0, (-2147483648), 2147483647)], [], 5, 400, false)
theorem cxk50 : con_chk (kl bB cxF []) PT bB 198 cxF cxJ cxjo cxP 420 cxt50 = true := fq_chk1 (fq_jn_eq _) rfl (by decide +kernel)   -- X6_pop
theorem cxo50 : con_ok PT bB 198 cxF cxQ cxt50 := con_chk_ok (fun _ _ h => h) cxpp (kl_ok (fun _ h => (by cases h))) nw_class (fun h => by cases h) cxk50
end MH47cx03x3
section MH47cx03x4
/-! contracts -/
def cxt51 : con := (68, [(2, 145, 1), (2, 12, 1)], [], [some (0, (-2147483648), 2147483647)], [], 10, 800, false)
theorem cxk51 : con_chk (kl bB cxF [cxt43, cxt46, cxt49, cxt50]) PT bB 198 cxF cxJ cxjo cxP 3092 cxt51 = true := fq_chk1 (fq_jn_eq _) rfl (by decide +kernel)   -- X6_evaluate
theorem cxo51 : con_ok PT bB 198 cxF cxQ cxt51 := con_chk_ok (fun _ _ h => h) cxpp (kl_ok (List.forall_mem_cons.mpr ⟨cxo43, List.forall_mem_cons.mpr ⟨cxo46, List.forall_mem_cons.mpr ⟨cxo49, List.forall_mem_cons.mpr ⟨cxo50, fun _ h => (by cases h)⟩⟩⟩⟩)) nw_class (fun h => by cases h) cxk51
def cxt52 : con := (39, [(2, 5, 1), (2, 145, 1), (2, 13, 1), (0, 0, 7), (0, 0, 5)], [], [some (0, 0, 999)], [], 15, 1200, false)
theorem cxk52 : con_chk (kl bB cxF [cxt42, cxt51]) PT bB 198 cxF cxJ cxjo cxP 499 cxt52 = true := fq_chk1 (fq_jn_eq _) rfl (by decide +kernel)   -- X3_valueFor
theorem cxo52 : con_ok PT bB 198 cxF cxQ cxt52 := con_chk_ok (fun _ _ h => h) cxpp (kl_ok (List.forall_mem_cons.mpr ⟨cxo42, List.forall_mem_cons.mpr ⟨cxo51, fun _ h => (by cases h)⟩⟩)) nw_class (fun h => by cases h) cxk52
def cxt53 : con := (77, [(2, 13, 1), (0, 0, 7), (0, 0, 5), (0, 0, 9999), (0, 0, 999)], [], [some (0, (-6), 4)], [], 5, 400, true)
theorem cxk53 : con_chk (kl bB cxF []) PT bB 198 cxF cxJ cxjo cxP 459 cxt53 = true := fq_chk1 (fq_jn_eq _) rfl (by decide +kernel)   -- X7_esteemGained
theorem cxo53 : con_ok PT bB 198 cxF cxQ cxt53 := con_chk_ok (fun _ _ h => h) cxpp (kl_ok (fun _ h => (by cases h))) nw_class (fun _ => by decide) cxk53
def cxt54 : con := (40, [(2, 5, 1), (2, 13, 1), (0, 0, 7), (0, 0, 5), (0, 0, 999)], [], [none], [], 10, 800, false)
theorem cxk54 : con_chk (kl bB cxF [cxt53]) PT bB 198 cxF cxJ cxjo cxP 534 cxt54 = true := fq_chk1 (fq_jn_eq _) rfl (by decide +kernel)   -- X3_deliver
theorem cxo54 : con_ok PT bB 198 cxF cxQ cxt54 := con_chk_ok (fun _ _ h => h) cxpp (kl_ok (List.forall_mem_cons.mpr ⟨cxo53, fun _ h => (by cases h)⟩)) nw_class (fun h => by cases h) cxk54
def cxt55 : con := (142, [(2, 0, 1), (0, 0, 7), (0, 0, 5)], [], [some (0, 0, 1)], [], 20, 1600, false)
theorem cxk55 : con_chk (kl bB cxF [cxt48, cxt52, cxt54]) PT bB 198 cxF cxJ cxjo cxP 468 cxt55 = true := fq_chk1 (fq_jn_eq _) rfl (by decide +kernel)   -- X10_actSend
theorem cxo55 : con_ok PT bB 198 cxF cxQ cxt55 := con_chk_ok (fun _ _ h => h) cxpp (kl_ok (List.forall_mem_cons.mpr ⟨cxo48, List.forall_mem_cons.mpr ⟨cxo52, List.forall_mem_cons.mpr ⟨cxo54, fun _ h => (by cases h)⟩⟩⟩)) nw_class (fun h => by cases h) cxk55
def cxt56 : con := (142, [(2, 0, 1), (0, 0, 7), (0, 6, 9)], [], [some (0, 0, 0)], [], 5, 400, false)
theorem cxk56 : con_chk (kl bB cxF []) PT bB 198 cxF cxJ cxjo cxP 437 cxt56 = true := fq_chk1 (fq_jn_eq _) rfl (by decide +kernel)   -- X10_actSend
theorem cxo56 : con_ok PT bB 198 cxF cxQ cxt56 := con_chk_ok (fun _ _ h => h) cxpp (kl_ok (fun _ h => (by cases h))) nw_class (fun h => by cases h) cxk56
def cxt57 : con := (142, [(2, 0, 1), (0, 0, 7), (0, (-1), (-1))], [], [some (0, 0, 0)], [], 5, 400, false)
theorem cxk57 : con_chk (kl bB cxF []) PT bB 198 cxF cxJ cxjo cxP 433 cxt57 = true := fq_chk1 (fq_jn_eq _) rfl (by decide +kernel)   -- X10_actSend
theorem cxo57 : con_ok PT bB 198 cxF cxQ cxt57 := con_chk_ok (fun _ _ h => h) cxpp (kl_ok (fun _ h => (by cases h))) nw_class (fun h => by cases h) cxk57
def cxt58 : con := (142, [(2, 0, 1), (0, 8, 9), (0, 0, 5)], [], [some (0, 0, 0)], [], 5, 400, false)
theorem cxk58 : con_chk (kl bB cxF []) PT bB 198 cxF cxJ cxjo cxP 422 cxt58 = true := fq_chk1 (fq_jn_eq _) rfl (by decide +kernel)   -- X10_actSend
theorem cxo58 : con_ok PT bB 198 cxF cxQ cxt58 := con_chk_ok (fun _ _ h => h) cxpp (kl_ok (fun _ h => (by cases h))) nw_class (fun h => by cases h) cxk58
def cxt59 : con := (142, [(2, 0, 1), (0, 8, 9), (0, 6, 9)], [], [some (0, 0, 0)], [], 5, 400, false)
theorem cxk59 : con_chk (kl bB cxF []) PT bB 198 cxF cxJ cxjo cxP 422 cxt59 = true := fq_chk1 (fq_jn_eq _) rfl (by decide +kernel)   -- X10_actSend
theorem cxo59 : con_ok PT bB 198 cxF cxQ cxt59 := con_chk_ok (fun _ _ h => h) cxpp (kl_ok (fun _ h => (by cases h))) nw_class (fun h => by cases h) cxk59
def cxt60 : con := (142, [(2, 0, 1), (0, 8, 9), (0, (-1), (-1))], [], [some (0, 0, 0)], [], 5, 400, false)
theorem cxk60 : con_chk (kl bB cxF []) PT bB 198 cxF cxJ cxjo cxP 422 cxt60 = true := fq_chk1 (fq_jn_eq _) rfl (by decide +kernel)   -- X10_actSend
theorem cxo60 : con_ok PT bB 198 cxF cxQ cxt60 := con_chk_ok (fun _ _ h => h) cxpp (kl_ok (fun _ h => (by cases h))) nw_class (fun h => by cases h) cxk60
def cxt61 : con := (142, [(2, 0, 1), (0, (-1), (-1)), (0, 0, 5)], [], [some (0, 0, 0)], [], 5, 400, false)
theorem cxk61 : con_chk (kl bB cxF []) PT bB 198 cxF cxJ cxjo cxP 418 cxt61 = true := fq_chk1 (fq_jn_eq _) rfl (by decide +kernel)   -- X10_actSend
theorem cxo61 : con_ok PT bB 198 cxF cxQ cxt61 := con_chk_ok (fun _ _ h => h) cxpp (kl_ok (fun _ h => (by cases h))) nw_class (fun h => by cases h) cxk61
def cxt62 : con := (142, [(2, 0, 1), (0, (-1), (-1)), (0, 6, 9)], [], [some (0, 0, 0)], [], 5, 400, false)
theorem cxk62 : con_chk (kl bB cxF []) PT bB 198 cxF cxJ cxjo cxP 418 cxt62 = true := fq_chk1 (fq_jn_eq _) rfl (by decide +kernel)   -- X10_actSend
theorem cxo62 : con_ok PT bB 198 cxF cxQ cxt62 := con_chk_ok (fun _ _ h => h) cxpp (kl_ok (fun _ h => (by cases h))) nw_class (fun h => by cases h) cxk62
def cxt63 : con := (142, [(2, 0, 1), (0, (-1), (-1)), (0, (-1), (-1))], [], [some (0, 0, 0)], [], 5, 400, false)
theorem cxk63 : con_chk (kl bB cxF []) PT bB 198 cxF cxJ cxjo cxP 418 cxt63 = true := fq_chk1 (fq_jn_eq _) rfl (by decide +kernel)   -- X10_actSend
theorem cxo63 : con_ok PT bB 198 cxF cxQ cxt63 := con_chk_ok (fun _ _ h => h) cxpp (kl_ok (fun _ h => (by cases h))) nw_class (fun h => by cases h) cxk63
def cxt64 : con := (143, [(2, 0, 1), (0, 0, 5), (0, 0, 5)], [], [some (0, 0, 1)], [], 5, 400, false)
theorem cxk64 : con_chk (kl bB cxF []) PT bB 198 cxF cxJ cxjo cxP 484 cxt64 = true := fq_chk1 (fq_jn_eq _) rfl (by decide +kernel)   -- X10_actForgive
theorem cxo64 : con_ok PT bB 198 cxF cxQ cxt64 := con_chk_ok (fun _ _ h => h) cxpp (kl_ok (fun _ h => (by cases h))) nw_class (fun h => by cases h) cxk64
def cxt65 : con := (143, [(2, 0, 1), (0, 0, 5), (0, 6, 9)], [], [some (0, 0, 0)], [], 5, 400, false)
theorem cxk65 : con_chk (kl bB cxF []) PT bB 198 cxF cxJ cxjo cxP 443 cxt65 = true := fq_chk1 (fq_jn_eq _) rfl (by decide +kernel)   -- X10_actForgive
theorem cxo65 : con_ok PT bB 198 cxF cxQ cxt65 := con_chk_ok (fun _ _ h => h) cxpp (kl_ok (fun _ h => (by cases h))) nw_class (fun h => by cases h) cxk65
def cxt66 : con := (143, [(2, 0, 1), (0, 0, 5), (0, (-1), (-1))], [], [some (0, 0, 0)], [], 5, 400, false)
theorem cxk66 : con_chk (kl bB cxF []) PT bB 198 cxF cxJ cxjo cxP 439 cxt66 = true := fq_chk1 (fq_jn_eq _) rfl (by decide +kernel)   -- X10_actForgive
theorem cxo66 : con_ok PT bB 198 cxF cxQ cxt66 := con_chk_ok (fun _ _ h => h) cxpp (kl_ok (fun _ h => (by cases h))) nw_class (fun h => by cases h) cxk66
def cxt67 : con := (143, [(2, 0, 1), (0, 6, 9), (0, 0, 5)], [], [some (0, 0, 0)], [], 5, 400, false)
theorem cxk67 : con_chk (kl bB cxF []) PT bB 198 cxF cxJ cxjo cxP 429 cxt67 = true := fq_chk1 (fq_jn_eq _) rfl (by decide +kernel)   -- X10_actForgive
theorem cxo67 : con_ok PT bB 198 cxF cxQ cxt67 := con_chk_ok (fun _ _ h => h) cxpp (kl_ok (fun _ h => (by cases h))) nw_class (fun h => by cases h) cxk67
def cxt68 : con := (143, [(2, 0, 1), (0, 6, 9), (0, 6, 9)], [], [some (0, 0, 0)], [], 5, 400, false)
theorem cxk68 : con_chk (kl bB cxF []) PT bB 198 cxF cxJ cxjo cxP 429 cxt68 = true := fq_chk1 (fq_jn_eq _) rfl (by decide +kernel)   -- X10_actForgive
theorem cxo68 : con_ok PT bB 198 cxF cxQ cxt68 := con_chk_ok (fun _ _ h => h) cxpp (kl_ok (fun _ h => (by cases h))) nw_class (fun h => by cases h) cxk68
def cxt69 : con := (143, [(2, 0, 1), (0, 6, 9), (0, (-1), (-1))], [], [some (0, 0, 0)], [], 5, 400, false)
theorem cxk69 : con_chk (kl bB cxF []) PT bB 198 cxF cxJ cxjo cxP 429 cxt69 = true := fq_chk1 (fq_jn_eq _) rfl (by decide +kernel)   -- X10_actForgive
theorem cxo69 : con_ok PT bB 198 cxF cxQ cxt69 := con_chk_ok (fun _ _ h => h) cxpp (kl_ok (fun _ h => (by cases h))) nw_class (fun h => by cases h) cxk69
def cxt70 : con := (143, [(2, 0, 1), (0, (-1), (-1)), (0, 0, 5)], [], [some (0, 0, 0)], [], 5, 400, false)
theorem cxk70 : con_chk (kl bB cxF []) PT bB 198 cxF cxJ cxjo cxP 425 cxt70 = true := fq_chk1 (fq_jn_eq _) rfl (by decide +kernel)   -- X10_actForgive
theorem cxo70 : con_ok PT bB 198 cxF cxQ cxt70 := con_chk_ok (fun _ _ h => h) cxpp (kl_ok (fun _ h => (by cases h))) nw_class (fun h => by cases h) cxk70
def cxt71 : con := (143, [(2, 0, 1), (0, (-1), (-1)), (0, 6, 9)], [], [some (0, 0, 0)], [], 5, 400, false)
theorem cxk71 : con_chk (kl bB cxF []) PT bB 198 cxF cxJ cxjo cxP 425 cxt71 = true := fq_chk1 (fq_jn_eq _) rfl (by decide +kernel)   -- X10_actForgive
theorem cxo71 : con_ok PT bB 198 cxF cxQ cxt71 := con_chk_ok (fun _ _ h => h) cxpp (kl_ok (fun _ h => (by cases h))) nw_class (fun h => by cases h) cxk71
def cxt72 : con := (143, [(2, 0, 1), (0, (-1), (-1)), (0, (-1), (-1))], [], [some (0, 0, 0)], [], 5, 400, false)
theorem cxk72 : con_chk (kl bB cxF []) PT bB 198 cxF cxJ cxjo cxP 425 cxt72 = true := fq_chk1 (fq_jn_eq _) rfl (by decide +kernel)   -- X10_actForgive
theorem cxo72 : con_ok PT bB 198 cxF cxQ cxt72 := con_chk_ok (fun _ _ h => h) cxpp (kl_ok (fun _ h => (by cases h))) nw_class (fun h => by cases h) cxk72
def cxt73 : con := (144, [(2, 0, 1), (0, 0, 5), (0, 0, 5), (0, (-9), 9)], [], [some (0, 0, 1)], [], 10, 800, false)
theorem cxk73 : con_chk (kl bB cxF [cxt36]) PT bB 198 cxF cxJ cxjo cxP 472 cxt73 = true := fq_chk1 (fq_jn_eq _) rfl (by decide +kernel)   -- X10_actEnvoy
theorem cxo73 : con_ok PT bB 198 cxF cxQ cxt73 := con_chk_ok (fun _ _ h => h) cxpp (kl_ok (List.forall_mem_cons.mpr ⟨cxo36, fun _ h => (by cases h)⟩)) nw_class (fun h => by cases h) cxk73
def cxt74 : con := (144, [(2, 0, 1), (0, 0, 5), (0, 6, 9), (0, (-9), 9)], [], [some (0, 0, 0)], [], 5, 400, false)
theorem cxk74 : con_chk (kl bB cxF []) PT bB 198 cxF cxJ cxjo cxP 445 cxt74 = true := fq_chk1 (fq_jn_eq _) rfl (by decide +kernel)   -- X10_actEnvoy
theorem cxo74 : con_ok PT bB 198 cxF cxQ cxt74 := con_chk_ok (fun _ _ h => h) cxpp (kl_ok (fun _ h => (by cases h))) nw_class (fun h => by cases h) cxk74
def cxt75 : con := (144, [(2, 0, 1), (0, 0, 5), (0, (-1), (-1)), (0, (-9), 9)], [], [some (0, 0, 0)], [], 5, 400, false)
theorem cxk75 : con_chk (kl bB cxF []) PT bB 198 cxF cxJ cxjo cxP 441 cxt75 = true := fq_chk1 (fq_jn_eq _) rfl (by decide +kernel)   -- X10_actEnvoy
theorem cxo75 : con_ok PT bB 198 cxF cxQ cxt75 := con_chk_ok (fun _ _ h => h) cxpp (kl_ok (fun _ h => (by cases h))) nw_class (fun h => by cases h) cxk75
def cxt76 : con := (144, [(2, 0, 1), (0, 6, 9), (0, 0, 5), (0, (-9), 9)], [], [some (0, 0, 0)], [], 5, 400, false)
theorem cxk76 : con_chk (kl bB cxF []) PT bB 198 cxF cxJ cxjo cxP 431 cxt76 = true := fq_chk1 (fq_jn_eq _) rfl (by decide +kernel)   -- X10_actEnvoy
theorem cxo76 : con_ok PT bB 198 cxF cxQ cxt76 := con_chk_ok (fun _ _ h => h) cxpp (kl_ok (fun _ h => (by cases h))) nw_class (fun h => by cases h) cxk76
def cxt77 : con := (144, [(2, 0, 1), (0, 6, 9), (0, 6, 9), (0, (-9), 9)], [], [some (0, 0, 0)], [], 5, 400, false)
theorem cxk77 : con_chk (kl bB cxF []) PT bB 198 cxF cxJ cxjo cxP 431 cxt77 = true := fq_chk1 (fq_jn_eq _) rfl (by decide +kernel)   -- X10_actEnvoy
theorem cxo77 : con_ok PT bB 198 cxF cxQ cxt77 := con_chk_ok (fun _ _ h => h) cxpp (kl_ok (fun _ h => (by cases h))) nw_class (fun h => by cases h) cxk77
def cxt78 : con := (144, [(2, 0, 1), (0, 6, 9), (0, (-1), (-1)), (0, (-9), 9)], [], [some (0, 0, 0)], [], 5, 400, false)
theorem cxk78 : con_chk (kl bB cxF []) PT bB 198 cxF cxJ cxjo cxP 431 cxt78 = true := fq_chk1 (fq_jn_eq _) rfl (by decide +kernel)   -- X10_actEnvoy
theorem cxo78 : con_ok PT bB 198 cxF cxQ cxt78 := con_chk_ok (fun _ _ h => h) cxpp (kl_ok (fun _ h => (by cases h))) nw_class (fun h => by cases h) cxk78
def cxt79 : con := (144, [(2, 0, 1), (0, (-1), (-1)), (0, 0, 5), (0, (-9), 9)], [], [some (0, 0, 0)], [], 5, 400, false)
theorem cxk79 : con_chk (kl bB cxF []) PT bB 198 cxF cxJ cxjo cxP 427 cxt79 = true := fq_chk1 (fq_jn_eq _) rfl (by decide +kernel)   -- X10_actEnvoy
theorem cxo79 : con_ok PT bB 198 cxF cxQ cxt79 := con_chk_ok (fun _ _ h => h) cxpp (kl_ok (fun _ h => (by cases h))) nw_class (fun h => by cases h) cxk79
def cxt80 : con := (144, [(2, 0, 1), (0, (-1), (-1)), (0, 6, 9), (0, (-9), 9)], [], [some (0, 0, 0)], [], 5, 400, false)
theorem cxk80 : con_chk (kl bB cxF []) PT bB 198 cxF cxJ cxjo cxP 427 cxt80 = true := fq_chk1 (fq_jn_eq _) rfl (by decide +kernel)   -- X10_actEnvoy
theorem cxo80 : con_ok PT bB 198 cxF cxQ cxt80 := con_chk_ok (fun _ _ h => h) cxpp (kl_ok (fun _ h => (by cases h))) nw_class (fun h => by cases h) cxk80
def cxt81 : con := (144, [(2, 0, 1), (0, (-1), (-1)), (0, (-1), (-1)), (0, (-9), 9)], [], [some (0, 0, 0)], [], 5, 400, false)
theorem cxk81 : con_chk (kl bB cxF []) PT bB 198 cxF cxJ cxjo cxP 427 cxt81 = true := fq_chk1 (fq_jn_eq _) rfl (by decide +kernel)   -- X10_actEnvoy
theorem cxo81 : con_ok PT bB 198 cxF cxQ cxt81 := con_chk_ok (fun _ _ h => h) cxpp (kl_ok (fun _ h => (by cases h))) nw_class (fun h => by cases h) cxk81
def cxt82 : con := (141, [(2, 0, 1), (0, 0, 79)], [], [some (0, 0, 1)], [], 25, 2000, false)
theorem cxk82 : con_chk (kl bB cxF [cxt33, cxt34, cxt41, cxt55, cxt56, cxt57, cxt58, cxt59, cxt60, cxt61, cxt62, cxt63, cxt64, cxt65, cxt66, cxt67, cxt68, cxt69, cxt70, cxt71, cxt72, cxt73, cxt74, cxt75, cxt76, cxt77, cxt78, cxt79, cxt80, cxt81]) PT bB 198 cxF cxJ cxjo cxP 460 cxt82 = true := fq_chk1 (fq_jn_eq _) rfl (by decide +kernel)   -- X10_doAct
theorem cxo82 : con_ok PT bB 198 cxF cxQ cxt82 := con_chk_ok (fun _ _ h => h) cxpp (kl_ok (List.forall_mem_cons.mpr ⟨cxo33, List.forall_mem_cons.mpr ⟨cxo34, List.forall_mem_cons.mpr ⟨cxo41, List.forall_mem_cons.mpr ⟨cxo55, List.forall_mem_cons.mpr ⟨cxo56, List.forall_mem_cons.mpr ⟨cxo57, List.forall_mem_cons.mpr ⟨cxo58, List.forall_mem_cons.mpr ⟨cxo59, List.forall_mem_cons.mpr ⟨cxo60, List.forall_mem_cons.mpr ⟨cxo61, List.forall_mem_cons.mpr ⟨cxo62, List.forall_mem_cons.mpr ⟨cxo63, List.forall_mem_cons.mpr ⟨cxo64, List.forall_mem_cons.mpr ⟨cxo65, List.forall_mem_cons.mpr ⟨cxo66, List.forall_mem_cons.mpr ⟨cxo67, List.forall_mem_cons.mpr ⟨cxo68, List.forall_mem_cons.mpr ⟨cxo69, List.forall_mem_cons.mpr ⟨cxo70, List.forall_mem_cons.mpr ⟨cxo71, List.forall_mem_cons.mpr ⟨cxo72, List.forall_mem_cons.mpr ⟨cxo73, List.forall_mem_cons.mpr ⟨cxo74, List.forall_mem_cons.mpr ⟨cxo75, List.forall_mem_cons.mpr ⟨cxo76, List.forall_mem_cons.mpr ⟨cxo77, List.forall_mem_cons.mpr ⟨cxo78, List.forall_mem_cons.mpr ⟨cxo79, List.forall_mem_cons.mpr ⟨cxo80, List.forall_mem_cons.mpr ⟨cxo81, fun _ h => (by cases h)⟩⟩⟩⟩⟩⟩⟩⟩⟩⟩⟩⟩⟩⟩⟩⟩⟩⟩⟩⟩⟩⟩⟩⟩⟩⟩⟩⟩⟩⟩)) nw_class (fun h => by cases h) cxk82
def cxt83 : con := (39, [(2, 5, 1), (2, 142, 1), (2, 19, 1), (0, 0, 7), (0, 0, 5)], [], [some (0, 0, 999)], [], 15, 1200, false)
theorem cxk83 : con_chk (kl bB cxF [cxt42, cxt47]) PT bB 198 cxF cxJ cxjo cxP 499 cxt83 = true := fq_chk1 (fq_jn_eq _) rfl (by decide +kernel)   -- X3_valueFor
theorem cxo83 : con_ok PT bB 198 cxF cxQ cxt83 := con_chk_ok (fun _ _ h => h) cxpp (kl_ok (List.forall_mem_cons.mpr ⟨cxo42, List.forall_mem_cons.mpr ⟨cxo47, fun _ h => (by cases h)⟩⟩)) nw_class (fun h => by cases h) cxk83
def cxt84 : con := (39, [(2, 5, 1), (2, 145, 1), (2, 19, 1), (0, 0, 7), (0, 0, 5)], [], [some (0, 0, 999)], [], 15, 1200, false)
theorem cxk84 : con_chk (kl bB cxF [cxt42, cxt51]) PT bB 198 cxF cxJ cxjo cxP 499 cxt84 = true := fq_chk1 (fq_jn_eq _) rfl (by decide +kernel)   -- X3_valueFor
theorem cxo84 : con_ok PT bB 198 cxF cxQ cxt84 := con_chk_ok (fun _ _ h => h) cxpp (kl_ok (List.forall_mem_cons.mpr ⟨cxo42, List.forall_mem_cons.mpr ⟨cxo51, fun _ h => (by cases h)⟩⟩)) nw_class (fun h => by cases h) cxk84
def cxt85 : con := (77, [(2, 19, 1), (0, 0, 7), (0, 0, 5), (0, 0, 9999), (0, 0, 999)], [], [some (0, (-9), 4)], [], 5, 400, true)
theorem cxk85 : con_chk (kl bB cxF []) PT bB 198 cxF cxJ cxjo cxP 459 cxt85 = true := fq_chk1 (fq_jn_eq _) rfl (by decide +kernel)   -- X7_esteemGained
theorem cxo85 : con_ok PT bB 198 cxF cxQ cxt85 := con_chk_ok (fun _ _ h => h) cxpp (kl_ok (fun _ h => (by cases h))) nw_class (fun _ => by decide) cxk85
def cxt86 : con := (40, [(2, 5, 1), (2, 19, 1), (0, 0, 7), (0, 0, 5), (0, 0, 999)], [], [none], [], 10, 800, false)
theorem cxk86 : con_chk (kl bB cxF [cxt85]) PT bB 198 cxF cxJ cxjo cxP 534 cxt86 = true := fq_chk1 (fq_jn_eq _) rfl (by decide +kernel)   -- X3_deliver
theorem cxo86 : con_ok PT bB 198 cxF cxQ cxt86 := con_chk_ok (fun _ _ h => h) cxpp (kl_ok (List.forall_mem_cons.mpr ⟨cxo85, fun _ h => (by cases h)⟩)) nw_class (fun h => by cases h) cxk86
def cxt87 : con := (145, [(2, 0, 1), (0, 0, 7), (0, 0, 5)], [], [some (0, 0, 1)], [], 20, 1600, false)
theorem cxk87 : con_chk (kl bB cxF [cxt83, cxt84, cxt86]) PT bB 198 cxF cxJ cxjo cxP 427 cxt87 = true := fq_chk1 (fq_jn_eq _) rfl (by decide +kernel)   -- X10_tryDelivery
theorem cxo87 : con_ok PT bB 198 cxF cxQ cxt87 := con_chk_ok (fun _ _ h => h) cxpp (kl_ok (List.forall_mem_cons.mpr ⟨cxo83, List.forall_mem_cons.mpr ⟨cxo84, List.forall_mem_cons.mpr ⟨cxo86, fun _ h => (by cases h)⟩⟩⟩)) nw_class (fun h => by cases h) cxk87
def cxt88 : con := (146, [(2, 0, 1), (0, 0, 6), (0, 1, 7)], [], [some (0, 0, 1998)], [], 20, 1600, false)
theorem cxk88 : con_chk (kl bB cxF [cxt48, cxt52]) PT bB 198 cxF cxJ cxjo cxP 471 cxt88 = true := fq_chk1 (fq_jn_eq _) rfl (by decide +kernel)   -- X10_swapGain
theorem cxo88 : con_ok PT bB 198 cxF cxQ cxt88 := con_chk_ok (fun _ _ h => h) cxpp (kl_ok (List.forall_mem_cons.mpr ⟨cxo48, List.forall_mem_cons.mpr ⟨cxo52, fun _ h => (by cases h)⟩⟩)) nw_class (fun h => by cases h) cxk88
def cxt89 : con := (37, [(2, 5, 1), (2, 13, 1), (0, 0, 5)], [], [some (0, 0, 127)], [], 5, 400, true)
theorem cxk89 : con_chk (kl bB cxF []) PT bB 198 cxF cxJ cxjo cxP 644 cxt89 = true := fq_chk1 (fq_jn_eq _) rfl (by decide +kernel)   -- X3_esteemFor
theorem cxo89 : con_ok PT bB 198 cxF cxQ cxt89 := con_chk_ok (fun _ _ h => h) cxpp (kl_ok (fun _ h => (by cases h))) nw_class (fun _ => by decide) cxk89
def cxt90 : con := (147, [(2, 0, 1), (0, 0, 255)], [], [some (0, (-1), 5)], [], 10, 800, true)
theorem cxk90 : con_chk (kl bB cxF [cxt89]) PT bB 198 cxF cxJ cxjo cxP 575 cxt90 = true := fq_chk1 (fq_jn_eq _) rfl (by decide +kernel)   -- X10_mostEsteemedBut
theorem cxo90 : con_ok PT bB 198 cxF cxQ cxt90 := con_chk_ok (fun _ _ h => h) cxpp (kl_ok (List.forall_mem_cons.mpr ⟨cxo89, fun _ h => (by cases h)⟩)) nw_class (fun _ => by decide) cxk90
def cxt91 : con := (31, [(2, 5, 1), (2, 13, 1), (0, 0, 5)], [], [some (0, 0, 63)], [], 5, 400, true)
theorem cxk91 : con_chk (kl bB cxF []) PT bB 198 cxF cxJ cxjo cxP 806 cxt91 = true := fq_chk1 (fq_jn_eq _) rfl (by decide +kernel)   -- X3_alliesOf
theorem cxo91 : con_ok PT bB 198 cxF cxQ cxt91 := con_chk_ok (fun _ _ h => h) cxpp (kl_ok (fun _ h => (by cases h))) nw_class (fun _ => by decide) cxk91
def cxt92 : con := (148, [(2, 0, 1), (0, 1, 63)], [], [some (0, 0, 1)], [], 10, 800, true)
theorem cxk92 : con_chk (kl bB cxF [cxt91]) PT bB 198 cxF cxJ cxjo cxP 613 cxt92 = true := fq_chk1 (fq_jn_eq _) rfl (by decide +kernel)   -- X10_isLeague
theorem cxo92 : con_ok PT bB 198 cxF cxQ cxt92 := con_chk_ok (fun _ _ h => h) cxpp (kl_ok (List.forall_mem_cons.mpr ⟨cxo91, fun _ h => (by cases h)⟩)) nw_class (fun _ => by decide) cxk92
def cxt93 : con := (149, [(2, 0, 1), (2, 142, 1)], [], [some (0, 0, 9999)], [], 20, 1600, false)
theorem cxk93 : con_chk (kl bB cxF [cxt48]) PT bB 198 cxF cxJ cxjo cxP 587 cxt93 = true := fq_chk1 (fq_jn_eq _) rfl (by decide +kernel)   -- X10_worthAtHome
theorem cxo93 : con_ok PT bB 198 cxF cxQ cxt93 := con_chk_ok (fun _ _ h => h) cxpp (kl_ok (List.forall_mem_cons.mpr ⟨cxo48, fun _ h => (by cases h)⟩)) nw_class (fun h => by cases h) cxk93
def cxt94 : con := (149, [(2, 0, 1), (2, 145, 1)], [], [some (0, 0, 9999)], [], 20, 1600, false)
theorem cxk94 : con_chk (kl bB cxF [cxt52]) PT bB 198 cxF cxJ cxjo cxP 587 cxt94 = true := fq_chk1 (fq_jn_eq _) rfl (by decide +kernel)   -- X10_worthAtHome
theorem cxo94 : con_ok PT bB 198 cxF cxQ cxt94 := con_chk_ok (fun _ _ h => h) cxpp (kl_ok (List.forall_mem_cons.mpr ⟨cxo52, fun _ h => (by cases h)⟩)) nw_class (fun h => by cases h) cxk94
end MH47cx03x4
section MH47cx03x5
/-! contracts -/
def cxt95 : con := (151, [(1, (-9223372036854775808), 9223372036854775807), (1, (-9223372036854775808), 9223372036854775807)], [], [some (1, (-9223372036854775808), 9223372036854775807)], [], 5, 400, true)
theorem cxk95 : con_chk (kl bB cxF []) PT bB 198 cxF cxJ cxjo cxP 3211 cxt95 = true := fq_chk1 (fq_jn_eq _) rfl (by decide +kernel)   -- X10_greatestDivisor
theorem cxo95 : con_ok PT bB 198 cxF cxQ cxt95 := con_chk_ok (fun _ _ h => h) cxpp (kl_ok (fun _ h => (by cases h))) nw_class (fun _ => by decide) cxk95
def cxt96 : con := (54, [(2, 3, 1), (1, (-9223372036854775808), 9223372036854775807)], [], [none], [], 5, 400, false)
theorem cxk96 : con_chk (kl bB cxF []) PT bB 198 cxF cxJ cxjo cxP 421 cxt96 = true := fq_chk1 (fq_jn_eq _) rfl (by decide +kernel)   -- X5_tell
theorem cxo96 : con_ok PT bB 198 cxF cxQ cxt96 := con_chk_ok (fun _ _ h => h) cxpp (kl_ok (fun _ h => (by cases h))) nw_class (fun h => by cases h) cxk96
def cxt97 : con := (56, [(2, 3, 1), (1, (-9223372036854775808), 9223372036854775807), (1, (-9223372036854775808), 9223372036854775807)], [], [none], [], 10, 800, false)
theorem cxk97 : con_chk (kl bB cxF [cxt96]) PT bB 198 cxF cxJ cxjo cxP 413 cxt97 = true := fq_chk1 (fq_jn_eq _) rfl (by decide +kernel)   -- X5_tellTwo
theorem cxo97 : con_ok PT bB 198 cxF cxQ cxt97 := con_chk_ok (fun _ _ h => h) cxpp (kl_ok (List.forall_mem_cons.mpr ⟨cxo96, fun _ h => (by cases h)⟩)) nw_class (fun h => by cases h) cxk97
def cxt98 : con := (150, [(2, 0, 1), (1, (-9223372036854775808), 9223372036854775807), (1, (-9223372036854775808), 9223372036854775807)], [], [none], [], 15, 1200, false)
theorem cxk98 : con_chk (kl bB cxF [cxt95, cxt97]) PT bB 198 cxF cxJ cxjo cxP 426 cxt98 = true := fq_chk1 (fq_jn_eq _) rfl (by decide +kernel)   -- X10_tellFraction
theorem cxo98 : con_ok PT bB 198 cxF cxQ cxt98 := con_chk_ok (fun _ _ h => h) cxpp (kl_ok (List.forall_mem_cons.mpr ⟨cxo95, List.forall_mem_cons.mpr ⟨cxo97, fun _ h => (by cases h)⟩⟩)) nw_class (fun h => by cases h) cxk98
def cxt99 : con := (152, [(0, 0, 10), (0, 0, 12)], [], [some (1, (-9223372036854775808), 9223372036854775807)], [], 5, 400, true)
theorem cxk99 : con_chk (kl bB cxF []) PT bB 198 cxF cxJ cxjo cxP 763 cxt99 = true := fq_chk1 (fq_jn_eq _) rfl (by decide +kernel)   -- X10_power
theorem cxo99 : con_ok PT bB 198 cxF cxQ cxt99 := con_chk_ok (fun _ _ h => h) cxpp (kl_ok (fun _ h => (by cases h))) nw_class (fun _ => by decide) cxk99
def cxt100 : con := (154, [(0, 0, 9), (0, 0, 9), (0, 0, 20)], [], [some (0, (-20), 20)], [], 5, 400, true)
theorem cxk100 : con_chk (kl bB cxF []) PT bB 198 cxF cxJ cxjo cxP 432 cxt100 = true := fq_chk1 (fq_jn_eq _) rfl (by decide +kernel)   -- X10_gainOf
theorem cxo100 : con_ok PT bB 198 cxF cxQ cxt100 := con_chk_ok (fun _ _ h => h) cxpp (kl_ok (fun _ h => (by cases h))) nw_class (fun _ => by decide) cxk100
def cxt101 : con := (153, [(0, 0, 9), (0, 0, 9), (0, 0, 20)], [], [some (0, 0, 1)], [], 10, 800, true)
theorem cxk101 : con_chk (kl bB cxF [cxt100]) PT bB 198 cxF cxJ cxjo cxP 567 cxt101 = true := fq_chk1 (fq_jn_eq _) rfl (by decide +kernel)   -- X10_isBestReply
theorem cxo101 : con_ok PT bB 198 cxF cxQ cxt101 := con_chk_ok (fun _ _ h => h) cxpp (kl_ok (List.forall_mem_cons.mpr ⟨cxo100, fun _ h => (by cases h)⟩)) nw_class (fun _ => by decide) cxk101
def cxt102 : con := (158, [(0, (-2147483648), 2147483647)], [], [some (0, (-1), 7)], [], 5, 400, true)
theorem cxk102 : con_chk (kl bB cxF []) PT bB 198 cxF cxJ cxjo cxP 511 cxt102 = true := fq_chk1 (fq_jn_eq _) rfl (by decide +kernel)   -- X10_firstOf
theorem cxo102 : con_ok PT bB 198 cxF cxQ cxt102 := con_chk_ok (fun _ _ h => h) cxpp (kl_ok (fun _ h => (by cases h))) nw_class (fun _ => by decide) cxk102
def cxt103 : con := (73, [(2, 105, 1), (2, 13, 1)], [], [none], [], 5, 400, false)
theorem cxk103 : con_chk (kl bB cxF []) PT bB 198 cxF cxJ cxjo cxP 449 cxt103 = true := fq_chk1 (fq_jn_eq _) rfl (by decide +kernel)   -- X7_copyFrom
theorem cxo103 : con_ok PT bB 198 cxF cxQ cxt103 := con_chk_ok (fun _ _ h => h) cxpp (kl_ok (fun _ h => (by cases h))) nw_class (fun h => by cases h) cxk103
def cxt104 : con := (73, [(2, 111, 1), (2, 13, 1)], [], [none], [], 5, 400, false)
theorem cxk104 : con_chk (kl bB cxF []) PT bB 198 cxF cxJ cxjo cxP 449 cxt104 = true := fq_chk1 (fq_jn_eq _) rfl (by decide +kernel)   -- X7_copyFrom
theorem cxo104 : con_ok PT bB 198 cxF cxQ cxt104 := con_chk_ok (fun _ _ h => h) cxpp (kl_ok (fun _ h => (by cases h))) nw_class (fun h => by cases h) cxk104
def cxt105 : con := (73, [(2, 117, 1), (2, 13, 1)], [], [none], [], 5, 400, false)
theorem cxk105 : con_chk (kl bB cxF []) PT bB 198 cxF cxJ cxjo cxP 449 cxt105 = true := fq_chk1 (fq_jn_eq _) rfl (by decide +kernel)   -- X7_copyFrom
theorem cxo105 : con_ok PT bB 198 cxF cxQ cxt105 := con_chk_ok (fun _ _ h => h) cxpp (kl_ok (fun _ h => (by cases h))) nw_class (fun h => by cases h) cxk105
def cxt106 : con := (73, [(2, 27, 1), (2, 13, 1)], [], [none], [], 5, 400, false)
theorem cxk106 : con_chk (kl bB cxF []) PT bB 198 cxF cxJ cxjo cxP 449 cxt106 = true := fq_chk1 (fq_jn_eq _) rfl (by decide +kernel)   -- X7_copyFrom
theorem cxo106 : con_ok PT bB 198 cxF cxQ cxt106 := con_chk_ok (fun _ _ h => h) cxpp (kl_ok (fun _ h => (by cases h))) nw_class (fun h => by cases h) cxk106
def cxt107 : con := (73, [(2, 33, 1), (2, 13, 1)], [], [none], [], 5, 400, false)
theorem cxk107 : con_chk (kl bB cxF []) PT bB 198 cxF cxJ cxjo cxP 449 cxt107 = true := fq_chk1 (fq_jn_eq _) rfl (by decide +kernel)   -- X7_copyFrom
theorem cxo107 : con_ok PT bB 198 cxF cxQ cxt107 := con_chk_ok (fun _ _ h => h) cxpp (kl_ok (fun _ h => (by cases h))) nw_class (fun h => by cases h) cxk107
def cxt108 : con := (73, [(2, 39, 1), (2, 13, 1)], [], [none], [], 5, 400, false)
theorem cxk108 : con_chk (kl bB cxF []) PT bB 198 cxF cxJ cxjo cxP 449 cxt108 = true := fq_chk1 (fq_jn_eq _) rfl (by decide +kernel)   -- X7_copyFrom
theorem cxo108 : con_ok PT bB 198 cxF cxQ cxt108 := con_chk_ok (fun _ _ h => h) cxpp (kl_ok (fun _ h => (by cases h))) nw_class (fun h => by cases h) cxk108
def cxt109 : con := (73, [(2, 45, 1), (2, 13, 1)], [], [none], [], 5, 400, false)
theorem cxk109 : con_chk (kl bB cxF []) PT bB 198 cxF cxJ cxjo cxP 449 cxt109 = true := fq_chk1 (fq_jn_eq _) rfl (by decide +kernel)   -- X7_copyFrom
theorem cxo109 : con_ok PT bB 198 cxF cxQ cxt109 := con_chk_ok (fun _ _ h => h) cxpp (kl_ok (fun _ h => (by cases h))) nw_class (fun h => by cases h) cxk109
def cxt110 : con := (73, [(2, 51, 1), (2, 13, 1)], [], [none], [], 5, 400, false)
theorem cxk110 : con_chk (kl bB cxF []) PT bB 198 cxF cxJ cxjo cxP 449 cxt110 = true := fq_chk1 (fq_jn_eq _) rfl (by decide +kernel)   -- X7_copyFrom
theorem cxo110 : con_ok PT bB 198 cxF cxQ cxt110 := con_chk_ok (fun _ _ h => h) cxpp (kl_ok (fun _ h => (by cases h))) nw_class (fun h => by cases h) cxk110
def cxt111 : con := (73, [(2, 57, 1), (2, 13, 1)], [], [none], [], 5, 400, false)
theorem cxk111 : con_chk (kl bB cxF []) PT bB 198 cxF cxJ cxjo cxP 449 cxt111 = true := fq_chk1 (fq_jn_eq _) rfl (by decide +kernel)   -- X7_copyFrom
theorem cxo111 : con_ok PT bB 198 cxF cxQ cxt111 := con_chk_ok (fun _ _ h => h) cxpp (kl_ok (fun _ h => (by cases h))) nw_class (fun h => by cases h) cxk111
def cxt112 : con := (73, [(2, 63, 1), (2, 13, 1)], [], [none], [], 5, 400, false)
theorem cxk112 : con_chk (kl bB cxF []) PT bB 198 cxF cxJ cxjo cxP 449 cxt112 = true := fq_chk1 (fq_jn_eq _) rfl (by decide +kernel)   -- X7_copyFrom
theorem cxo112 : con_ok PT bB 198 cxF cxQ cxt112 := con_chk_ok (fun _ _ h => h) cxpp (kl_ok (fun _ h => (by cases h))) nw_class (fun h => by cases h) cxk112
def cxt113 : con := (73, [(2, 69, 1), (2, 13, 1)], [], [none], [], 5, 400, false)
theorem cxk113 : con_chk (kl bB cxF []) PT bB 198 cxF cxJ cxjo cxP 449 cxt113 = true := fq_chk1 (fq_jn_eq _) rfl (by decide +kernel)   -- X7_copyFrom
theorem cxo113 : con_ok PT bB 198 cxF cxQ cxt113 := con_chk_ok (fun _ _ h => h) cxpp (kl_ok (fun _ h => (by cases h))) nw_class (fun h => by cases h) cxk113
def cxt114 : con := (73, [(2, 75, 1), (2, 13, 1)], [], [none], [], 5, 400, false)
theorem cxk114 : con_chk (kl bB cxF []) PT bB 198 cxF cxJ cxjo cxP 449 cxt114 = true := fq_chk1 (fq_jn_eq _) rfl (by decide +kernel)   -- X7_copyFrom
theorem cxo114 : con_ok PT bB 198 cxF cxQ cxt114 := con_chk_ok (fun _ _ h => h) cxpp (kl_ok (fun _ h => (by cases h))) nw_class (fun h => by cases h) cxk114
def cxt115 : con := (73, [(2, 81, 1), (2, 13, 1)], [], [none], [], 5, 400, false)
theorem cxk115 : con_chk (kl bB cxF []) PT bB 198 cxF cxJ cxjo cxP 449 cxt115 = true := fq_chk1 (fq_jn_eq _) rfl (by decide +kernel)   -- X7_copyFrom
theorem cxo115 : con_ok PT bB 198 cxF cxQ cxt115 := con_chk_ok (fun _ _ h => h) cxpp (kl_ok (fun _ h => (by cases h))) nw_class (fun h => by cases h) cxk115
def cxt116 : con := (73, [(2, 87, 1), (2, 13, 1)], [], [none], [], 5, 400, false)
theorem cxk116 : con_chk (kl bB cxF []) PT bB 198 cxF cxJ cxjo cxP 449 cxt116 = true := fq_chk1 (fq_jn_eq _) rfl (by decide +kernel)   -- X7_copyFrom
theorem cxo116 : con_ok PT bB 198 cxF cxQ cxt116 := con_chk_ok (fun _ _ h => h) cxpp (kl_ok (fun _ h => (by cases h))) nw_class (fun h => by cases h) cxk116
def cxt117 : con := (73, [(2, 93, 1), (2, 13, 1)], [], [none], [], 5, 400, false)
theorem cxk117 : con_chk (kl bB cxF []) PT bB 198 cxF cxJ cxjo cxP 449 cxt117 = true := fq_chk1 (fq_jn_eq _) rfl (by decide +kernel)   -- X7_copyFrom
theorem cxo117 : con_ok PT bB 198 cxF cxQ cxt117 := con_chk_ok (fun _ _ h => h) cxpp (kl_ok (fun _ h => (by cases h))) nw_class (fun h => by cases h) cxk117
def cxt118 : con := (73, [(2, 99, 1), (2, 13, 1)], [], [none], [], 5, 400, false)
theorem cxk118 : con_chk (kl bB cxF []) PT bB 198 cxF cxJ cxjo cxP 449 cxt118 = true := fq_chk1 (fq_jn_eq _) rfl (by decide +kernel)   -- X7_copyFrom
theorem cxo118 : con_ok PT bB 198 cxF cxQ cxt118 := con_chk_ok (fun _ _ h => h) cxpp (kl_ok (fun _ h => (by cases h))) nw_class (fun h => by cases h) cxk118
def cxt119 : con := (16, [(2, 25, 1), (2, 13, 1)], [], [none], [], 10, 800, false)
theorem cxk119 : con_chk (kl bB cxF [cxt103, cxt104, cxt105, cxt106, cxt107, cxt108, cxt109, cxt110, cxt111, cxt112, cxt113, cxt114, cxt115, cxt116, cxt117, cxt118]) PT bB 198 cxF cxJ cxjo cxP 417 cxt119 = true := fq_chk1 (fq_jn_eq _) rfl (by decide +kernel)   -- X2_mark
theorem cxo119 : con_ok PT bB 198 cxF cxQ cxt119 := con_chk_ok (fun _ _ h => h) cxpp (kl_ok (List.forall_mem_cons.mpr ⟨cxo103, List.forall_mem_cons.mpr ⟨cxo104, List.forall_mem_cons.mpr ⟨cxo105, List.forall_mem_cons.mpr ⟨cxo106, List.forall_mem_cons.mpr ⟨cxo107, List.forall_mem_cons.mpr ⟨cxo108, List.forall_mem_cons.mpr ⟨cxo109, List.forall_mem_cons.mpr ⟨cxo110, List.forall_mem_cons.mpr ⟨cxo111, List.forall_mem_cons.mpr ⟨cxo112, List.forall_mem_cons.mpr ⟨cxo113, List.forall_mem_cons.mpr ⟨cxo114, List.forall_mem_cons.mpr ⟨cxo115, List.forall_mem_cons.mpr ⟨cxo116, List.forall_mem_cons.mpr ⟨cxo117, List.forall_mem_cons.mpr ⟨cxo118, fun _ h => (by cases h)⟩⟩⟩⟩⟩⟩⟩⟩⟩⟩⟩⟩⟩⟩⟩⟩)) nw_class (fun h => by cases h) cxk119
def cxt120 : con := (17, [(2, 25, 1)], [], [none], [], 5, 400, false)
theorem cxk120 : con_chk (kl bB cxF []) PT bB 198 cxF cxJ cxjo cxP 428 cxt120 = true := fq_chk1 (fq_jn_eq _) rfl (by decide +kernel)   -- X2_commit
theorem cxo120 : con_ok PT bB 198 cxF cxQ cxt120 := con_chk_ok (fun _ _ h => h) cxpp (kl_ok (fun _ h => (by cases h))) nw_class (fun h => by cases h) cxk120
def cxt121 : con := (18, [(2, 25, 1), (2, 13, 1)], [], [none], [], 15, 1200, false)
theorem cxk121 : con_chk (kl bB cxF [cxt119, cxt120]) PT bB 198 cxF cxJ cxjo cxP 406 cxt121 = true := fq_chk1 (fq_jn_eq _) rfl (by decide +kernel)   -- X2_remember
theorem cxo121 : con_ok PT bB 198 cxF cxQ cxt121 := con_chk_ok (fun _ _ h => h) cxpp (kl_ok (List.forall_mem_cons.mpr ⟨cxo119, List.forall_mem_cons.mpr ⟨cxo120, fun _ h => (by cases h)⟩⟩)) nw_class (fun h => by cases h) cxk121
def cxt122 : con := (73, [(2, 13, 1), (2, 105, 1)], [], [none], [], 5, 400, false)
theorem cxk122 : con_chk (kl bB cxF []) PT bB 198 cxF cxJ cxjo cxP 449 cxt122 = true := fq_chk1 (fq_jn_eq _) rfl (by decide +kernel)   -- X7_copyFrom
theorem cxo122 : con_ok PT bB 198 cxF cxQ cxt122 := con_chk_ok (fun _ _ h => h) cxpp (kl_ok (fun _ h => (by cases h))) nw_class (fun h => by cases h) cxk122
def cxt123 : con := (73, [(2, 13, 1), (2, 111, 1)], [], [none], [], 5, 400, false)
theorem cxk123 : con_chk (kl bB cxF []) PT bB 198 cxF cxJ cxjo cxP 449 cxt123 = true := fq_chk1 (fq_jn_eq _) rfl (by decide +kernel)   -- X7_copyFrom
theorem cxo123 : con_ok PT bB 198 cxF cxQ cxt123 := con_chk_ok (fun _ _ h => h) cxpp (kl_ok (fun _ h => (by cases h))) nw_class (fun h => by cases h) cxk123
def cxt124 : con := (73, [(2, 13, 1), (2, 117, 1)], [], [none], [], 5, 400, false)
theorem cxk124 : con_chk (kl bB cxF []) PT bB 198 cxF cxJ cxjo cxP 449 cxt124 = true := fq_chk1 (fq_jn_eq _) rfl (by decide +kernel)   -- X7_copyFrom
theorem cxo124 : con_ok PT bB 198 cxF cxQ cxt124 := con_chk_ok (fun _ _ h => h) cxpp (kl_ok (fun _ h => (by cases h))) nw_class (fun h => by cases h) cxk124
def cxt125 : con := (73, [(2, 13, 1), (2, 27, 1)], [], [none], [], 5, 400, false)
theorem cxk125 : con_chk (kl bB cxF []) PT bB 198 cxF cxJ cxjo cxP 449 cxt125 = true := fq_chk1 (fq_jn_eq _) rfl (by decide +kernel)   -- X7_copyFrom
theorem cxo125 : con_ok PT bB 198 cxF cxQ cxt125 := con_chk_ok (fun _ _ h => h) cxpp (kl_ok (fun _ h => (by cases h))) nw_class (fun h => by cases h) cxk125
def cxt126 : con := (73, [(2, 13, 1), (2, 33, 1)], [], [none], [], 5, 400, false)
theorem cxk126 : con_chk (kl bB cxF []) PT bB 198 cxF cxJ cxjo cxP 449 cxt126 = true := fq_chk1 (fq_jn_eq _) rfl (by decide +kernel)   -- X7_copyFrom
theorem cxo126 : con_ok PT bB 198 cxF cxQ cxt126 := con_chk_ok (fun _ _ h => h) cxpp (kl_ok (fun _ h => (by cases h))) nw_class (fun h => by cases h) cxk126
def cxt127 : con := (73, [(2, 13, 1), (2, 39, 1)], [], [none], [], 5, 400, false)
theorem cxk127 : con_chk (kl bB cxF []) PT bB 198 cxF cxJ cxjo cxP 449 cxt127 = true := fq_chk1 (fq_jn_eq _) rfl (by decide +kernel)   -- X7_copyFrom
theorem cxo127 : con_ok PT bB 198 cxF cxQ cxt127 := con_chk_ok (fun _ _ h => h) cxpp (kl_ok (fun _ h => (by cases h))) nw_class (fun h => by cases h) cxk127
def cxt128 : con := (73, [(2, 13, 1), (2, 45, 1)], [], [none], [], 5, 400, false)
theorem cxk128 : con_chk (kl bB cxF []) PT bB 198 cxF cxJ cxjo cxP 449 cxt128 = true := fq_chk1 (fq_jn_eq _) rfl (by decide +kernel)   -- X7_copyFrom
theorem cxo128 : con_ok PT bB 198 cxF cxQ cxt128 := con_chk_ok (fun _ _ h => h) cxpp (kl_ok (fun _ h => (by cases h))) nw_class (fun h => by cases h) cxk128
def cxt129 : con := (73, [(2, 13, 1), (2, 51, 1)], [], [none], [], 5, 400, false)
theorem cxk129 : con_chk (kl bB cxF []) PT bB 198 cxF cxJ cxjo cxP 449 cxt129 = true := fq_chk1 (fq_jn_eq _) rfl (by decide +kernel)   -- X7_copyFrom
theorem cxo129 : con_ok PT bB 198 cxF cxQ cxt129 := con_chk_ok (fun _ _ h => h) cxpp (kl_ok (fun _ h => (by cases h))) nw_class (fun h => by cases h) cxk129
def cxt130 : con := (73, [(2, 13, 1), (2, 57, 1)], [], [none], [], 5, 400, false)
theorem cxk130 : con_chk (kl bB cxF []) PT bB 198 cxF cxJ cxjo cxP 449 cxt130 = true := fq_chk1 (fq_jn_eq _) rfl (by decide +kernel)   -- X7_copyFrom
theorem cxo130 : con_ok PT bB 198 cxF cxQ cxt130 := con_chk_ok (fun _ _ h => h) cxpp (kl_ok (fun _ h => (by cases h))) nw_class (fun h => by cases h) cxk130
def cxt131 : con := (73, [(2, 13, 1), (2, 63, 1)], [], [none], [], 5, 400, false)
theorem cxk131 : con_chk (kl bB cxF []) PT bB 198 cxF cxJ cxjo cxP 449 cxt131 = true := fq_chk1 (fq_jn_eq _) rfl (by decide +kernel)   -- X7_copyFrom
theorem cxo131 : con_ok PT bB 198 cxF cxQ cxt131 := con_chk_ok (fun _ _ h => h) cxpp (kl_ok (fun _ h => (by cases h))) nw_class (fun h => by cases h) cxk131
def cxt132 : con := (73, [(2, 13, 1), (2, 69, 1)], [], [none], [], 5, 400, false)
theorem cxk132 : con_chk (kl bB cxF []) PT bB 198 cxF cxJ cxjo cxP 449 cxt132 = true := fq_chk1 (fq_jn_eq _) rfl (by decide +kernel)   -- X7_copyFrom
theorem cxo132 : con_ok PT bB 198 cxF cxQ cxt132 := con_chk_ok (fun _ _ h => h) cxpp (kl_ok (fun _ h => (by cases h))) nw_class (fun h => by cases h) cxk132
def cxt133 : con := (73, [(2, 13, 1), (2, 75, 1)], [], [none], [], 5, 400, false)
theorem cxk133 : con_chk (kl bB cxF []) PT bB 198 cxF cxJ cxjo cxP 449 cxt133 = true := fq_chk1 (fq_jn_eq _) rfl (by decide +kernel)   -- X7_copyFrom
theorem cxo133 : con_ok PT bB 198 cxF cxQ cxt133 := con_chk_ok (fun _ _ h => h) cxpp (kl_ok (fun _ h => (by cases h))) nw_class (fun h => by cases h) cxk133
def cxt134 : con := (73, [(2, 13, 1), (2, 81, 1)], [], [none], [], 5, 400, false)
theorem cxk134 : con_chk (kl bB cxF []) PT bB 198 cxF cxJ cxjo cxP 449 cxt134 = true := fq_chk1 (fq_jn_eq _) rfl (by decide +kernel)   -- X7_copyFrom
theorem cxo134 : con_ok PT bB 198 cxF cxQ cxt134 := con_chk_ok (fun _ _ h => h) cxpp (kl_ok (fun _ h => (by cases h))) nw_class (fun h => by cases h) cxk134
def cxt135 : con := (73, [(2, 13, 1), (2, 87, 1)], [], [none], [], 5, 400, false)
theorem cxk135 : con_chk (kl bB cxF []) PT bB 198 cxF cxJ cxjo cxP 449 cxt135 = true := fq_chk1 (fq_jn_eq _) rfl (by decide +kernel)   -- X7_copyFrom
theorem cxo135 : con_ok PT bB 198 cxF cxQ cxt135 := con_chk_ok (fun _ _ h => h) cxpp (kl_ok (fun _ h => (by cases h))) nw_class (fun h => by cases h) cxk135
def cxt136 : con := (73, [(2, 13, 1), (2, 93, 1)], [], [none], [], 5, 400, false)
theorem cxk136 : con_chk (kl bB cxF []) PT bB 198 cxF cxJ cxjo cxP 449 cxt136 = true := fq_chk1 (fq_jn_eq _) rfl (by decide +kernel)   -- X7_copyFrom
theorem cxo136 : con_ok PT bB 198 cxF cxQ cxt136 := con_chk_ok (fun _ _ h => h) cxpp (kl_ok (fun _ h => (by cases h))) nw_class (fun h => by cases h) cxk136
def cxt137 : con := (73, [(2, 13, 1), (2, 99, 1)], [], [none], [], 5, 400, false)
theorem cxk137 : con_chk (kl bB cxF []) PT bB 198 cxF cxJ cxjo cxP 449 cxt137 = true := fq_chk1 (fq_jn_eq _) rfl (by decide +kernel)   -- X7_copyFrom
theorem cxo137 : con_ok PT bB 198 cxF cxQ cxt137 := con_chk_ok (fun _ _ h => h) cxpp (kl_ok (fun _ h => (by cases h))) nw_class (fun h => by cases h) cxk137
def cxt138 : con := (19, [(2, 25, 1), (2, 13, 1)], [], [some (0, 0, 1)], [], 10, 800, false)
theorem cxk138 : con_chk (kl bB cxF [cxt122, cxt123, cxt124, cxt125, cxt126, cxt127, cxt128, cxt129, cxt130, cxt131, cxt132, cxt133, cxt134, cxt135, cxt136, cxt137]) PT bB 198 cxF cxJ cxjo cxP 432 cxt138 = true := fq_chk1 (fq_jn_eq _) rfl (by decide +kernel)   -- X2_restore
theorem cxo138 : con_ok PT bB 198 cxF cxQ cxt138 := con_chk_ok (fun _ _ h => h) cxpp (kl_ok (List.forall_mem_cons.mpr ⟨cxo122, List.forall_mem_cons.mpr ⟨cxo123, List.forall_mem_cons.mpr ⟨cxo124, List.forall_mem_cons.mpr ⟨cxo125, List.forall_mem_cons.mpr ⟨cxo126, List.forall_mem_cons.mpr ⟨cxo127, List.forall_mem_cons.mpr ⟨cxo128, List.forall_mem_cons.mpr ⟨cxo129, List.forall_mem_cons.mpr ⟨cxo130, List.forall_mem_cons.mpr ⟨cxo131, List.forall_mem_cons.mpr ⟨cxo132, List.forall_mem_cons.mpr ⟨cxo133, List.forall_mem_cons.mpr ⟨cxo134, List.forall_mem_cons.mpr ⟨cxo135, List.forall_mem_cons.mpr ⟨cxo136, List.forall_mem_cons.mpr ⟨cxo137, fun _ h => (by cases h)⟩⟩⟩⟩⟩⟩⟩⟩⟩⟩⟩⟩⟩⟩⟩⟩)) nw_class (fun h => by cases h) cxk138
def cxt139 : con := (29, [(2, 5, 1), (2, 13, 1), (0, 0, 5)], [], [some (0, 0, 255)], [], 5, 400, true)
theorem cxk139 : con_chk (kl bB cxF []) PT bB 198 cxF cxJ cxjo cxP 554 cxt139 = true := fq_chk1 (fq_jn_eq _) rfl (by decide +kernel)   -- X3_heldBy
theorem cxo139 : con_ok PT bB 198 cxF cxQ cxt139 := con_chk_ok (fun _ _ h => h) cxpp (kl_ok (fun _ h => (by cases h))) nw_class (fun _ => by decide) cxk139
def cxt140 : con := (5, [(2, 159, 1), (2, 13, 1), (0, 0, 7), (0, (-2147483648), 2147483647), (0, (-2147483648), 2147483647)], [], [some (0, 0, 1)], [], 5, 400, true)
theorem cxk140 : con_chk (kl bB cxF []) PT bB 198 cxF cxJ cxjo cxP 473 cxt140 = true := fq_chk1 (fq_jn_eq _) rfl (by decide +kernel)   -- X0_fitsOne
theorem cxo140 : con_ok PT bB 198 cxF cxQ cxt140 := con_chk_ok (fun _ _ h => h) cxpp (kl_ok (fun _ h => (by cases h))) nw_class (fun _ => by decide) cxk140
def cxt141 : con := (4, [(2, 159, 1), (2, 13, 1), (0, 0, 7)], [], [some (0, 0, 1)], [], 10, 800, true)
theorem cxk141 : con_chk (kl bB cxF [cxt140]) PT bB 198 cxF cxJ cxjo cxP 660 cxt141 = true := fq_chk1 (fq_jn_eq _) rfl (by decide +kernel)   -- X0_fitsAll
theorem cxo141 : con_ok PT bB 198 cxF cxQ cxt141 := con_chk_ok (fun _ _ h => h) cxpp (kl_ok (List.forall_mem_cons.mpr ⟨cxo140, fun _ h => (by cases h)⟩)) nw_class (fun _ => by decide) cxk141
def cxt142 : con := (3, [(2, 159, 1), (2, 13, 1)], [], [some (0, 0, 255)], [], 15, 1200, true)
theorem cxk142 : con_chk (kl bB cxF [cxt141]) PT bB 198 cxF cxJ cxjo cxP 555 cxt142 = true := fq_chk1 (fq_jn_eq _) rfl (by decide +kernel)   -- X0_fitting
theorem cxo142 : con_ok PT bB 198 cxF cxQ cxt142 := con_chk_ok (fun _ _ h => h) cxpp (kl_ok (List.forall_mem_cons.mpr ⟨cxo141, fun _ h => (by cases h)⟩)) nw_class (fun _ => by decide) cxk142
def cxt143 : con := (30, [(2, 5, 1), (2, 13, 1), (0, 0, 5)], [], [some (0, 0, 255)], [], 5, 400, true)
theorem cxk143 : con_chk (kl bB cxF []) PT bB 198 cxF cxJ cxjo cxP 650 cxt143 = true := fq_chk1 (fq_jn_eq _) rfl (by decide +kernel)   -- X3_formerlyOf
theorem cxo143 : con_ok PT bB 198 cxF cxQ cxt143 := con_chk_ok (fun _ _ h => h) cxpp (kl_ok (fun _ h => (by cases h))) nw_class (fun _ => by decide) cxk143
def cxt144 : con := (32, [(2, 5, 1), (2, 13, 1), (0, 0, 5)], [], [some (0, 0, 63)], [], 5, 400, true)
theorem cxk144 : con_chk (kl bB cxF []) PT bB 198 cxF cxJ cxjo cxP 794 cxt144 = true := fq_chk1 (fq_jn_eq _) rfl (by decide +kernel)   -- X3_foesOf
theorem cxo144 : con_ok PT bB 198 cxF cxQ cxt144 := con_chk_ok (fun _ _ h => h) cxpp (kl_ok (fun _ h => (by cases h))) nw_class (fun _ => by decide) cxk144
def cxt145 : con := (33, [(2, 5, 1), (2, 13, 1)], [], [some (0, (-2147483648), 2147483647)], [], 10, 800, true)
theorem cxk145 : con_chk (kl bB cxF [cxt42, cxt91]) PT bB 198 cxF cxJ cxjo cxP 496 cxt145 = true := fq_chk1 (fq_jn_eq _) rfl (by decide +kernel)   -- X3_alliedPairs
theorem cxo145 : con_ok PT bB 198 cxF cxQ cxt145 := con_chk_ok (fun _ _ h => h) cxpp (kl_ok (List.forall_mem_cons.mpr ⟨cxo42, List.forall_mem_cons.mpr ⟨cxo91, fun _ h => (by cases h)⟩⟩)) nw_class (fun _ => by decide) cxk145
def cxt146 : con := (34, [(2, 5, 1), (2, 13, 1)], [], [some (0, (-2147483648), 2147483647)], [], 10, 800, true)
theorem cxk146 : con_chk (kl bB cxF [cxt42, cxt144]) PT bB 198 cxF cxJ cxjo cxP 496 cxt146 = true := fq_chk1 (fq_jn_eq _) rfl (by decide +kernel)   -- X3_warringPairs
theorem cxo146 : con_ok PT bB 198 cxF cxQ cxt146 := con_chk_ok (fun _ _ h => h) cxpp (kl_ok (List.forall_mem_cons.mpr ⟨cxo42, List.forall_mem_cons.mpr ⟨cxo144, fun _ h => (by cases h)⟩⟩)) nw_class (fun _ => by decide) cxk146
end MH47cx03x5
section MH47cx03x6
section MG47cx09x0
/-! contracts -/
def cxt147 : con := (35, [(2, 5, 1)], [], [some (0, 0, 15)], [], 5, 400, true)
theorem cxk147 : con_chk (kl bB cxF []) PT bB 198 cxF cxJ cxjo cxP 794 cxt147 = true := fq_chk1 (fq_jn_eq _) rfl (by decide +kernel)   -- X3_roadsThere
theorem cxo147 : con_ok PT bB 198 cxF cxQ cxt147 := con_chk_ok (fun _ _ h => h) cxpp (kl_ok (fun _ h => (by cases h))) nw_class (fun _ => by decide) cxk147
def cxt148 : con := (36, [(2, 5, 1), (2, 13, 1)], [], [some (0, (-2147483648), 2147483647)], [], 5, 400, true)
theorem cxk148 : con_chk (kl bB cxF []) PT bB 198 cxF cxJ cxjo cxP 488 cxt148 = true := fq_chk1 (fq_jn_eq _) rfl (by decide +kernel)   -- X3_allGrain
theorem cxo148 : con_ok PT bB 198 cxF cxQ cxt148 := con_chk_ok (fun _ _ h => h) cxpp (kl_ok (fun _ h => (by cases h))) nw_class (fun _ => by decide) cxk148
def cxt149 : con := (37, [(2, 5, 1), (2, 19, 1), (0, 0, 5)], [], [some (0, 0, 127)], [], 5, 400, true)
theorem cxk149 : con_chk (kl bB cxF []) PT bB 198 cxF cxJ cxjo cxP 644 cxt149 = true := fq_chk1 (fq_jn_eq _) rfl (by decide +kernel)   -- X3_esteemFor
theorem cxo149 : con_ok PT bB 198 cxF cxQ cxt149 := con_chk_ok (fun _ _ h => h) cxpp (kl_ok (fun _ h => (by cases h))) nw_class (fun _ => by decide) cxk149
def cxt150 : con := (38, [(2, 5, 1), (2, 19, 1)], [], [some (0, 0, 999)], [], 10, 800, true)
theorem cxk150 : con_chk (kl bB cxF [cxt149]) PT bB 198 cxF cxJ cxjo cxP 488 cxt150 = true := fq_chk1 (fq_jn_eq _) rfl (by decide +kernel)   -- X3_allEsteem
theorem cxo150 : con_ok PT bB 198 cxF cxQ cxt150 := con_chk_ok (fun _ _ h => h) cxpp (kl_ok (List.forall_mem_cons.mpr ⟨cxo149, fun _ h => (by cases h)⟩)) nw_class (fun _ => by decide) cxk150
def cxt151 : con := (41, [(2, 5, 1), (2, 19, 1), (0, 0, 7)], [], [some (0, 0, 1)], [], 5, 400, true)
theorem cxk151 : con_chk (kl bB cxF []) PT bB 198 cxF cxJ cxjo cxP 431 cxt151 = true := fq_chk1 (fq_jn_eq _) rfl (by decide +kernel)   -- X3_isEater
theorem cxo151 : con_ok PT bB 198 cxF cxQ cxt151 := con_chk_ok (fun _ _ h => h) cxpp (kl_ok (fun _ h => (by cases h))) nw_class (fun _ => by decide) cxk151
def cxt152 : con := (43, [(2, 5, 1), (2, 19, 1), (0, 0, 5)], [], [none], [], 10, 800, false)
theorem cxk152 : con_chk (kl bB cxF [cxt151]) PT bB 198 cxF cxJ cxjo cxP 754 cxt152 = true := fq_chk1 (fq_jn_eq _) rfl (by decide +kernel)   -- X3_passMonthAt
theorem cxo152 : con_ok PT bB 198 cxF cxQ cxt152 := con_chk_ok (fun _ _ h => h) cxpp (kl_ok (List.forall_mem_cons.mpr ⟨cxo151, fun _ h => (by cases h)⟩)) nw_class (fun h => by cases h) cxk152
def cxt153 : con := (42, [(2, 5, 1), (2, 19, 1)], [], [none], [], 15, 1200, false)
theorem cxk153 : con_chk (kl bB cxF [cxt152]) PT bB 198 cxF cxJ cxjo cxP 473 cxt153 = true := fq_chk1 (fq_jn_eq _) rfl (by decide +kernel)   -- X3_passMonth
theorem cxo153 : con_ok PT bB 198 cxF cxQ cxt153 := con_chk_ok (fun _ _ h => h) cxpp (kl_ok (List.forall_mem_cons.mpr ⟨cxo152, fun _ h => (by cases h)⟩)) nw_class (fun h => by cases h) cxk153
def cxt154 : con := (44, [(2, 5, 1), (2, 19, 1), (0, 0, 5)], [], [some (0, 1, 100)], [], 15, 1200, false)
theorem cxk154 : con_chk (kl bB cxF [cxt152]) PT bB 198 cxF cxJ cxjo cxP 1895 cxt154 = true := fq_chk1 (fq_jn_eq _) rfl (by decide +kernel)   -- X3_firstDeath
theorem cxo154 : con_ok PT bB 198 cxF cxQ cxt154 := con_chk_ok (fun _ _ h => h) cxpp (kl_ok (List.forall_mem_cons.mpr ⟨cxo152, fun _ h => (by cases h)⟩)) nw_class (fun h => by cases h) cxk154
def cxt155 : con := (47, [(2, 148, 1), (0, 0, 5)], [], [none], [], 5, 400, false)
theorem cxk155 : con_chk (kl bB cxF []) PT bB 198 cxF cxJ cxjo cxP 648 cxt155 = true := fq_chk1 (fq_jn_eq _) rfl (by decide +kernel)   -- X4_shorten
theorem cxo155 : con_ok PT bB 198 cxF cxQ cxt155 := con_chk_ok (fun _ _ h => h) cxpp (kl_ok (fun _ h => (by cases h))) nw_class (fun h => by cases h) cxk155
def cxt156 : con := (46, [(2, 148, 1), (0, 0, 5), (0, 0, 5)], [], [some (0, (-1), 1000)], [], 10, 800, false)
theorem cxk156 : con_chk (kl bB cxF [cxt155]) PT bB 198 cxF cxJ cxjo cxP 989 cxt156 = true := fq_chk1 (fq_jn_eq _) rfl (by decide +kernel)   -- X4_fewestMonths
theorem cxo156 : con_ok PT bB 198 cxF cxQ cxt156 := con_chk_ok (fun _ _ h => h) cxpp (kl_ok (List.forall_mem_cons.mpr ⟨cxo155, fun _ h => (by cases h)⟩)) nw_class (fun h => by cases h) cxk156
def cxt157 : con := (49, [(2, 148, 1), (0, 0, 5)], [], [some (0, 0, 5)], [], 5, 400, true)
theorem cxk157 : con_chk (kl bB cxF []) PT bB 198 cxF cxJ cxjo cxP 637 cxt157 = true := fq_chk1 (fq_jn_eq _) rfl (by decide +kernel)   -- X4_firstNext
theorem cxo157 : con_ok PT bB 198 cxF cxQ cxt157 := con_chk_ok (fun _ _ h => h) cxpp (kl_ok (fun _ h => (by cases h))) nw_class (fun _ => by decide) cxk157
def cxt158 : con := (48, [(2, 148, 1), (0, 0, 5), (2, 3, 1)], [], [none], [], 10, 800, false)
theorem cxk158 : con_chk (kl bB cxF [cxt96, cxt157]) PT bB 198 cxF cxJ cxjo cxP 526 cxt158 = true := fq_chk1 (fq_jn_eq _) rfl (by decide +kernel)   -- X4_tellWay
theorem cxo158 : con_ok PT bB 198 cxF cxQ cxt158 := con_chk_ok (fun _ _ h => h) cxpp (kl_ok (List.forall_mem_cons.mpr ⟨cxo96, List.forall_mem_cons.mpr ⟨cxo157, fun _ h => (by cases h)⟩⟩)) nw_class (fun h => by cases h) cxk158
def cxt159 : con := (51, [(2, 148, 1), (0, 91, 91), (0, 0, 5), (0, (-2147483648), 2147483647), (0, (-2147483648), 2147483647)], [], [none], [], 5, 400, false)
theorem cxk159 : con_chk (kl bB cxF []) PT bB 198 cxF cxJ cxjo cxP 1016 cxt159 = true := fq_chk1 (fq_jn_eq _) rfl (by decide +kernel)   -- X4_goOn
theorem cxo159 : con_ok PT bB 198 cxF cxQ cxt159 := con_chk_ok (fun _ _ h => h) cxpp (kl_ok (fun _ h => (by cases h))) nw_class (fun h => by cases h) cxk159
def cxt160 : con := (51, [(2, 148, 1), (0, 92, 92), (0, 0, 5), (0, (-2147483648), 2147483647), (0, (-2147483648), 2147483647)], [], [none], [], 5, 400, false)
theorem cxk160 : con_chk (kl bB cxF []) PT bB 198 cxF cxJ cxjo cxP 1016 cxt160 = true := fq_chk1 (fq_jn_eq _) rfl (by decide +kernel)   -- X4_goOn
theorem cxo160 : con_ok PT bB 198 cxF cxQ cxt160 := con_chk_ok (fun _ _ h => h) cxpp (kl_ok (fun _ h => (by cases h))) nw_class (fun h => by cases h) cxk160
def cxt161 : con := (51, [(2, 148, 1), (0, 93, 93), (0, 0, 5), (0, (-2147483648), 2147483647), (0, (-2147483648), 2147483647)], [], [none], [], 5, 400, false)
theorem cxk161 : con_chk (kl bB cxF []) PT bB 198 cxF cxJ cxjo cxP 1016 cxt161 = true := fq_chk1 (fq_jn_eq _) rfl (by decide +kernel)   -- X4_goOn
theorem cxo161 : con_ok PT bB 198 cxF cxQ cxt161 := con_chk_ok (fun _ _ h => h) cxpp (kl_ok (fun _ h => (by cases h))) nw_class (fun h => by cases h) cxk161
def cxt162 : con := (51, [(2, 148, 1), (0, 94, 94), (0, 0, 5), (0, (-2147483648), 2147483647), (0, (-2147483648), 2147483647)], [], [none], [], 5, 400, false)
theorem cxk162 : con_chk (kl bB cxF []) PT bB 198 cxF cxJ cxjo cxP 1016 cxt162 = true := fq_chk1 (fq_jn_eq _) rfl (by decide +kernel)   -- X4_goOn
theorem cxo162 : con_ok PT bB 198 cxF cxQ cxt162 := con_chk_ok (fun _ _ h => h) cxpp (kl_ok (fun _ h => (by cases h))) nw_class (fun h => by cases h) cxk162
end MG47cx09x0
section MG47cx09x1
/-! contracts -/
def cxt163 : con := (51, [(2, 148, 1), (0, 95, 95), (0, 0, 5), (0, (-2147483648), 2147483647), (0, (-2147483648), 2147483647)], [], [none], [], 5, 400, false)
theorem cxk163 : con_chk (kl bB cxF []) PT bB 198 cxF cxJ cxjo cxP 1016 cxt163 = true := fq_chk1 (fq_jn_eq _) rfl (by decide +kernel)   -- X4_goOn
theorem cxo163 : con_ok PT bB 198 cxF cxQ cxt163 := con_chk_ok (fun _ _ h => h) cxpp (kl_ok (fun _ h => (by cases h))) nw_class (fun h => by cases h) cxk163
def cxt164 : con := (51, [(2, 148, 1), (0, 96, 96), (0, 0, 5), (0, (-2147483648), 2147483647), (0, (-2147483648), 2147483647)], [], [none], [], 5, 400, false)
theorem cxk164 : con_chk (kl bB cxF []) PT bB 198 cxF cxJ cxjo cxP 1016 cxt164 = true := fq_chk1 (fq_jn_eq _) rfl (by decide +kernel)   -- X4_goOn
theorem cxo164 : con_ok PT bB 198 cxF cxQ cxt164 := con_chk_ok (fun _ _ h => h) cxpp (kl_ok (fun _ h => (by cases h))) nw_class (fun h => by cases h) cxk164
def cxt165 : con := (51, [(2, 148, 1), (0, 97, 97), (0, 0, 5), (0, (-2147483648), 2147483647), (0, (-2147483648), 2147483647)], [], [none], [], 5, 400, false)
theorem cxk165 : con_chk (kl bB cxF []) PT bB 198 cxF cxJ cxjo cxP 1016 cxt165 = true := fq_chk1 (fq_jn_eq _) rfl (by decide +kernel)   -- X4_goOn
theorem cxo165 : con_ok PT bB 198 cxF cxQ cxt165 := con_chk_ok (fun _ _ h => h) cxpp (kl_ok (fun _ h => (by cases h))) nw_class (fun h => by cases h) cxk165
def cxt166 : con := (51, [(2, 148, 1), (0, 98, 98), (0, 0, 5), (0, (-2147483648), 2147483647), (0, (-2147483648), 2147483647)], [], [none], [], 5, 400, false)
theorem cxk166 : con_chk (kl bB cxF []) PT bB 198 cxF cxJ cxjo cxP 1016 cxt166 = true := fq_chk1 (fq_jn_eq _) rfl (by decide +kernel)   -- X4_goOn
theorem cxo166 : con_ok PT bB 198 cxF cxQ cxt166 := con_chk_ok (fun _ _ h => h) cxpp (kl_ok (fun _ h => (by cases h))) nw_class (fun h => by cases h) cxk166
def cxt167 : con := (51, [(2, 148, 1), (0, 99, 99), (0, 0, 5), (0, (-2147483648), 2147483647), (0, (-2147483648), 2147483647)], [], [none], [], 5, 400, false)
theorem cxk167 : con_chk (kl bB cxF []) PT bB 198 cxF cxJ cxjo cxP 842 cxt167 = true := fq_chk1 (fq_jn_eq _) rfl (by decide +kernel)   -- X4_goOn
theorem cxo167 : con_ok PT bB 198 cxF cxQ cxt167 := con_chk_ok (fun _ _ h => h) cxpp (kl_ok (fun _ h => (by cases h))) nw_class (fun h => by cases h) cxk167
def cxt168 : con := (51, [(2, 148, 1), (0, 0, 90), (0, 0, 5), (0, (-2147483648), 2147483647), (0, (-2147483648), 2147483647)], [], [none], [], 5, 400, false)
theorem cxk168 : con_chk (kl bB cxF []) PT bB 198 cxF cxJ cxjo cxP 1016 cxt168 = true := fq_chk1 (fq_jn_eq _) rfl (by decide +kernel)   -- X4_goOn
theorem cxo168 : con_ok PT bB 198 cxF cxQ cxt168 := con_chk_ok (fun _ _ h => h) cxpp (kl_ok (fun _ h => (by cases h))) nw_class (fun h => by cases h) cxk168
def cxt170 : con := (55, [(2, 3, 1), (1, 0, 2147483647)], [], [none], [], 10, 800, false)
theorem cxk170 : con_chk (kl bB cxF [cxt96]) PT bB 198 cxF cxJ cxjo cxP 410 cxt170 = true := fq_chk1 (fq_jn_eq _) rfl (by decide +kernel)   -- X5_tellOne
theorem cxo170 : con_ok PT bB 198 cxF cxQ cxt170 := con_chk_ok (fun _ _ h => h) cxpp (kl_ok (List.forall_mem_cons.mpr ⟨cxo96, fun _ h => (by cases h)⟩)) nw_class (fun h => by cases h) cxk170
def cxt171 : con := (60, [(2, 142, 1), (0, (-2147483648), 999)], [], [none], [], 5, 400, false)
theorem cxk171 : con_chk (kl bB cxF []) PT bB 198 cxF cxJ cxjo cxP 421 cxt171 = true := fq_chk1 (fq_jn_eq _) rfl (by decide +kernel)   -- X6_emit
theorem cxo171 : con_ok PT bB 198 cxF cxQ cxt171 := con_chk_ok (fun _ _ h => h) cxpp (kl_ok (fun _ h => (by cases h))) nw_class (fun h => by cases h) cxk171
def cxt172 : con := (59, [(2, 142, 1)], [], [none], [], 10, 800, false)
theorem cxk172 : con_chk (kl bB cxF [cxt171]) PT bB 198 cxF cxJ cxjo cxP 419 cxt172 = true := fq_chk1 (fq_jn_eq _) rfl (by decide +kernel)   -- X6_beFirstRule
theorem cxo172 : con_ok PT bB 198 cxF cxQ cxt172 := con_chk_ok (fun _ _ h => h) cxpp (kl_ok (List.forall_mem_cons.mpr ⟨cxo171, fun _ h => (by cases h)⟩)) nw_class (fun h => by cases h) cxk172
def cxt173 : con := (61, [(2, 142, 1)], [], [some (0, (-1), 65535)], [], 10, 800, true)
theorem cxk173 : con_chk (kl bB cxF [cxt33]) PT bB 198 cxF cxJ cxjo cxP 407 cxt173 = true := fq_chk1 (fq_jn_eq _) rfl (by decide +kernel)   -- X6_nextSign
theorem cxo173 : con_ok PT bB 198 cxF cxQ cxt173 := con_chk_ok (fun _ _ h => h) cxpp (kl_ok (List.forall_mem_cons.mpr ⟨cxo33, fun _ h => (by cases h)⟩)) nw_class (fun _ => by decide) cxk173
def cxt174 : con := (66, [(2, 142, 1)], [], [none], [], 15, 1200, false)
theorem cxk174 : con_chk (kl bB cxF [cxt34, cxt171]) PT bB 198 cxF cxJ cxjo cxP 502 cxt174 = true := fq_chk1 (fq_jn_eq _) rfl (by decide +kernel)   -- X6_readNumber
theorem cxo174 : con_ok PT bB 198 cxF cxQ cxt174 := con_chk_ok (fun _ _ h => h) cxpp (kl_ok (List.forall_mem_cons.mpr ⟨cxo34, List.forall_mem_cons.mpr ⟨cxo171, fun _ h => (by cases h)⟩⟩)) nw_class (fun h => by cases h) cxk174
def cxt175 : con := (65, [(2, 142, 1), (0, 4, 4)], [], [some (0, 0, 1)], [], 20, 1600, false)
theorem cxk175 : con_chk (kl bB cxF [cxt43, cxt171, cxt173, cxt174]) PT bB 198 cxF cxJ cxjo cxP 448 cxt175 = true := fq_chk1 (fq_jn_eq _) rfl (by decide +kernel)   -- X6_readThing
theorem cxo175 : con_ok PT bB 198 cxF cxQ cxt175 := con_chk_ok (fun _ _ h => h) cxpp (kl_ok (List.forall_mem_cons.mpr ⟨cxo43, List.forall_mem_cons.mpr ⟨cxo171, List.forall_mem_cons.mpr ⟨cxo173, List.forall_mem_cons.mpr ⟨cxo174, fun _ h => (by cases h)⟩⟩⟩⟩)) nw_class (fun h => by cases h) cxk175
def cxt176 : con := (64, [(2, 142, 1), (0, 4, 4)], [], [some (0, 0, 1)], [], 25, 2000, false)
theorem cxk176 : con_chk (kl bB cxF [cxt171, cxt173, cxt175]) PT bB 198 cxF cxJ cxjo cxP 1202 cxt176 = true := fq_chk1 (fq_jn_eq _) rfl (by decide +kernel)   -- X6_readSigned
theorem cxo176 : con_ok PT bB 198 cxF cxQ cxt176 := con_chk_ok (fun _ _ h => h) cxpp (kl_ok (List.forall_mem_cons.mpr ⟨cxo171, List.forall_mem_cons.mpr ⟨cxo173, List.forall_mem_cons.mpr ⟨cxo175, fun _ h => (by cases h)⟩⟩⟩)) nw_class (fun h => by cases h) cxk176
def cxt177 : con := (62, [(2, 142, 1), (0, 3, 3), (0, 4, 4)], [], [some (0, 0, 1)], [], 30, 2400, false)
theorem cxk177 : con_chk (kl bB cxF [cxt176]) PT bB 198 cxF cxJ cxjo cxP 407 cxt177 = true := fq_chk1 (fq_jn_eq _) rfl (by decide +kernel)   -- X6_readLevel
theorem cxo177 : con_ok PT bB 198 cxF cxQ cxt177 := con_chk_ok (fun _ _ h => h) cxpp (kl_ok (List.forall_mem_cons.mpr ⟨cxo176, fun _ h => (by cases h)⟩)) nw_class (fun h => by cases h) cxk177
def cxt178 : con := (62, [(2, 142, 1), (0, 2, 2), (0, 4, 4)], [], [some (0, 0, 1)], [], 35, 2800, false)
theorem cxk178 : con_chk (kl bB cxF [cxt171, cxt173, cxt177]) PT bB 198 cxF cxJ cxjo cxP 2103 cxt178 = true := fq_chk1 (fq_jn_eq _) rfl (by decide +kernel)   -- X6_readLevel
theorem cxo178 : con_ok PT bB 198 cxF cxQ cxt178 := con_chk_ok (fun _ _ h => h) cxpp (kl_ok (List.forall_mem_cons.mpr ⟨cxo171, List.forall_mem_cons.mpr ⟨cxo173, List.forall_mem_cons.mpr ⟨cxo177, fun _ h => (by cases h)⟩⟩⟩)) nw_class (fun h => by cases h) cxk178
end MG47cx09x1
section MG47cx09x2
/-! contracts -/
def cxt179 : con := (62, [(2, 142, 1), (0, 1, 1), (0, 4, 4)], [], [some (0, 0, 1)], [], 40, 3200, false)
theorem cxk179 : con_chk (kl bB cxF [cxt171, cxt173, cxt178]) PT bB 198 cxF cxJ cxjo cxP 2103 cxt179 = true := fq_chk1 (fq_jn_eq _) rfl (by decide +kernel)   -- X6_readLevel
theorem cxo179 : con_ok PT bB 198 cxF cxQ cxt179 := con_chk_ok (fun _ _ h => h) cxpp (kl_ok (List.forall_mem_cons.mpr ⟨cxo171, List.forall_mem_cons.mpr ⟨cxo173, List.forall_mem_cons.mpr ⟨cxo178, fun _ h => (by cases h)⟩⟩⟩)) nw_class (fun h => by cases h) cxk179
def cxt180 : con := (62, [(2, 142, 1), (0, 0, 0), (0, 4, 4)], [], [some (0, 0, 1)], [], 45, 3600, false)
theorem cxk180 : con_chk (kl bB cxF [cxt171, cxt173, cxt179]) PT bB 198 cxF cxJ cxjo cxP 466 cxt180 = true := fq_chk1 (fq_jn_eq _) rfl (by decide +kernel)   -- X6_readLevel
theorem cxo180 : con_ok PT bB 198 cxF cxQ cxt180 := con_chk_ok (fun _ _ h => h) cxpp (kl_ok (List.forall_mem_cons.mpr ⟨cxo171, List.forall_mem_cons.mpr ⟨cxo173, List.forall_mem_cons.mpr ⟨cxo179, fun _ h => (by cases h)⟩⟩⟩)) nw_class (fun h => by cases h) cxk180
def cxt181 : con := (65, [(2, 142, 1), (0, 3, 3)], [], [some (0, 0, 1)], [], 50, 4000, false)
theorem cxk181 : con_chk (kl bB cxF [cxt43, cxt171, cxt173, cxt174, cxt180]) PT bB 198 cxF cxJ cxjo cxP 475 cxt181 = true := fq_chk1 (fq_jn_eq _) rfl (by decide +kernel)   -- X6_readThing
theorem cxo181 : con_ok PT bB 198 cxF cxQ cxt181 := con_chk_ok (fun _ _ h => h) cxpp (kl_ok (List.forall_mem_cons.mpr ⟨cxo43, List.forall_mem_cons.mpr ⟨cxo171, List.forall_mem_cons.mpr ⟨cxo173, List.forall_mem_cons.mpr ⟨cxo174, List.forall_mem_cons.mpr ⟨cxo180, fun _ h => (by cases h)⟩⟩⟩⟩⟩)) nw_class (fun h => by cases h) cxk181
def cxt182 : con := (64, [(2, 142, 1), (0, 3, 3)], [], [some (0, 0, 1)], [], 55, 4400, false)
theorem cxk182 : con_chk (kl bB cxF [cxt171, cxt173, cxt181]) PT bB 198 cxF cxJ cxjo cxP 1202 cxt182 = true := fq_chk1 (fq_jn_eq _) rfl (by decide +kernel)   -- X6_readSigned
theorem cxo182 : con_ok PT bB 198 cxF cxQ cxt182 := con_chk_ok (fun _ _ h => h) cxpp (kl_ok (List.forall_mem_cons.mpr ⟨cxo171, List.forall_mem_cons.mpr ⟨cxo173, List.forall_mem_cons.mpr ⟨cxo181, fun _ h => (by cases h)⟩⟩⟩)) nw_class (fun h => by cases h) cxk182
def cxt183 : con := (62, [(2, 142, 1), (0, 3, 3), (0, 3, 3)], [], [some (0, 0, 1)], [], 60, 4800, false)
theorem cxk183 : con_chk (kl bB cxF [cxt182]) PT bB 198 cxF cxJ cxjo cxP 407 cxt183 = true := fq_chk1 (fq_jn_eq _) rfl (by decide +kernel)   -- X6_readLevel
theorem cxo183 : con_ok PT bB 198 cxF cxQ cxt183 := con_chk_ok (fun _ _ h => h) cxpp (kl_ok (List.forall_mem_cons.mpr ⟨cxo182, fun _ h => (by cases h)⟩)) nw_class (fun h => by cases h) cxk183
def cxt184 : con := (62, [(2, 142, 1), (0, 2, 2), (0, 3, 3)], [], [some (0, 0, 1)], [], 65, 5200, false)
theorem cxk184 : con_chk (kl bB cxF [cxt171, cxt173, cxt183]) PT bB 198 cxF cxJ cxjo cxP 2103 cxt184 = true := fq_chk1 (fq_jn_eq _) rfl (by decide +kernel)   -- X6_readLevel
theorem cxo184 : con_ok PT bB 198 cxF cxQ cxt184 := con_chk_ok (fun _ _ h => h) cxpp (kl_ok (List.forall_mem_cons.mpr ⟨cxo171, List.forall_mem_cons.mpr ⟨cxo173, List.forall_mem_cons.mpr ⟨cxo183, fun _ h => (by cases h)⟩⟩⟩)) nw_class (fun h => by cases h) cxk184
def cxt185 : con := (62, [(2, 142, 1), (0, 1, 1), (0, 3, 3)], [], [some (0, 0, 1)], [], 70, 5600, false)
theorem cxk185 : con_chk (kl bB cxF [cxt171, cxt173, cxt184]) PT bB 198 cxF cxJ cxjo cxP 2103 cxt185 = true := fq_chk1 (fq_jn_eq _) rfl (by decide +kernel)   -- X6_readLevel
theorem cxo185 : con_ok PT bB 198 cxF cxQ cxt185 := con_chk_ok (fun _ _ h => h) cxpp (kl_ok (List.forall_mem_cons.mpr ⟨cxo171, List.forall_mem_cons.mpr ⟨cxo173, List.forall_mem_cons.mpr ⟨cxo184, fun _ h => (by cases h)⟩⟩⟩)) nw_class (fun h => by cases h) cxk185
def cxt186 : con := (62, [(2, 142, 1), (0, 0, 0), (0, 3, 3)], [], [some (0, 0, 1)], [], 75, 6000, false)
theorem cxk186 : con_chk (kl bB cxF [cxt171, cxt173, cxt185]) PT bB 198 cxF cxJ cxjo cxP 466 cxt186 = true := fq_chk1 (fq_jn_eq _) rfl (by decide +kernel)   -- X6_readLevel
theorem cxo186 : con_ok PT bB 198 cxF cxQ cxt186 := con_chk_ok (fun _ _ h => h) cxpp (kl_ok (List.forall_mem_cons.mpr ⟨cxo171, List.forall_mem_cons.mpr ⟨cxo173, List.forall_mem_cons.mpr ⟨cxo185, fun _ h => (by cases h)⟩⟩⟩)) nw_class (fun h => by cases h) cxk186
def cxt187 : con := (65, [(2, 142, 1), (0, 2, 2)], [], [some (0, 0, 1)], [], 80, 6400, false)
theorem cxk187 : con_chk (kl bB cxF [cxt43, cxt171, cxt173, cxt174, cxt186]) PT bB 198 cxF cxJ cxjo cxP 475 cxt187 = true := fq_chk1 (fq_jn_eq _) rfl (by decide +kernel)   -- X6_readThing
theorem cxo187 : con_ok PT bB 198 cxF cxQ cxt187 := con_chk_ok (fun _ _ h => h) cxpp (kl_ok (List.forall_mem_cons.mpr ⟨cxo43, List.forall_mem_cons.mpr ⟨cxo171, List.forall_mem_cons.mpr ⟨cxo173, List.forall_mem_cons.mpr ⟨cxo174, List.forall_mem_cons.mpr ⟨cxo186, fun _ h => (by cases h)⟩⟩⟩⟩⟩)) nw_class (fun h => by cases h) cxk187
end MG47cx09x2
section MG47cx09x3
/-! contracts -/
def cxt188 : con := (64, [(2, 142, 1), (0, 2, 2)], [], [some (0, 0, 1)], [], 85, 6800, false)
theorem cxk188 : con_chk (kl bB cxF [cxt171, cxt173, cxt187]) PT bB 198 cxF cxJ cxjo cxP 1202 cxt188 = true := fq_chk1 (fq_jn_eq _) rfl (by decide +kernel)   -- X6_readSigned
theorem cxo188 : con_ok PT bB 198 cxF cxQ cxt188 := con_chk_ok (fun _ _ h => h) cxpp (kl_ok (List.forall_mem_cons.mpr ⟨cxo171, List.forall_mem_cons.mpr ⟨cxo173, List.forall_mem_cons.mpr ⟨cxo187, fun _ h => (by cases h)⟩⟩⟩)) nw_class (fun h => by cases h) cxk188
def cxt189 : con := (62, [(2, 142, 1), (0, 3, 3), (0, 2, 2)], [], [some (0, 0, 1)], [], 90, 7200, false)
theorem cxk189 : con_chk (kl bB cxF [cxt188]) PT bB 198 cxF cxJ cxjo cxP 407 cxt189 = true := fq_chk1 (fq_jn_eq _) rfl (by decide +kernel)   -- X6_readLevel
theorem cxo189 : con_ok PT bB 198 cxF cxQ cxt189 := con_chk_ok (fun _ _ h => h) cxpp (kl_ok (List.forall_mem_cons.mpr ⟨cxo188, fun _ h => (by cases h)⟩)) nw_class (fun h => by cases h) cxk189
def cxt190 : con := (62, [(2, 142, 1), (0, 2, 2), (0, 2, 2)], [], [some (0, 0, 1)], [], 95, 7600, false)
theorem cxk190 : con_chk (kl bB cxF [cxt171, cxt173, cxt189]) PT bB 198 cxF cxJ cxjo cxP 2103 cxt190 = true := fq_chk1 (fq_jn_eq _) rfl (by decide +kernel)   -- X6_readLevel
theorem cxo190 : con_ok PT bB 198 cxF cxQ cxt190 := con_chk_ok (fun _ _ h => h) cxpp (kl_ok (List.forall_mem_cons.mpr ⟨cxo171, List.forall_mem_cons.mpr ⟨cxo173, List.forall_mem_cons.mpr ⟨cxo189, fun _ h => (by cases h)⟩⟩⟩)) nw_class (fun h => by cases h) cxk190
def cxt191 : con := (62, [(2, 142, 1), (0, 1, 1), (0, 2, 2)], [], [some (0, 0, 1)], [], 100, 8000, false)
theorem cxk191 : con_chk (kl bB cxF [cxt171, cxt173, cxt190]) PT bB 198 cxF cxJ cxjo cxP 2103 cxt191 = true := fq_chk1 (fq_jn_eq _) rfl (by decide +kernel)   -- X6_readLevel
theorem cxo191 : con_ok PT bB 198 cxF cxQ cxt191 := con_chk_ok (fun _ _ h => h) cxpp (kl_ok (List.forall_mem_cons.mpr ⟨cxo171, List.forall_mem_cons.mpr ⟨cxo173, List.forall_mem_cons.mpr ⟨cxo190, fun _ h => (by cases h)⟩⟩⟩)) nw_class (fun h => by cases h) cxk191
def cxt192 : con := (62, [(2, 142, 1), (0, 0, 0), (0, 2, 2)], [], [some (0, 0, 1)], [], 105, 8400, false)
theorem cxk192 : con_chk (kl bB cxF [cxt171, cxt173, cxt191]) PT bB 198 cxF cxJ cxjo cxP 466 cxt192 = true := fq_chk1 (fq_jn_eq _) rfl (by decide +kernel)   -- X6_readLevel
theorem cxo192 : con_ok PT bB 198 cxF cxQ cxt192 := con_chk_ok (fun _ _ h => h) cxpp (kl_ok (List.forall_mem_cons.mpr ⟨cxo171, List.forall_mem_cons.mpr ⟨cxo173, List.forall_mem_cons.mpr ⟨cxo191, fun _ h => (by cases h)⟩⟩⟩)) nw_class (fun h => by cases h) cxk192
def cxt193 : con := (65, [(2, 142, 1), (0, 1, 1)], [], [some (0, 0, 1)], [], 110, 8800, false)
theorem cxk193 : con_chk (kl bB cxF [cxt43, cxt171, cxt173, cxt174, cxt192]) PT bB 198 cxF cxJ cxjo cxP 475 cxt193 = true := fq_chk1 (fq_jn_eq _) rfl (by decide +kernel)   -- X6_readThing
theorem cxo193 : con_ok PT bB 198 cxF cxQ cxt193 := con_chk_ok (fun _ _ h => h) cxpp (kl_ok (List.forall_mem_cons.mpr ⟨cxo43, List.forall_mem_cons.mpr ⟨cxo171, List.forall_mem_cons.mpr ⟨cxo173, List.forall_mem_cons.mpr ⟨cxo174, List.forall_mem_cons.mpr ⟨cxo192, fun _ h => (by cases h)⟩⟩⟩⟩⟩)) nw_class (fun h => by cases h) cxk193
def cxt194 : con := (64, [(2, 142, 1), (0, 1, 1)], [], [some (0, 0, 1)], [], 115, 9200, false)
theorem cxk194 : con_chk (kl bB cxF [cxt171, cxt173, cxt193]) PT bB 198 cxF cxJ cxjo cxP 1202 cxt194 = true := fq_chk1 (fq_jn_eq _) rfl (by decide +kernel)   -- X6_readSigned
theorem cxo194 : con_ok PT bB 198 cxF cxQ cxt194 := con_chk_ok (fun _ _ h => h) cxpp (kl_ok (List.forall_mem_cons.mpr ⟨cxo171, List.forall_mem_cons.mpr ⟨cxo173, List.forall_mem_cons.mpr ⟨cxo193, fun _ h => (by cases h)⟩⟩⟩)) nw_class (fun h => by cases h) cxk194
def cxt195 : con := (62, [(2, 142, 1), (0, 3, 3), (0, 1, 1)], [], [some (0, 0, 1)], [], 120, 9600, false)
theorem cxk195 : con_chk (kl bB cxF [cxt194]) PT bB 198 cxF cxJ cxjo cxP 407 cxt195 = true := fq_chk1 (fq_jn_eq _) rfl (by decide +kernel)   -- X6_readLevel
theorem cxo195 : con_ok PT bB 198 cxF cxQ cxt195 := con_chk_ok (fun _ _ h => h) cxpp (kl_ok (List.forall_mem_cons.mpr ⟨cxo194, fun _ h => (by cases h)⟩)) nw_class (fun h => by cases h) cxk195
def cxt196 : con := (62, [(2, 142, 1), (0, 2, 2), (0, 1, 1)], [], [some (0, 0, 1)], [], 125, 10000, false)
theorem cxk196 : con_chk (kl bB cxF [cxt171, cxt173, cxt195]) PT bB 198 cxF cxJ cxjo cxP 2103 cxt196 = true := fq_chk1 (fq_jn_eq _) rfl (by decide +kernel)   -- X6_readLevel
theorem cxo196 : con_ok PT bB 198 cxF cxQ cxt196 := con_chk_ok (fun _ _ h => h) cxpp (kl_ok (List.forall_mem_cons.mpr ⟨cxo171, List.forall_mem_cons.mpr ⟨cxo173, List.forall_mem_cons.mpr ⟨cxo195, fun _ h => (by cases h)⟩⟩⟩)) nw_class (fun h => by cases h) cxk196
end MG47cx09x3
section MG47cx09x4
/-! contracts -/
def cxt197 : con := (62, [(2, 142, 1), (0, 1, 1), (0, 1, 1)], [], [some (0, 0, 1)], [], 130, 10400, false)
theorem cxk197 : con_chk (kl bB cxF [cxt171, cxt173, cxt196]) PT bB 198 cxF cxJ cxjo cxP 2103 cxt197 = true := fq_chk1 (fq_jn_eq _) rfl (by decide +kernel)   -- X6_readLevel
theorem cxo197 : con_ok PT bB 198 cxF cxQ cxt197 := con_chk_ok (fun _ _ h => h) cxpp (kl_ok (List.forall_mem_cons.mpr ⟨cxo171, List.forall_mem_cons.mpr ⟨cxo173, List.forall_mem_cons.mpr ⟨cxo196, fun _ h => (by cases h)⟩⟩⟩)) nw_class (fun h => by cases h) cxk197
def cxt198 : con := (62, [(2, 142, 1), (0, 0, 0), (0, 1, 1)], [], [some (0, 0, 1)], [], 135, 10800, false)
theorem cxk198 : con_chk (kl bB cxF [cxt171, cxt173, cxt197]) PT bB 198 cxF cxJ cxjo cxP 466 cxt198 = true := fq_chk1 (fq_jn_eq _) rfl (by decide +kernel)   -- X6_readLevel
theorem cxo198 : con_ok PT bB 198 cxF cxQ cxt198 := con_chk_ok (fun _ _ h => h) cxpp (kl_ok (List.forall_mem_cons.mpr ⟨cxo171, List.forall_mem_cons.mpr ⟨cxo173, List.forall_mem_cons.mpr ⟨cxo197, fun _ h => (by cases h)⟩⟩⟩)) nw_class (fun h => by cases h) cxk198
def cxt199 : con := (65, [(2, 142, 1), (0, 0, 0)], [], [some (0, 0, 1)], [], 140, 11200, false)
theorem cxk199 : con_chk (kl bB cxF [cxt43, cxt171, cxt173, cxt174, cxt198]) PT bB 198 cxF cxJ cxjo cxP 475 cxt199 = true := fq_chk1 (fq_jn_eq _) rfl (by decide +kernel)   -- X6_readThing
theorem cxo199 : con_ok PT bB 198 cxF cxQ cxt199 := con_chk_ok (fun _ _ h => h) cxpp (kl_ok (List.forall_mem_cons.mpr ⟨cxo43, List.forall_mem_cons.mpr ⟨cxo171, List.forall_mem_cons.mpr ⟨cxo173, List.forall_mem_cons.mpr ⟨cxo174, List.forall_mem_cons.mpr ⟨cxo198, fun _ h => (by cases h)⟩⟩⟩⟩⟩)) nw_class (fun h => by cases h) cxk199
def cxt200 : con := (64, [(2, 142, 1), (0, 0, 0)], [], [some (0, 0, 1)], [], 145, 11600, false)
theorem cxk200 : con_chk (kl bB cxF [cxt171, cxt173, cxt199]) PT bB 198 cxF cxJ cxjo cxP 1202 cxt200 = true := fq_chk1 (fq_jn_eq _) rfl (by decide +kernel)   -- X6_readSigned
theorem cxo200 : con_ok PT bB 198 cxF cxQ cxt200 := con_chk_ok (fun _ _ h => h) cxpp (kl_ok (List.forall_mem_cons.mpr ⟨cxo171, List.forall_mem_cons.mpr ⟨cxo173, List.forall_mem_cons.mpr ⟨cxo199, fun _ h => (by cases h)⟩⟩⟩)) nw_class (fun h => by cases h) cxk200
def cxt201 : con := (62, [(2, 142, 1), (0, 3, 3), (0, 0, 0)], [], [some (0, 0, 1)], [], 150, 12000, false)
theorem cxk201 : con_chk (kl bB cxF [cxt200]) PT bB 198 cxF cxJ cxjo cxP 407 cxt201 = true := fq_chk1 (fq_jn_eq _) rfl (by decide +kernel)   -- X6_readLevel
theorem cxo201 : con_ok PT bB 198 cxF cxQ cxt201 := con_chk_ok (fun _ _ h => h) cxpp (kl_ok (List.forall_mem_cons.mpr ⟨cxo200, fun _ h => (by cases h)⟩)) nw_class (fun h => by cases h) cxk201
def cxt202 : con := (62, [(2, 142, 1), (0, 2, 2), (0, 0, 0)], [], [some (0, 0, 1)], [], 155, 12400, false)
theorem cxk202 : con_chk (kl bB cxF [cxt171, cxt173, cxt201]) PT bB 198 cxF cxJ cxjo cxP 2103 cxt202 = true := fq_chk1 (fq_jn_eq _) rfl (by decide +kernel)   -- X6_readLevel
theorem cxo202 : con_ok PT bB 198 cxF cxQ cxt202 := con_chk_ok (fun _ _ h => h) cxpp (kl_ok (List.forall_mem_cons.mpr ⟨cxo171, List.forall_mem_cons.mpr ⟨cxo173, List.forall_mem_cons.mpr ⟨cxo201, fun _ h => (by cases h)⟩⟩⟩)) nw_class (fun h => by cases h) cxk202
def cxt203 : con := (62, [(2, 142, 1), (0, 1, 1), (0, 0, 0)], [], [some (0, 0, 1)], [], 160, 12800, false)
theorem cxk203 : con_chk (kl bB cxF [cxt171, cxt173, cxt202]) PT bB 198 cxF cxJ cxjo cxP 2103 cxt203 = true := fq_chk1 (fq_jn_eq _) rfl (by decide +kernel)   -- X6_readLevel
theorem cxo203 : con_ok PT bB 198 cxF cxQ cxt203 := con_chk_ok (fun _ _ h => h) cxpp (kl_ok (List.forall_mem_cons.mpr ⟨cxo171, List.forall_mem_cons.mpr ⟨cxo173, List.forall_mem_cons.mpr ⟨cxo202, fun _ h => (by cases h)⟩⟩⟩)) nw_class (fun h => by cases h) cxk203
def cxt204 : con := (62, [(2, 142, 1), (0, 0, 0), (0, 0, 0)], [], [some (0, 0, 1)], [], 165, 13200, false)
theorem cxk204 : con_chk (kl bB cxF [cxt171, cxt173, cxt203]) PT bB 198 cxF cxJ cxjo cxP 466 cxt204 = true := fq_chk1 (fq_jn_eq _) rfl (by decide +kernel)   -- X6_readLevel
theorem cxo204 : con_ok PT bB 198 cxF cxQ cxt204 := con_chk_ok (fun _ _ h => h) cxpp (kl_ok (List.forall_mem_cons.mpr ⟨cxo171, List.forall_mem_cons.mpr ⟨cxo173, List.forall_mem_cons.mpr ⟨cxo203, fun _ h => (by cases h)⟩⟩⟩)) nw_class (fun h => by cases h) cxk204
def cxt205 : con := (58, [(2, 142, 1)], [], [some (0, (-2147483648), 2147483647)], [], 170, 13600, false)
theorem cxk205 : con_chk (kl bB cxF [cxt172, cxt204]) PT bB 198 cxF cxJ cxjo cxP 442 cxt205 = true := fq_chk1 (fq_jn_eq _) rfl (by decide +kernel)   -- X6_read
theorem cxo205 : con_ok PT bB 198 cxF cxQ cxt205 := con_chk_ok (fun _ _ h => h) cxpp (kl_ok (List.forall_mem_cons.mpr ⟨cxo172, List.forall_mem_cons.mpr ⟨cxo204, fun _ h => (by cases h)⟩⟩)) nw_class (fun h => by cases h) cxk205
def cxt206 : con := (60, [(2, 145, 1), (0, (-2147483648), 999)], [], [none], [], 5, 400, false)
theorem cxk206 : con_chk (kl bB cxF []) PT bB 198 cxF cxJ cxjo cxP 421 cxt206 = true := fq_chk1 (fq_jn_eq _) rfl (by decide +kernel)   -- X6_emit
theorem cxo206 : con_ok PT bB 198 cxF cxQ cxt206 := con_chk_ok (fun _ _ h => h) cxpp (kl_ok (fun _ h => (by cases h))) nw_class (fun h => by cases h) cxk206
def cxt207 : con := (59, [(2, 145, 1)], [], [none], [], 10, 800, false)
theorem cxk207 : con_chk (kl bB cxF [cxt206]) PT bB 198 cxF cxJ cxjo cxP 419 cxt207 = true := fq_chk1 (fq_jn_eq _) rfl (by decide +kernel)   -- X6_beFirstRule
theorem cxo207 : con_ok PT bB 198 cxF cxQ cxt207 := con_chk_ok (fun _ _ h => h) cxpp (kl_ok (List.forall_mem_cons.mpr ⟨cxo206, fun _ h => (by cases h)⟩)) nw_class (fun h => by cases h) cxk207
def cxt208 : con := (61, [(2, 145, 1)], [], [some (0, (-1), 65535)], [], 10, 800, true)
theorem cxk208 : con_chk (kl bB cxF [cxt33]) PT bB 198 cxF cxJ cxjo cxP 407 cxt208 = true := fq_chk1 (fq_jn_eq _) rfl (by decide +kernel)   -- X6_nextSign
theorem cxo208 : con_ok PT bB 198 cxF cxQ cxt208 := con_chk_ok (fun _ _ h => h) cxpp (kl_ok (List.forall_mem_cons.mpr ⟨cxo33, fun _ h => (by cases h)⟩)) nw_class (fun _ => by decide) cxk208
def cxt209 : con := (66, [(2, 145, 1)], [], [none], [], 15, 1200, false)
theorem cxk209 : con_chk (kl bB cxF [cxt34, cxt206]) PT bB 198 cxF cxJ cxjo cxP 502 cxt209 = true := fq_chk1 (fq_jn_eq _) rfl (by decide +kernel)   -- X6_readNumber
theorem cxo209 : con_ok PT bB 198 cxF cxQ cxt209 := con_chk_ok (fun _ _ h => h) cxpp (kl_ok (List.forall_mem_cons.mpr ⟨cxo34, List.forall_mem_cons.mpr ⟨cxo206, fun _ h => (by cases h)⟩⟩)) nw_class (fun h => by cases h) cxk209
def cxt210 : con := (65, [(2, 145, 1), (0, 4, 4)], [], [some (0, 0, 1)], [], 20, 1600, false)
theorem cxk210 : con_chk (kl bB cxF [cxt43, cxt206, cxt208, cxt209]) PT bB 198 cxF cxJ cxjo cxP 448 cxt210 = true := fq_chk1 (fq_jn_eq _) rfl (by decide +kernel)   -- X6_readThing
theorem cxo210 : con_ok PT bB 198 cxF cxQ cxt210 := con_chk_ok (fun _ _ h => h) cxpp (kl_ok (List.forall_mem_cons.mpr ⟨cxo43, List.forall_mem_cons.mpr ⟨cxo206, List.forall_mem_cons.mpr ⟨cxo208, List.forall_mem_cons.mpr ⟨cxo209, fun _ h => (by cases h)⟩⟩⟩⟩)) nw_class (fun h => by cases h) cxk210
end MG47cx09x4
section MG47cx09x5
/-! contracts -/
def cxt211 : con := (64, [(2, 145, 1), (0, 4, 4)], [], [some (0, 0, 1)], [], 25, 2000, false)
theorem cxk211 : con_chk (kl bB cxF [cxt206, cxt208, cxt210]) PT bB 198 cxF cxJ cxjo cxP 1202 cxt211 = true := fq_chk1 (fq_jn_eq _) rfl (by decide +kernel)   -- X6_readSigned
theorem cxo211 : con_ok PT bB 198 cxF cxQ cxt211 := con_chk_ok (fun _ _ h => h) cxpp (kl_ok (List.forall_mem_cons.mpr ⟨cxo206, List.forall_mem_cons.mpr ⟨cxo208, List.forall_mem_cons.mpr ⟨cxo210, fun _ h => (by cases h)⟩⟩⟩)) nw_class (fun h => by cases h) cxk211
def cxt212 : con := (62, [(2, 145, 1), (0, 3, 3), (0, 4, 4)], [], [some (0, 0, 1)], [], 30, 2400, false)
theorem cxk212 : con_chk (kl bB cxF [cxt211]) PT bB 198 cxF cxJ cxjo cxP 407 cxt212 = true := fq_chk1 (fq_jn_eq _) rfl (by decide +kernel)   -- X6_readLevel
theorem cxo212 : con_ok PT bB 198 cxF cxQ cxt212 := con_chk_ok (fun _ _ h => h) cxpp (kl_ok (List.forall_mem_cons.mpr ⟨cxo211, fun _ h => (by cases h)⟩)) nw_class (fun h => by cases h) cxk212
def cxt213 : con := (62, [(2, 145, 1), (0, 2, 2), (0, 4, 4)], [], [some (0, 0, 1)], [], 35, 2800, false)
theorem cxk213 : con_chk (kl bB cxF [cxt206, cxt208, cxt212]) PT bB 198 cxF cxJ cxjo cxP 2103 cxt213 = true := fq_chk1 (fq_jn_eq _) rfl (by decide +kernel)   -- X6_readLevel
theorem cxo213 : con_ok PT bB 198 cxF cxQ cxt213 := con_chk_ok (fun _ _ h => h) cxpp (kl_ok (List.forall_mem_cons.mpr ⟨cxo206, List.forall_mem_cons.mpr ⟨cxo208, List.forall_mem_cons.mpr ⟨cxo212, fun _ h => (by cases h)⟩⟩⟩)) nw_class (fun h => by cases h) cxk213
def cxt214 : con := (62, [(2, 145, 1), (0, 1, 1), (0, 4, 4)], [], [some (0, 0, 1)], [], 40, 3200, false)
theorem cxk214 : con_chk (kl bB cxF [cxt206, cxt208, cxt213]) PT bB 198 cxF cxJ cxjo cxP 2103 cxt214 = true := fq_chk1 (fq_jn_eq _) rfl (by decide +kernel)   -- X6_readLevel
theorem cxo214 : con_ok PT bB 198 cxF cxQ cxt214 := con_chk_ok (fun _ _ h => h) cxpp (kl_ok (List.forall_mem_cons.mpr ⟨cxo206, List.forall_mem_cons.mpr ⟨cxo208, List.forall_mem_cons.mpr ⟨cxo213, fun _ h => (by cases h)⟩⟩⟩)) nw_class (fun h => by cases h) cxk214
def cxt215 : con := (62, [(2, 145, 1), (0, 0, 0), (0, 4, 4)], [], [some (0, 0, 1)], [], 45, 3600, false)
theorem cxk215 : con_chk (kl bB cxF [cxt206, cxt208, cxt214]) PT bB 198 cxF cxJ cxjo cxP 466 cxt215 = true := fq_chk1 (fq_jn_eq _) rfl (by decide +kernel)   -- X6_readLevel
theorem cxo215 : con_ok PT bB 198 cxF cxQ cxt215 := con_chk_ok (fun _ _ h => h) cxpp (kl_ok (List.forall_mem_cons.mpr ⟨cxo206, List.forall_mem_cons.mpr ⟨cxo208, List.forall_mem_cons.mpr ⟨cxo214, fun _ h => (by cases h)⟩⟩⟩)) nw_class (fun h => by cases h) cxk215
def cxt216 : con := (65, [(2, 145, 1), (0, 3, 3)], [], [some (0, 0, 1)], [], 50, 4000, false)
theorem cxk216 : con_chk (kl bB cxF [cxt43, cxt206, cxt208, cxt209, cxt215]) PT bB 198 cxF cxJ cxjo cxP 475 cxt216 = true := fq_chk1 (fq_jn_eq _) rfl (by decide +kernel)   -- X6_readThing
theorem cxo216 : con_ok PT bB 198 cxF cxQ cxt216 := con_chk_ok (fun _ _ h => h) cxpp (kl_ok (List.forall_mem_cons.mpr ⟨cxo43, List.forall_mem_cons.mpr ⟨cxo206, List.forall_mem_cons.mpr ⟨cxo208, List.forall_mem_cons.mpr ⟨cxo209, List.forall_mem_cons.mpr ⟨cxo215, fun _ h => (by cases h)⟩⟩⟩⟩⟩)) nw_class (fun h => by cases h) cxk216
def cxt217 : con := (64, [(2, 145, 1), (0, 3, 3)], [], [some (0, 0, 1)], [], 55, 4400, false)
theorem cxk217 : con_chk (kl bB cxF [cxt206, cxt208, cxt216]) PT bB 198 cxF cxJ cxjo cxP 1202 cxt217 = true := fq_chk1 (fq_jn_eq _) rfl (by decide +kernel)   -- X6_readSigned
theorem cxo217 : con_ok PT bB 198 cxF cxQ cxt217 := con_chk_ok (fun _ _ h => h) cxpp (kl_ok (List.forall_mem_cons.mpr ⟨cxo206, List.forall_mem_cons.mpr ⟨cxo208, List.forall_mem_cons.mpr ⟨cxo216, fun _ h => (by cases h)⟩⟩⟩)) nw_class (fun h => by cases h) cxk217
def cxt218 : con := (62, [(2, 145, 1), (0, 3, 3), (0, 3, 3)], [], [some (0, 0, 1)], [], 60, 4800, false)
theorem cxk218 : con_chk (kl bB cxF [cxt217]) PT bB 198 cxF cxJ cxjo cxP 407 cxt218 = true := fq_chk1 (fq_jn_eq _) rfl (by decide +kernel)   -- X6_readLevel
theorem cxo218 : con_ok PT bB 198 cxF cxQ cxt218 := con_chk_ok (fun _ _ h => h) cxpp (kl_ok (List.forall_mem_cons.mpr ⟨cxo217, fun _ h => (by cases h)⟩)) nw_class (fun h => by cases h) cxk218
def cxt219 : con := (62, [(2, 145, 1), (0, 2, 2), (0, 3, 3)], [], [some (0, 0, 1)], [], 65, 5200, false)
theorem cxk219 : con_chk (kl bB cxF [cxt206, cxt208, cxt218]) PT bB 198 cxF cxJ cxjo cxP 2103 cxt219 = true := fq_chk1 (fq_jn_eq _) rfl (by decide +kernel)   -- X6_readLevel
theorem cxo219 : con_ok PT bB 198 cxF cxQ cxt219 := con_chk_ok (fun _ _ h => h) cxpp (kl_ok (List.forall_mem_cons.mpr ⟨cxo206, List.forall_mem_cons.mpr ⟨cxo208, List.forall_mem_cons.mpr ⟨cxo218, fun _ h => (by cases h)⟩⟩⟩)) nw_class (fun h => by cases h) cxk219
end MG47cx09x5
section MG47cx09x6
/-! contracts -/
def cxt220 : con := (62, [(2, 145, 1), (0, 1, 1), (0, 3, 3)], [], [some (0, 0, 1)], [], 70, 5600, false)
theorem cxk220 : con_chk (kl bB cxF [cxt206, cxt208, cxt219]) PT bB 198 cxF cxJ cxjo cxP 2103 cxt220 = true := fq_chk1 (fq_jn_eq _) rfl (by decide +kernel)   -- X6_readLevel
theorem cxo220 : con_ok PT bB 198 cxF cxQ cxt220 := con_chk_ok (fun _ _ h => h) cxpp (kl_ok (List.forall_mem_cons.mpr ⟨cxo206, List.forall_mem_cons.mpr ⟨cxo208, List.forall_mem_cons.mpr ⟨cxo219, fun _ h => (by cases h)⟩⟩⟩)) nw_class (fun h => by cases h) cxk220
def cxt221 : con := (62, [(2, 145, 1), (0, 0, 0), (0, 3, 3)], [], [some (0, 0, 1)], [], 75, 6000, false)
theorem cxk221 : con_chk (kl bB cxF [cxt206, cxt208, cxt220]) PT bB 198 cxF cxJ cxjo cxP 466 cxt221 = true := fq_chk1 (fq_jn_eq _) rfl (by decide +kernel)   -- X6_readLevel
theorem cxo221 : con_ok PT bB 198 cxF cxQ cxt221 := con_chk_ok (fun _ _ h => h) cxpp (kl_ok (List.forall_mem_cons.mpr ⟨cxo206, List.forall_mem_cons.mpr ⟨cxo208, List.forall_mem_cons.mpr ⟨cxo220, fun _ h => (by cases h)⟩⟩⟩)) nw_class (fun h => by cases h) cxk221
def cxt222 : con := (65, [(2, 145, 1), (0, 2, 2)], [], [some (0, 0, 1)], [], 80, 6400, false)
theorem cxk222 : con_chk (kl bB cxF [cxt43, cxt206, cxt208, cxt209, cxt221]) PT bB 198 cxF cxJ cxjo cxP 475 cxt222 = true := fq_chk1 (fq_jn_eq _) rfl (by decide +kernel)   -- X6_readThing
theorem cxo222 : con_ok PT bB 198 cxF cxQ cxt222 := con_chk_ok (fun _ _ h => h) cxpp (kl_ok (List.forall_mem_cons.mpr ⟨cxo43, List.forall_mem_cons.mpr ⟨cxo206, List.forall_mem_cons.mpr ⟨cxo208, List.forall_mem_cons.mpr ⟨cxo209, List.forall_mem_cons.mpr ⟨cxo221, fun _ h => (by cases h)⟩⟩⟩⟩⟩)) nw_class (fun h => by cases h) cxk222
def cxt223 : con := (64, [(2, 145, 1), (0, 2, 2)], [], [some (0, 0, 1)], [], 85, 6800, false)
theorem cxk223 : con_chk (kl bB cxF [cxt206, cxt208, cxt222]) PT bB 198 cxF cxJ cxjo cxP 1202 cxt223 = true := fq_chk1 (fq_jn_eq _) rfl (by decide +kernel)   -- X6_readSigned
theorem cxo223 : con_ok PT bB 198 cxF cxQ cxt223 := con_chk_ok (fun _ _ h => h) cxpp (kl_ok (List.forall_mem_cons.mpr ⟨cxo206, List.forall_mem_cons.mpr ⟨cxo208, List.forall_mem_cons.mpr ⟨cxo222, fun _ h => (by cases h)⟩⟩⟩)) nw_class (fun h => by cases h) cxk223
def cxt224 : con := (62, [(2, 145, 1), (0, 3, 3), (0, 2, 2)], [], [some (0, 0, 1)], [], 90, 7200, false)
theorem cxk224 : con_chk (kl bB cxF [cxt223]) PT bB 198 cxF cxJ cxjo cxP 407 cxt224 = true := fq_chk1 (fq_jn_eq _) rfl (by decide +kernel)   -- X6_readLevel
theorem cxo224 : con_ok PT bB 198 cxF cxQ cxt224 := con_chk_ok (fun _ _ h => h) cxpp (kl_ok (List.forall_mem_cons.mpr ⟨cxo223, fun _ h => (by cases h)⟩)) nw_class (fun h => by cases h) cxk224
def cxt225 : con := (62, [(2, 145, 1), (0, 2, 2), (0, 2, 2)], [], [some (0, 0, 1)], [], 95, 7600, false)
theorem cxk225 : con_chk (kl bB cxF [cxt206, cxt208, cxt224]) PT bB 198 cxF cxJ cxjo cxP 2103 cxt225 = true := fq_chk1 (fq_jn_eq _) rfl (by decide +kernel)   -- X6_readLevel
theorem cxo225 : con_ok PT bB 198 cxF cxQ cxt225 := con_chk_ok (fun _ _ h => h) cxpp (kl_ok (List.forall_mem_cons.mpr ⟨cxo206, List.forall_mem_cons.mpr ⟨cxo208, List.forall_mem_cons.mpr ⟨cxo224, fun _ h => (by cases h)⟩⟩⟩)) nw_class (fun h => by cases h) cxk225
def cxt226 : con := (62, [(2, 145, 1), (0, 1, 1), (0, 2, 2)], [], [some (0, 0, 1)], [], 100, 8000, false)
theorem cxk226 : con_chk (kl bB cxF [cxt206, cxt208, cxt225]) PT bB 198 cxF cxJ cxjo cxP 2103 cxt226 = true := fq_chk1 (fq_jn_eq _) rfl (by decide +kernel)   -- X6_readLevel
theorem cxo226 : con_ok PT bB 198 cxF cxQ cxt226 := con_chk_ok (fun _ _ h => h) cxpp (kl_ok (List.forall_mem_cons.mpr ⟨cxo206, List.forall_mem_cons.mpr ⟨cxo208, List.forall_mem_cons.mpr ⟨cxo225, fun _ h => (by cases h)⟩⟩⟩)) nw_class (fun h => by cases h) cxk226
def cxt227 : con := (62, [(2, 145, 1), (0, 0, 0), (0, 2, 2)], [], [some (0, 0, 1)], [], 105, 8400, false)
theorem cxk227 : con_chk (kl bB cxF [cxt206, cxt208, cxt226]) PT bB 198 cxF cxJ cxjo cxP 466 cxt227 = true := fq_chk1 (fq_jn_eq _) rfl (by decide +kernel)   -- X6_readLevel
theorem cxo227 : con_ok PT bB 198 cxF cxQ cxt227 := con_chk_ok (fun _ _ h => h) cxpp (kl_ok (List.forall_mem_cons.mpr ⟨cxo206, List.forall_mem_cons.mpr ⟨cxo208, List.forall_mem_cons.mpr ⟨cxo226, fun _ h => (by cases h)⟩⟩⟩)) nw_class (fun h => by cases h) cxk227
def cxt228 : con := (65, [(2, 145, 1), (0, 1, 1)], [], [some (0, 0, 1)], [], 110, 8800, false)
theorem cxk228 : con_chk (kl bB cxF [cxt43, cxt206, cxt208, cxt209, cxt227]) PT bB 198 cxF cxJ cxjo cxP 475 cxt228 = true := fq_chk1 (fq_jn_eq _) rfl (by decide +kernel)   -- X6_readThing
theorem cxo228 : con_ok PT bB 198 cxF cxQ cxt228 := con_chk_ok (fun _ _ h => h) cxpp (kl_ok (List.forall_mem_cons.mpr ⟨cxo43, List.forall_mem_cons.mpr ⟨cxo206, List.forall_mem_cons.mpr ⟨cxo208, List.forall_mem_cons.mpr ⟨cxo209, List.forall_mem_cons.mpr ⟨cxo227, fun _ h => (by cases h)⟩⟩⟩⟩⟩)) nw_class (fun h => by cases h) cxk228
end MG47cx09x6
section MG47cx09x7
/-! contracts -/
def cxt229 : con := (64, [(2, 145, 1), (0, 1, 1)], [], [some (0, 0, 1)], [], 115, 9200, false)
theorem cxk229 : con_chk (kl bB cxF [cxt206, cxt208, cxt228]) PT bB 198 cxF cxJ cxjo cxP 1202 cxt229 = true := fq_chk1 (fq_jn_eq _) rfl (by decide +kernel)   -- X6_readSigned
theorem cxo229 : con_ok PT bB 198 cxF cxQ cxt229 := con_chk_ok (fun _ _ h => h) cxpp (kl_ok (List.forall_mem_cons.mpr ⟨cxo206, List.forall_mem_cons.mpr ⟨cxo208, List.forall_mem_cons.mpr ⟨cxo228, fun _ h => (by cases h)⟩⟩⟩)) nw_class (fun h => by cases h) cxk229
def cxt230 : con := (62, [(2, 145, 1), (0, 3, 3), (0, 1, 1)], [], [some (0, 0, 1)], [], 120, 9600, false)
theorem cxk230 : con_chk (kl bB cxF [cxt229]) PT bB 198 cxF cxJ cxjo cxP 407 cxt230 = true := fq_chk1 (fq_jn_eq _) rfl (by decide +kernel)   -- X6_readLevel
theorem cxo230 : con_ok PT bB 198 cxF cxQ cxt230 := con_chk_ok (fun _ _ h => h) cxpp (kl_ok (List.forall_mem_cons.mpr ⟨cxo229, fun _ h => (by cases h)⟩)) nw_class (fun h => by cases h) cxk230
def cxt231 : con := (62, [(2, 145, 1), (0, 2, 2), (0, 1, 1)], [], [some (0, 0, 1)], [], 125, 10000, false)
theorem cxk231 : con_chk (kl bB cxF [cxt206, cxt208, cxt230]) PT bB 198 cxF cxJ cxjo cxP 2103 cxt231 = true := fq_chk1 (fq_jn_eq _) rfl (by decide +kernel)   -- X6_readLevel
theorem cxo231 : con_ok PT bB 198 cxF cxQ cxt231 := con_chk_ok (fun _ _ h => h) cxpp (kl_ok (List.forall_mem_cons.mpr ⟨cxo206, List.forall_mem_cons.mpr ⟨cxo208, List.forall_mem_cons.mpr ⟨cxo230, fun _ h => (by cases h)⟩⟩⟩)) nw_class (fun h => by cases h) cxk231
def cxt232 : con := (62, [(2, 145, 1), (0, 1, 1), (0, 1, 1)], [], [some (0, 0, 1)], [], 130, 10400, false)
theorem cxk232 : con_chk (kl bB cxF [cxt206, cxt208, cxt231]) PT bB 198 cxF cxJ cxjo cxP 2103 cxt232 = true := fq_chk1 (fq_jn_eq _) rfl (by decide +kernel)   -- X6_readLevel
theorem cxo232 : con_ok PT bB 198 cxF cxQ cxt232 := con_chk_ok (fun _ _ h => h) cxpp (kl_ok (List.forall_mem_cons.mpr ⟨cxo206, List.forall_mem_cons.mpr ⟨cxo208, List.forall_mem_cons.mpr ⟨cxo231, fun _ h => (by cases h)⟩⟩⟩)) nw_class (fun h => by cases h) cxk232
def cxt233 : con := (62, [(2, 145, 1), (0, 0, 0), (0, 1, 1)], [], [some (0, 0, 1)], [], 135, 10800, false)
theorem cxk233 : con_chk (kl bB cxF [cxt206, cxt208, cxt232]) PT bB 198 cxF cxJ cxjo cxP 466 cxt233 = true := fq_chk1 (fq_jn_eq _) rfl (by decide +kernel)   -- X6_readLevel
theorem cxo233 : con_ok PT bB 198 cxF cxQ cxt233 := con_chk_ok (fun _ _ h => h) cxpp (kl_ok (List.forall_mem_cons.mpr ⟨cxo206, List.forall_mem_cons.mpr ⟨cxo208, List.forall_mem_cons.mpr ⟨cxo232, fun _ h => (by cases h)⟩⟩⟩)) nw_class (fun h => by cases h) cxk233
def cxt234 : con := (65, [(2, 145, 1), (0, 0, 0)], [], [some (0, 0, 1)], [], 140, 11200, false)
theorem cxk234 : con_chk (kl bB cxF [cxt43, cxt206, cxt208, cxt209, cxt233]) PT bB 198 cxF cxJ cxjo cxP 475 cxt234 = true := fq_chk1 (fq_jn_eq _) rfl (by decide +kernel)   -- X6_readThing
theorem cxo234 : con_ok PT bB 198 cxF cxQ cxt234 := con_chk_ok (fun _ _ h => h) cxpp (kl_ok (List.forall_mem_cons.mpr ⟨cxo43, List.forall_mem_cons.mpr ⟨cxo206, List.forall_mem_cons.mpr ⟨cxo208, List.forall_mem_cons.mpr ⟨cxo209, List.forall_mem_cons.mpr ⟨cxo233, fun _ h => (by cases h)⟩⟩⟩⟩⟩)) nw_class (fun h => by cases h) cxk234
def cxt235 : con := (64, [(2, 145, 1), (0, 0, 0)], [], [some (0, 0, 1)], [], 145, 11600, false)
theorem cxk235 : con_chk (kl bB cxF [cxt206, cxt208, cxt234]) PT bB 198 cxF cxJ cxjo cxP 1202 cxt235 = true := fq_chk1 (fq_jn_eq _) rfl (by decide +kernel)   -- X6_readSigned
theorem cxo235 : con_ok PT bB 198 cxF cxQ cxt235 := con_chk_ok (fun _ _ h => h) cxpp (kl_ok (List.forall_mem_cons.mpr ⟨cxo206, List.forall_mem_cons.mpr ⟨cxo208, List.forall_mem_cons.mpr ⟨cxo234, fun _ h => (by cases h)⟩⟩⟩)) nw_class (fun h => by cases h) cxk235
def cxt236 : con := (62, [(2, 145, 1), (0, 3, 3), (0, 0, 0)], [], [some (0, 0, 1)], [], 150, 12000, false)
theorem cxk236 : con_chk (kl bB cxF [cxt235]) PT bB 198 cxF cxJ cxjo cxP 407 cxt236 = true := fq_chk1 (fq_jn_eq _) rfl (by decide +kernel)   -- X6_readLevel
theorem cxo236 : con_ok PT bB 198 cxF cxQ cxt236 := con_chk_ok (fun _ _ h => h) cxpp (kl_ok (List.forall_mem_cons.mpr ⟨cxo235, fun _ h => (by cases h)⟩)) nw_class (fun h => by cases h) cxk236
def cxt237 : con := (62, [(2, 145, 1), (0, 2, 2), (0, 0, 0)], [], [some (0, 0, 1)], [], 155, 12400, false)
theorem cxk237 : con_chk (kl bB cxF [cxt206, cxt208, cxt236]) PT bB 198 cxF cxJ cxjo cxP 2103 cxt237 = true := fq_chk1 (fq_jn_eq _) rfl (by decide +kernel)   -- X6_readLevel
theorem cxo237 : con_ok PT bB 198 cxF cxQ cxt237 := con_chk_ok (fun _ _ h => h) cxpp (kl_ok (List.forall_mem_cons.mpr ⟨cxo206, List.forall_mem_cons.mpr ⟨cxo208, List.forall_mem_cons.mpr ⟨cxo236, fun _ h => (by cases h)⟩⟩⟩)) nw_class (fun h => by cases h) cxk237
end MG47cx09x7
end MH47cx03x6
section MH47cx03x7
/-! contracts -/
def cxt238 : con := (62, [(2, 145, 1), (0, 1, 1), (0, 0, 0)], [], [some (0, 0, 1)], [], 160, 12800, false)
theorem cxk238 : con_chk (kl bB cxF [cxt206, cxt208, cxt237]) PT bB 198 cxF cxJ cxjo cxP 2103 cxt238 = true := fq_chk1 (fq_jn_eq _) rfl (by decide +kernel)   -- X6_readLevel
theorem cxo238 : con_ok PT bB 198 cxF cxQ cxt238 := con_chk_ok (fun _ _ h => h) cxpp (kl_ok (List.forall_mem_cons.mpr ⟨cxo206, List.forall_mem_cons.mpr ⟨cxo208, List.forall_mem_cons.mpr ⟨cxo237, fun _ h => (by cases h)⟩⟩⟩)) nw_class (fun h => by cases h) cxk238
def cxt239 : con := (62, [(2, 145, 1), (0, 0, 0), (0, 0, 0)], [], [some (0, 0, 1)], [], 165, 13200, false)
theorem cxk239 : con_chk (kl bB cxF [cxt206, cxt208, cxt238]) PT bB 198 cxF cxJ cxjo cxP 466 cxt239 = true := fq_chk1 (fq_jn_eq _) rfl (by decide +kernel)   -- X6_readLevel
theorem cxo239 : con_ok PT bB 198 cxF cxQ cxt239 := con_chk_ok (fun _ _ h => h) cxpp (kl_ok (List.forall_mem_cons.mpr ⟨cxo206, List.forall_mem_cons.mpr ⟨cxo208, List.forall_mem_cons.mpr ⟨cxo238, fun _ h => (by cases h)⟩⟩⟩)) nw_class (fun h => by cases h) cxk239
def cxt240 : con := (58, [(2, 145, 1)], [], [some (0, (-2147483648), 2147483647)], [], 170, 13600, false)
theorem cxk240 : con_chk (kl bB cxF [cxt207, cxt239]) PT bB 198 cxF cxJ cxjo cxP 442 cxt240 = true := fq_chk1 (fq_jn_eq _) rfl (by decide +kernel)   -- X6_read
theorem cxo240 : con_ok PT bB 198 cxF cxQ cxt240 := con_chk_ok (fun _ _ h => h) cxpp (kl_ok (List.forall_mem_cons.mpr ⟨cxo207, List.forall_mem_cons.mpr ⟨cxo239, fun _ h => (by cases h)⟩⟩)) nw_class (fun h => by cases h) cxk240
def cxt241 : con := (73, [(2, 124, 1), (2, 13, 1)], [], [none], [], 5, 400, false)
theorem cxk241 : con_chk (kl bB cxF []) PT bB 198 cxF cxJ cxjo cxP 449 cxt241 = true := fq_chk1 (fq_jn_eq _) rfl (by decide +kernel)   -- X7_copyFrom
theorem cxo241 : con_ok PT bB 198 cxF cxQ cxt241 := con_chk_ok (fun _ _ h => h) cxpp (kl_ok (fun _ h => (by cases h))) nw_class (fun h => by cases h) cxk241
def cxt242 : con := (73, [(2, 13, 1), (2, 124, 1)], [], [none], [], 5, 400, false)
theorem cxk242 : con_chk (kl bB cxF []) PT bB 198 cxF cxJ cxjo cxP 449 cxt242 = true := fq_chk1 (fq_jn_eq _) rfl (by decide +kernel)   -- X7_copyFrom
theorem cxo242 : con_ok PT bB 198 cxF cxQ cxt242 := con_chk_ok (fun _ _ h => h) cxpp (kl_ok (fun _ h => (by cases h))) nw_class (fun h => by cases h) cxk242
def cxt243 : con := (73, [(2, 13, 1), (2, 130, 1)], [], [none], [], 5, 400, false)
theorem cxk243 : con_chk (kl bB cxF []) PT bB 198 cxF cxJ cxjo cxP 449 cxt243 = true := fq_chk1 (fq_jn_eq _) rfl (by decide +kernel)   -- X7_copyFrom
theorem cxo243 : con_ok PT bB 198 cxF cxQ cxt243 := con_chk_ok (fun _ _ h => h) cxpp (kl_ok (fun _ h => (by cases h))) nw_class (fun h => by cases h) cxk243
def cxt244 : con := (73, [(2, 13, 1), (2, 136, 1)], [], [none], [], 5, 400, false)
theorem cxk244 : con_chk (kl bB cxF []) PT bB 198 cxF cxJ cxjo cxP 449 cxt244 = true := fq_chk1 (fq_jn_eq _) rfl (by decide +kernel)   -- X7_copyFrom
theorem cxo244 : con_ok PT bB 198 cxF cxQ cxt244 := con_chk_ok (fun _ _ h => h) cxpp (kl_ok (fun _ h => (by cases h))) nw_class (fun h => by cases h) cxk244
def cxt245 : con := (73, [(2, 130, 1), (2, 13, 1)], [], [none], [], 5, 400, false)
theorem cxk245 : con_chk (kl bB cxF []) PT bB 198 cxF cxJ cxjo cxP 449 cxt245 = true := fq_chk1 (fq_jn_eq _) rfl (by decide +kernel)   -- X7_copyFrom
theorem cxo245 : con_ok PT bB 198 cxF cxQ cxt245 := con_chk_ok (fun _ _ h => h) cxpp (kl_ok (fun _ h => (by cases h))) nw_class (fun h => by cases h) cxk245
def cxt246 : con := (73, [(2, 136, 1), (2, 13, 1)], [], [none], [], 5, 400, false)
theorem cxk246 : con_chk (kl bB cxF []) PT bB 198 cxF cxJ cxjo cxP 449 cxt246 = true := fq_chk1 (fq_jn_eq _) rfl (by decide +kernel)   -- X7_copyFrom
theorem cxo246 : con_ok PT bB 198 cxF cxQ cxt246 := con_chk_ok (fun _ _ h => h) cxpp (kl_ok (fun _ h => (by cases h))) nw_class (fun h => by cases h) cxk246
def cxt247 : con := (73, [(2, 19, 1), (2, 13, 1)], [], [none], [], 5, 400, false)
theorem cxk247 : con_chk (kl bB cxF []) PT bB 198 cxF cxJ cxjo cxP 449 cxt247 = true := fq_chk1 (fq_jn_eq _) rfl (by decide +kernel)   -- X7_copyFrom
theorem cxo247 : con_ok PT bB 198 cxF cxQ cxt247 := con_chk_ok (fun _ _ h => h) cxpp (kl_ok (fun _ h => (by cases h))) nw_class (fun h => by cases h) cxk247
def cxt248 : con := (79, [(2, 1, 1), (0, (-2147483648), 2147483647)], [], [some (0, 0, 1)], [], 5, 400, false)
theorem cxk248 : con_chk (kl bB cxF []) PT bB 198 cxF cxJ cxjo cxP 504 cxt248 = true := fq_chk1 (fq_jn_eq _) rfl (by decide +kernel)   -- X8_addFour
theorem cxo248 : con_ok PT bB 198 cxF cxQ cxt248 := con_chk_ok (fun _ _ h => h) cxpp (kl_ok (fun _ h => (by cases h))) nw_class (fun h => by cases h) cxk248
def cxt249 : con := (84, [(2, 155, 1), (0, 4, 4), (0, 0, 255), (0, 0, 20), (0, 0, 9999), (0, 0, 396)], [], [none], [], 5, 400, false)
theorem cxk249 : con_chk (kl bB cxF []) PT bB 198 cxF cxJ cxjo cxP 440 cxt249 = true := fq_chk1 (fq_jn_eq _) rfl (by decide +kernel)   -- X9_goOn
theorem cxo249 : con_ok PT bB 198 cxF cxQ cxt249 := con_chk_ok (fun _ _ h => h) cxpp (kl_ok (fun _ h => (by cases h))) nw_class (fun h => by cases h) cxk249
def cxt250 : con := (84, [(2, 155, 1), (0, 3, 3), (0, 0, 255), (0, 0, 20), (0, 0, 9999), (0, 0, 297)], [], [none], [], 10, 800, false)
theorem cxk250 : con_chk (kl bB cxF [cxt53, cxt249]) PT bB 198 cxF cxJ cxjo cxP 1323 cxt250 = true := fq_chk1 (fq_jn_eq _) rfl (by decide +kernel)   -- X9_goOn
theorem cxo250 : con_ok PT bB 198 cxF cxQ cxt250 := con_chk_ok (fun _ _ h => h) cxpp (kl_ok (List.forall_mem_cons.mpr ⟨cxo53, List.forall_mem_cons.mpr ⟨cxo249, fun _ h => (by cases h)⟩⟩)) nw_class (fun h => by cases h) cxk250
def cxt251 : con := (84, [(2, 155, 1), (0, 2, 2), (0, 0, 255), (0, 0, 20), (0, 0, 9999), (0, 0, 198)], [], [none], [], 15, 1200, false)
theorem cxk251 : con_chk (kl bB cxF [cxt53, cxt250]) PT bB 198 cxF cxJ cxjo cxP 1323 cxt251 = true := fq_chk1 (fq_jn_eq _) rfl (by decide +kernel)   -- X9_goOn
theorem cxo251 : con_ok PT bB 198 cxF cxQ cxt251 := con_chk_ok (fun _ _ h => h) cxpp (kl_ok (List.forall_mem_cons.mpr ⟨cxo53, List.forall_mem_cons.mpr ⟨cxo250, fun _ h => (by cases h)⟩⟩)) nw_class (fun h => by cases h) cxk251
def cxt252 : con := (84, [(2, 155, 1), (0, 1, 1), (0, 0, 255), (0, 0, 20), (0, 0, 9999), (0, 0, 99)], [], [none], [], 20, 1600, false)
theorem cxk252 : con_chk (kl bB cxF [cxt53, cxt251]) PT bB 198 cxF cxJ cxjo cxP 1323 cxt252 = true := fq_chk1 (fq_jn_eq _) rfl (by decide +kernel)   -- X9_goOn
theorem cxo252 : con_ok PT bB 198 cxF cxQ cxt252 := con_chk_ok (fun _ _ h => h) cxpp (kl_ok (List.forall_mem_cons.mpr ⟨cxo53, List.forall_mem_cons.mpr ⟨cxo251, fun _ h => (by cases h)⟩⟩)) nw_class (fun h => by cases h) cxk252
def cxt253 : con := (84, [(2, 155, 1), (0, 0, 0), (0, 0, 255), (0, 0, 20), (0, 0, 9999), (0, 0, 0)], [], [none], [], 25, 2000, false)
theorem cxk253 : con_chk (kl bB cxF [cxt53, cxt252]) PT bB 198 cxF cxJ cxjo cxP 1323 cxt253 = true := fq_chk1 (fq_jn_eq _) rfl (by decide +kernel)   -- X9_goOn
theorem cxo253 : con_ok PT bB 198 cxF cxQ cxt253 := con_chk_ok (fun _ _ h => h) cxpp (kl_ok (List.forall_mem_cons.mpr ⟨cxo53, List.forall_mem_cons.mpr ⟨cxo252, fun _ h => (by cases h)⟩⟩)) nw_class (fun h => by cases h) cxk253
def cxt254 : con := (83, [(2, 155, 1), (2, 142, 1), (0, 0, 5), (0, 0, 5)], [], [some (0, (-2), 4)], [], 30, 2400, false)
theorem cxk254 : con_chk (kl bB cxF [cxt48, cxt139, cxt253]) PT bB 198 cxF cxJ cxjo cxP 826 cxt254 = true := fq_chk1 (fq_jn_eq _) rfl (by decide +kernel)   -- X9_fewestGifts
theorem cxo254 : con_ok PT bB 198 cxF cxQ cxt254 := con_chk_ok (fun _ _ h => h) cxpp (kl_ok (List.forall_mem_cons.mpr ⟨cxo48, List.forall_mem_cons.mpr ⟨cxo139, List.forall_mem_cons.mpr ⟨cxo253, fun _ h => (by cases h)⟩⟩⟩)) nw_class (fun h => by cases h) cxk254
def cxt255 : con := (83, [(2, 155, 1), (2, 145, 1), (0, 0, 5), (0, 0, 5)], [], [some (0, (-2), 4)], [], 30, 2400, false)
theorem cxk255 : con_chk (kl bB cxF [cxt52, cxt139, cxt253]) PT bB 198 cxF cxJ cxjo cxP 826 cxt255 = true := fq_chk1 (fq_jn_eq _) rfl (by decide +kernel)   -- X9_fewestGifts
theorem cxo255 : con_ok PT bB 198 cxF cxQ cxt255 := con_chk_ok (fun _ _ h => h) cxpp (kl_ok (List.forall_mem_cons.mpr ⟨cxo52, List.forall_mem_cons.mpr ⟨cxo139, List.forall_mem_cons.mpr ⟨cxo253, fun _ h => (by cases h)⟩⟩⟩)) nw_class (fun h => by cases h) cxk255
def cxt256 : con := (9, [(2, 151, 1), (2, 13, 1)], [], [some (0, 0, 1000000)], [], 10, 800, true)
theorem cxk256 : con_chk (kl bB cxF [cxt2]) PT bB 198 cxF cxJ cxjo cxP 495 cxt256 = true := fq_chk1 (fq_jn_eq _) rfl (by decide +kernel)   -- X1_allDues
theorem cxo256 : con_ok PT bB 198 cxF cxQ cxt256 := con_chk_ok (fun _ _ h => h) cxpp (kl_ok (List.forall_mem_cons.mpr ⟨cxo2, fun _ h => (by cases h)⟩)) nw_class (fun _ => by decide) cxk256
end MH47cx03x7
section MH47cx03x8
section MG48segx0
/-! long runs in pieces: a run stops at states that the next piece covers -/
section SEG
variable {T : pm_Tab} {B : Nat → ac} {sz sl : Nat}
def aL_le : List (Option av) → List (Option av) → Bool
  | [], [] => true
  | a :: r, b :: t => (match a, b with
    | _, none => true
    | some a, some b => av_le a b
    | none, some _ => false) && aL_le r t
  | _, _ => false
theorem aL_le_get : ∀ {A A' : List (Option av)}, aL_le A A' = true → A.length = A'.length ∧ ∀ (i : Nat) (b : av), A'[i]? = some (some b) → ∃ a, A[i]? = some (some a) ∧ av_le a b = true
  | [], [], _ => ⟨rfl, fun i b h => by simp at h⟩
  | a :: r, b :: t, e => by
    unfold aL_le at e
    rw [Bool.and_eq_true] at e
    obtain ⟨h1, h2⟩ := aL_le_get e.2
    refine ⟨by simp [h1], fun i c hc => ?_⟩
    match i, hc with
    | 0, hc =>
      have hc : some b = some (some c) := hc
      cases hc
      have e1 := e.1
      cases a with
      | none => cases e1
      | some a => exact ⟨a, rfl, e1⟩
    | i + 1, hc => exact h2 i c hc
  | [], _ :: _, e => by cases e
  | _ :: _, [], e => by cases e
def ast_le (B : Nat → ac) (s t : ast) : Bool := Nat.beq s.1 t.1 && (aL_le s.2.1 t.2.1 && (al_le s.2.2.1 t.2.2.1 && ah_le B s.2.2.2 t.2.2.2))
theorem ast_le_ok {s t : ast} {st : pm_St} (e : ast_le B s t = true) (h : ast_ok B sz sl s st) : ast_ok B sz sl t st := by
  unfold ast_le at e
  rw [Bool.and_eq_true, Bool.and_eq_true, Bool.and_eq_true] at e
  obtain ⟨e1, e2, e3, e4⟩ := e
  obtain ⟨h1, h2, h3, h4, h5⟩ := h
  obtain ⟨l1, l2⟩ := aL_le_get e2
  refine ⟨h1.trans (Nat.eq_of_beq_eq_true e1), ⟨h2.1.trans l1, fun i b hb => ?_⟩, al_le_ok e3 h3, ah_le_ok e4 h4, h5⟩
  obtain ⟨a, ha, hle⟩ := l2 i b hb
  obtain ⟨v, hv, hok⟩ := h2.2 i a ha
  exact ⟨v, hv, av_le_ok hle hok⟩
/-- runs that stop at the states of Z -/
def sg_run (Z : List ast) (K : kn) (T : pm_Tab) (B : Nat → ac) (sz : Nat) (F : fr_F) (J : Nat → ast → ast → Bool) (jo : Nat → ar → ar → Bool) (P : Nat → Nat → List sp) : Nat → Nat → Nat → Nat → List ast → List ar → Option (List ar)
  | 0, _, _, _, _, _ => none
  | n + 1, fr, lo, k, W, R => match W with
    | [] => some R
    | s :: W => cond (Z.any (fun z => ast_le B s z)) (sg_run Z K T B sz F J jo P n fr lo k W R) (match cx_each (cx_one T B sz F (fun fr lo t as o => match K t as o with
        | some (Rc, Fr, Lo) => if Fr ≤ fr ∧ Lo ≤ lo then some Rc else none
        | none => cx_run K T B sz F J jo P n fr lo t [(0, aa_l0 as (pm_max T t), [], o)] []) fr lo k) (sp_all B sz (P k s.1) [s]) with
      | some (A, ss) => sg_run Z K T B sz F J jo P n fr lo k (cx_all B (J k) ss W) (cx_outs B (jo k) A R)
      | none => none)
theorem sg_run_ok {Z : List ast} {F F0 : fr_F} {PP : pm_H → Prop} (hF0 : ∀ h h', fm F0 h h' → fm F h h') (hPP : pp_ok F0 PP) {K : kn} (hK : kn_ok K T B sz F PP) {J : Nat → ast → ast → Bool} {jo : Nat → ar → ar → Bool} {P : Nat → Nat → List sp} : ∀ (n fr lo k : Nat) (W : List ast) (R R' : List ar), sg_run Z K T B sz F0 J jo P n fr lo k W R = some R' → (∀ x, (∃ r, r ∈ R ∧ ar_ok B sz sl r x) → ∃ r, r ∈ R' ∧ ar_ok B sz sl r x) ∧ ∀ st, (∃ s, s ∈ W ∧ ast_ok B sz sl s st) → PP st.2.2.2.1 → ∀ Q : pm_Rs → Prop, (∀ x, (∃ r, r ∈ R' ∧ ar_ok B sz sl r x) → fm F st.2.2.2.1 x.2.1 → PP x.2.1 → Q x) → (∀ st', (∃ z, z ∈ Z ∧ ast_ok B sz sl z st') → fm F st.2.2.2.1 st'.2.2.2.1 → PP st'.2.2.2.1 → pm_WP T fr lo k st' Q) → pm_WP T fr lo k st Q
  | 0, _, _, _, _, _, _, e => by cases e
  | n + 1, fr, lo, k, W, R, R', e => by
    unfold sg_run at e
    match W, e with
    | [], e =>
      cases (Option.some.inj e : R = R')
      exact ⟨fun x h => h, fun st h => by obtain ⟨s, hs, _⟩ := h; cases hs⟩
    | s :: W, e =>
      dsimp only at e
      cases hz : Z.any (fun z => ast_le B s z) with
      | true =>
        rw [hz] at e
        dsimp only [cond] at e
        obtain ⟨i1, i2⟩ := sg_run_ok hF0 hPP hK n fr lo k _ _ R' e
        refine ⟨i1, fun st h hp Q hQ hS => ?_⟩
        obtain ⟨s', hs', hok⟩ := h
        rcases List.mem_cons.mp hs' with rfl | hs'
        · obtain ⟨z, hzm, hzl⟩ := List.any_eq_true.mp hz
          exact hS st ⟨z, hzm, ast_le_ok hzl hok⟩ (fm_rf _) hp
        · exact i2 st ⟨s', hs', hok⟩ hp Q hQ hS
      | false =>
        rw [hz] at e
        dsimp only [cond] at e
        split at e
        · rename_i A ss es
          obtain ⟨i1, i2⟩ := sg_run_ok hF0 hPP hK n fr lo k _ _ R' e
          refine ⟨fun x h => i1 x (cx_outs_ok (Or.inr h)), fun st h hp Q hQ hS => ?_⟩
          obtain ⟨s', hs', hok⟩ := h
          rcases List.mem_cons.mp hs' with rfl | hs'
          · obtain ⟨t, ht, htok⟩ := sp_all_ok (P k s'.1) [s'] ⟨s', List.mem_singleton_self _, hok⟩
            rcases cx_each_mem es t ht with ⟨a, h1, h2⟩ | ⟨st2, h1, h2⟩
            · unfold cx_one at h1
              split at h1
              · rename_i r ee
                cases h1
                obtain ⟨q, e1, e2⟩ := aE_end_ok ee htok
                have hh : q.2.1 = st.2.2.2.1 := by
                  unfold pm_end at e1
                  split at e1
                  · cases e1
                  · split at e1
                    · split at e1
                      · cases e1; rfl
                      · cases e1
                    · cases e1
                refine wp_end e1 (hQ q (i1 q (cx_outs_ok (Or.inl ⟨_, h2, e2⟩))) ?_ ?_)
                · rw [hh]; exact fm_rf _
                · rw [hh]; exact hp
              · split at h1
                · cases h1
                · cases h1
            · unfold cx_one at h1
              split at h1
              · cases h1
              · split at h1
                · rename_i ss2 ee
                  cases h1
                  refine cx_step_ok hF0 hPP ?_ ee htok hp (fun st' hst' hf' hp' => ?_)
                  · intro fr lo t as o Rc ego As h hAs hh hph
                    split at ego
                    · rename_i Rc' Fr Lo ek
                      split at ego
                      · rename_i hfl
                        cases ego
                        exact hK t as o Rc Fr Lo ek As h fr lo sl hAs hh hph hfl.1 hfl.2
                      · cases ego
                    · exact (cx_run_ok hF0 hPP hK n fr lo t _ [] Rc ego).2 _ ⟨_, List.mem_singleton_self _, rfl, al_l0 hAs _, trivial, hh, rfl, rfl⟩ hph
                  · obtain ⟨u, hu, huok⟩ := hst'
                    exact i2 st' (cx_all_ok (Or.inl ⟨u, h2 u hu, huok⟩)) hp' Q (fun x hx hfx => hQ x hx (fm_tr hf' hfx)) (fun st2 hz2 hf2 => hS st2 hz2 (fm_tr hf' hf2))
                · cases h1
          · exact i2 st (cx_all_ok (Or.inr ⟨s', hs', hok⟩)) hp Q hQ hS
        · cases e
/-- from the states of W the method ends as the contract says -/
def seg_ok (T : pm_Tab) (B : Nat → ac) (sz : Nat) (F : fr_F) (PP : pm_H → Prop) (c : con) (W : List ast) : Prop := ∀ (st : pm_St) (fr lo sl : Nat), (∃ s, s ∈ W ∧ ast_ok B sz sl s st) → PP st.2.2.2.1 → c.2.2.2.2.2.1 ≤ fr → c.2.2.2.2.2.2.1 ≤ lo → pm_WP T fr lo c.1 st (fun x => (∃ a, a ∈ c.2.2.2.1 ∧ ao_ok x.1 a) ∧ x.2.2 = (sz, sl) ∧ (fm F st.2.2.2.1 x.2.1 ∧ PP x.2.1) ∧ ah_ok B sz c.2.2.2.2.1 x.2.1)
def seg_chk (Z : List ast) (K : kn) (T : pm_Tab) (B : Nat → ac) (sz : Nat) (F : fr_F) (J : Nat → ast → ast → Bool) (jo : Nat → ar → ar → Bool) (P : Nat → Nat → List sp) (n : Nat) (c : con) (W : List ast) : Bool := match sg_run Z K T B sz F J jo P n c.2.2.2.2.2.1 c.2.2.2.2.2.2.1 c.1 W [] with
  | some R => R.all (fun r => c.2.2.2.1.any (fun a => ao_le r.1 a) && ah_le B r.2 c.2.2.2.2.1)
  | none => false
theorem seg_nil {F : fr_F} {PP : pm_H → Prop} {c : con} : seg_ok T B sz F PP c [] := fun st fr lo sl h => by obtain ⟨s, hs, _⟩ := h; cases hs
theorem seg_chk_ok {F F0 : fr_F} {PP : pm_H → Prop} (hF0 : ∀ h h', fm F0 h h' → fm F h h') (hPP : pp_ok F0 PP) {K : kn} (hK : kn_ok K T B sz F PP) {J : Nat → ast → ast → Bool} {jo : Nat → ar → ar → Bool} {P : Nat → Nat → List sp} {n : Nat} {c : con} {Z W : List ast} (hZ : seg_ok T B sz F PP c Z) (e : seg_chk Z K T B sz F0 J jo P n c W = true) : seg_ok T B sz F PP c W := by
  intro st fr lo sl hst hp hF hL
  unfold seg_chk at e
  split at e
  · rename_i R eR
    refine wp_room hF hL ?_
    refine (sg_run_ok (sl := sl) hF0 hPP hK n _ _ c.1 W [] R eR).2 st hst hp _ (fun x hx hfx hpx => ?_) (fun st' hz hf' hp' => ?_)
    · obtain ⟨r, hr, q1, q2, q3, q4⟩ := hx
      have er := List.all_eq_true.mp e r hr
      rw [Bool.and_eq_true] at er
      obtain ⟨a, ha, hle⟩ := List.any_eq_true.mp er.1
      exact ⟨⟨a, ha, ao_le_ok hle q1⟩, Prod.ext q3 q4, ⟨hfx, hpx⟩, ah_le_ok er.2 q2⟩
    · exact wp_mono (hZ st' _ _ sl hz hp' (Nat.le_refl _) (Nat.le_refl _)) (fun x hx => ⟨hx.1, hx.2.1, ⟨fm_tr hf' hx.2.2.1.1, hx.2.2.1.2⟩, hx.2.2.2⟩)
  · cases e
/-- the contract, out of the pieces -/
theorem seg_con {F : fr_F} {PP : pm_H → Prop} {c : con} (hk : c.2.2.2.2.2.2.2 = false) {ps : List sp} (h : seg_ok T B sz F PP c (sp_all B sz ps [(0, aa_l0 c.2.1 (pm_max T c.1), [], c.2.2.1)])) : con_ok T B sz F PP c := by
  intro As h' fr lo sl hAs hh hp hF hL
  obtain ⟨t, ht, htok⟩ := sp_all_ok (B := B) (sz := sz) (sl := sl) (st := (0, pm_l0 As (pm_max T c.1), [], h', sz, sl)) ps [(0, aa_l0 c.2.1 (pm_max T c.1), [], c.2.2.1)] ⟨_, List.mem_singleton_self _, rfl, al_l0 hAs _, trivial, hh, rfl, rfl⟩
  refine wp_mono (h _ fr lo sl ⟨t, ht, htok⟩ hp hF hL) (fun x hx => ⟨hx.1, hx.2.1, hx.2.2.1, ?_⟩)
  rw [hk]
  exact hx.2.2.2
theorem seg_split {F : fr_F} {PP : pm_H → Prop} {c : con} {l : List ast} (n : Nat) (h1 : seg_ok T B sz F PP c (l.take n)) (h2 : seg_ok T B sz F PP c (l.drop n)) : seg_ok T B sz F PP c l := by
  intro st fr lo sl hst hp hF hL
  obtain ⟨s, hs, hok⟩ := hst
  rw [← List.take_append_drop n l] at hs
  rcases List.mem_append.mp hs with hs | hs
  · exact h1 st fr lo sl ⟨s, hs, hok⟩ hp hF hL
  · exact h2 st fr lo sl ⟨s, hs, hok⟩ hp hF hL
theorem seg_sub {F : fr_F} {PP : pm_H → Prop} {c : con} {l l' : List ast} (h : seg_ok T B sz F PP c l') (hs : l.all (fun s => l'.any (fun t => ast_le B s t)) = true) : seg_ok T B sz F PP c l := by
  intro st fr lo sl hst hp hF hL
  obtain ⟨s, hs1, hok⟩ := hst
  obtain ⟨t, ht, hle⟩ := List.any_eq_true.mp (List.all_eq_true.mp hs s hs1)
  exact h st fr lo sl ⟨t, ht, ast_le_ok hle hok⟩ hp hF hL
end SEG
end MG48segx0
section MG48segx1
/-! long runs in pieces, quicker -/
section SGF
variable {T : pm_Tab} {B : Nat → ac} {sz : Nat} {F : fr_F}
noncomputable def fq_aLle (as bs : List (Option av)) : Bool := List.rec (motive := fun _ => List (Option av) → Bool) (fun bs => List.rec (motive := fun _ => Bool) true (fun _ _ _ => false) bs) (fun a _ ih bs => List.rec (motive := fun _ => Bool) false (fun b t _ => Bool.rec (motive := fun _ => Bool) false (ih t) (Option.rec (motive := fun _ => Bool) true (fun b => Option.rec (motive := fun _ => Bool) false (fun a => fq_avle a b) a) b)) bs) as bs
theorem fq_aLle_eq : ∀ as bs : List (Option av), fq_aLle as bs = aL_le as bs
  | [], [] => rfl
  | [], _ :: _ => rfl
  | _ :: _, [] => rfl
  | a :: r, b :: t => by
    have h := fq_aLle_eq r t
    unfold aL_le
    rw [← h]
    show Bool.rec (motive := fun _ => Bool) false (fq_aLle r t) (Option.rec (motive := fun _ => Bool) true (fun b => Option.rec (motive := fun _ => Bool) false (fun a => fq_avle a b) a) b) = _
    cases b with
    | none => cases a <;> rfl
    | some b =>
      cases a with
      | none => rfl
      | some a =>
        show Bool.rec (motive := fun _ => Bool) false (fq_aLle r t) (fq_avle a b) = (av_le a b && fq_aLle r t)
        rw [fq_avle_eq]
        cases av_le a b <;> rfl
noncomputable def fq_astle (B : Nat → ac) (s t : ast) : Bool := fq_and (Nat.beq s.1 t.1) (fq_and (fq_aLle s.2.1 t.2.1) (fq_and (fq_alle s.2.2.1 t.2.2.1) (fq_ahle B s.2.2.2 t.2.2.2)))
theorem fq_astle_eq (s t : ast) : fq_astle B s t = ast_le B s t := by
  unfold fq_astle ast_le
  rw [fq_and_eq, fq_and_eq, fq_and_eq, fq_aLle_eq, fq_alle_eq, fq_ahle_eq]
noncomputable def fq_sg (Z : List ast) (K : kn) (T : pm_Tab) (B : Nat → ac) (sz : Nat) (F : fr_F) (J : Nat → ast → ast → Bool) (jo : Nat → ar → ar → Bool) (P : Nat → Nat → List sp) (n : Nat) : Nat → Nat → Nat → List ast → List ar → Option (List ar) := Nat.rec (motive := fun _ => Nat → Nat → Nat → List ast → List ar → Option (List ar)) (fun _ _ _ _ _ => none) (fun n ih fr lo k W R => List.rec (motive := fun _ => Option (List ar)) (some R) (fun s W _ => Bool.rec (motive := fun _ => Option (List ar)) (Option.rec (motive := fun _ => Option (List ar)) none (fun p => fq_k B J jo ih fr lo k W R p) (fq_each (fq_one T B sz F (fq_go K T (fq_run K T B sz F J jo P n)) fr lo k) (fq_cut B sz s (fq_n s.1 (P k))))) (fq_t ih fr lo k W R) (fq_any (fun z => fq_astle B s z) Z)) W) n
theorem fq_sg_eq (Z : List ast) (K : kn) (T : pm_Tab) (B : Nat → ac) (sz : Nat) (F : fr_F) (J : Nat → ast → ast → Bool) (jo : Nat → ar → ar → Bool) (P : Nat → Nat → List sp) : ∀ n : Nat, fq_sg Z K T B sz F J jo P n = sg_run Z K T B sz F J jo P n
  | 0 => by
    funext fr lo k W R
    unfold sg_run
    rfl
  | n + 1 => by
    have h := fq_sg_eq Z K T B sz F J jo P n
    funext fr lo k W R
    unfold sg_run
    show List.rec (motive := fun _ => Option (List ar)) (some R) (fun s W _ => Bool.rec (motive := fun _ => Option (List ar)) (Option.rec (motive := fun _ => Option (List ar)) none (fun p => fq_k B J jo (fq_sg Z K T B sz F J jo P n) fr lo k W R p) (fq_each (fq_one T B sz F (fq_go K T (fq_run K T B sz F J jo P n)) fr lo k) (fq_cut B sz s (fq_n s.1 (P k))))) (fq_t (fq_sg Z K T B sz F J jo P n) fr lo k W R) (fq_any (fun z => fq_astle B s z) Z)) W = _
    cases W with
    | nil => rfl
    | cons s W =>
      dsimp only
      have hf : fq_one T B sz F (fq_go K T (fq_run K T B sz F J jo P n)) fr lo k = cx_one T B sz F (fun fr lo t as o => match K t as o with
          | some (Rc, Fr, Lo) => if Fr ≤ fr ∧ Lo ≤ lo then some Rc else none
          | none => cx_run K T B sz F J jo P n fr lo t [(0, aa_l0 as (pm_max T t), [], o)] []) fr lo k := by
        funext s
        rw [fq_one_eq, fq_go_eq (fq_run_eq K T B sz F J jo P n)]
        rfl
      have hz : (fun z => fq_astle B s z) = fun z => ast_le B s z := funext fun z => fq_astle_eq s z
      rw [hf, fq_each_eq, fq_cut_eq, fq_n_eq, h, fq_any_eq, hz]
      cases Z.any (fun z => ast_le B s z) with
      | true => rfl
      | false =>
        dsimp only [cond]
        cases cx_each (cx_one T B sz F (fun fr lo t as o => match K t as o with
            | some (Rc, Fr, Lo) => if Fr ≤ fr ∧ Lo ≤ lo then some Rc else none
            | none => cx_run K T B sz F J jo P n fr lo t [(0, aa_l0 as (pm_max T t), [], o)] []) fr lo k) (sp_all B sz (P k s.1) [s]) with
        | none => rfl
        | some p =>
          obtain ⟨A, ss⟩ := p
          exact fq_k_eq J jo _ fr lo k W R A ss
variable {K K' : kn} {J : Nat → ast → ast → Bool} {jo : Nat → ar → ar → Bool} {P : Nat → Nat → List sp} {n : Nat} {c : con} {l : List con} {Z W : List ast}
noncomputable def fq_fin2 (B : Nat → ac) (c : con) (R : Option (List ar)) : Bool := Option.rec (motive := fun _ => Bool) false (fun R => fq_all (fun r => fq_and (c.2.2.2.1.any (fun a => ao_le r.1 a)) (fq_ahle B r.2 c.2.2.2.2.1)) R) R
theorem fq_fin2_eq (c : con) (R : Option (List ar)) : fq_fin2 B c R = (match R with
    | some R => R.all (fun r => c.2.2.2.1.any (fun a => ao_le r.1 a) && ah_le B r.2 c.2.2.2.2.1)
    | none => false) := by
  cases R with
  | none => rfl
  | some R =>
    show fq_all (fun r => fq_and (c.2.2.2.1.any (fun a => ao_le r.1 a)) (fq_ahle B r.2 c.2.2.2.2.1)) R = _
    rw [fq_all_eq]
    have h : (fun r : ar => fq_and (c.2.2.2.1.any (fun a => ao_le r.1 a)) (fq_ahle B r.2 c.2.2.2.2.1)) = fun r => c.2.2.2.1.any (fun a => ao_le r.1 a) && ah_le B r.2 c.2.2.2.2.1 := funext fun r => by
      rw [fq_and_eq, fq_ahle_eq]
    rw [h]
noncomputable def fq_seg (Z : List ast) (K : kn) (T : pm_Tab) (B : Nat → ac) (sz : Nat) (F : fr_F) (J : Nat → ast → ast → Bool) (jo : Nat → ar → ar → Bool) (P : Nat → Nat → List sp) (n : Nat) (c : con) (W : List ast) : Bool := fq_fin2 B c (fq_sg Z K T B sz F J jo P n c.2.2.2.2.2.1 c.2.2.2.2.2.2.1 c.1 W [])
variable {J' : Nat → ast → ast → Bool} {jo' : Nat → ar → ar → Bool}
theorem fq_seg_eq (hK : K = K') (hJ : J = J') (ho : jo = jo') (h : fq_seg Z K T B sz F J jo P n c W = true) : seg_chk Z K' T B sz F J' jo' P n c W = true := by
  subst hK
  subst hJ
  subst ho
  unfold fq_seg at h
  rw [fq_fin2_eq, fq_sg_eq] at h
  exact h
theorem fq_seg1 (hJ : J = J') (ho : jo = jo') (h : fq_seg Z (fq_kl B F l) T B sz F J jo P n c W = true) : seg_chk Z (kl B F l) T B sz F J' jo' P n c W = true := fq_seg_eq (fq_kl_eq l) hJ ho h
theorem fq_seg2 {F' : fr_F} (hJ : J = J') (ho : jo = jo') (h : fq_seg Z (fq_or (fq_kl B F' l) K) T B sz F J jo P n c W = true) : seg_chk Z (kn_or (kl B F' l) K) T B sz F J' jo' P n c W = true := fq_seg_eq (fq_or_eq (fq_kl_eq l)) hJ ho h
theorem fq_seg3 (hJ : J = J') (ho : jo = jo') (h : fq_seg Z K T B sz F J jo P n c W = true) : seg_chk Z K T B sz F J' jo' P n c W = true := fq_seg_eq rfl hJ ho h
end SGF
end MG48segx1
end MH47cx03x8
section MH47cx03x9
/-! contracts in pieces -/
def cxt169 : con := (50, [(2, 148, 1), (0, 0, 5), (0, 0, 5), (0, (-2147483648), 2147483647), (0, (-2147483648), 2147483647)], [], [some (0, (-2), 99)], [], 10, 800, false)
def cxz169_1 : List ast := [(38, [some (2, 148, 1), some (0, 0, 5), some (0, 0, 5), some (0, (-2147483648), 2147483647), some (0, (-2147483648), 2147483647), some (0, 20, 20), none], [], [])]
def cxz169_2 : List ast := [(38, [some (2, 148, 1), some (0, 0, 5), some (0, 0, 5), some (0, (-2147483648), 2147483647), some (0, (-2147483648), 2147483647), some (0, 40, 40), none], [], [])]
def cxz169_3 : List ast := [(38, [some (2, 148, 1), some (0, 0, 5), some (0, 0, 5), some (0, (-2147483648), 2147483647), some (0, (-2147483648), 2147483647), some (0, 60, 60), none], [], [])]
def cxz169_4 : List ast := [(38, [some (2, 148, 1), some (0, 0, 5), some (0, 0, 5), some (0, (-2147483648), 2147483647), some (0, (-2147483648), 2147483647), some (0, 80, 80), none], [], [])]
theorem cxs169_4 : seg_chk [] (kl bB cxF [cxt159, cxt160, cxt161, cxt162, cxt163, cxt164, cxt165, cxt166, cxt167, cxt168]) PT bB 198 cxF cxJ cxjo cxP 17719 cxt169 cxz169_4 = true := fq_seg1 (fq_jn_eq _) rfl (by decide +kernel)
theorem cxs169_3 : seg_chk cxz169_4 (kl bB cxF [cxt159, cxt160, cxt161, cxt162, cxt163, cxt164, cxt165, cxt166, cxt167, cxt168]) PT bB 198 cxF cxJ cxjo cxP 17719 cxt169 cxz169_3 = true := fq_seg1 (fq_jn_eq _) rfl (by decide +kernel)
theorem cxs169_2 : seg_chk cxz169_3 (kl bB cxF [cxt159, cxt160, cxt161, cxt162, cxt163, cxt164, cxt165, cxt166, cxt167, cxt168]) PT bB 198 cxF cxJ cxjo cxP 17719 cxt169 cxz169_2 = true := fq_seg1 (fq_jn_eq _) rfl (by decide +kernel)
theorem cxs169_1 : seg_chk cxz169_2 (kl bB cxF [cxt159, cxt160, cxt161, cxt162, cxt163, cxt164, cxt165, cxt166, cxt167, cxt168]) PT bB 198 cxF cxJ cxjo cxP 17719 cxt169 cxz169_1 = true := fq_seg1 (fq_jn_eq _) rfl (by decide +kernel)
theorem cxs169_0 : seg_chk cxz169_1 (kl bB cxF [cxt159, cxt160, cxt161, cxt162, cxt163, cxt164, cxt165, cxt166, cxt167, cxt168]) PT bB 198 cxF cxJ cxjo cxP 17719 cxt169 (sp_all bB 198 [] [(0, aa_l0 cxt169.2.1 (pm_max PT cxt169.1), [], cxt169.2.2.1)]) = true := fq_seg1 (fq_jn_eq _) rfl (by decide +kernel)
theorem cxo169 : con_ok PT bB 198 cxF cxQ cxt169 := seg_con rfl (ps := []) (seg_chk_ok (fun _ _ h => h) cxpp (kl_ok (List.forall_mem_cons.mpr ⟨cxo159, List.forall_mem_cons.mpr ⟨cxo160, List.forall_mem_cons.mpr ⟨cxo161, List.forall_mem_cons.mpr ⟨cxo162, List.forall_mem_cons.mpr ⟨cxo163, List.forall_mem_cons.mpr ⟨cxo164, List.forall_mem_cons.mpr ⟨cxo165, List.forall_mem_cons.mpr ⟨cxo166, List.forall_mem_cons.mpr ⟨cxo167, List.forall_mem_cons.mpr ⟨cxo168, fun _ h => (by cases h)⟩⟩⟩⟩⟩⟩⟩⟩⟩⟩)) (seg_chk_ok (fun _ _ h => h) cxpp (kl_ok (List.forall_mem_cons.mpr ⟨cxo159, List.forall_mem_cons.mpr ⟨cxo160, List.forall_mem_cons.mpr ⟨cxo161, List.forall_mem_cons.mpr ⟨cxo162, List.forall_mem_cons.mpr ⟨cxo163, List.forall_mem_cons.mpr ⟨cxo164, List.forall_mem_cons.mpr ⟨cxo165, List.forall_mem_cons.mpr ⟨cxo166, List.forall_mem_cons.mpr ⟨cxo167, List.forall_mem_cons.mpr ⟨cxo168, fun _ h => (by cases h)⟩⟩⟩⟩⟩⟩⟩⟩⟩⟩)) (seg_chk_ok (fun _ _ h => h) cxpp (kl_ok (List.forall_mem_cons.mpr ⟨cxo159, List.forall_mem_cons.mpr ⟨cxo160, List.forall_mem_cons.mpr ⟨cxo161, List.forall_mem_cons.mpr ⟨cxo162, List.forall_mem_cons.mpr ⟨cxo163, List.forall_mem_cons.mpr ⟨cxo164, List.forall_mem_cons.mpr ⟨cxo165, List.forall_mem_cons.mpr ⟨cxo166, List.forall_mem_cons.mpr ⟨cxo167, List.forall_mem_cons.mpr ⟨cxo168, fun _ h => (by cases h)⟩⟩⟩⟩⟩⟩⟩⟩⟩⟩)) (seg_chk_ok (fun _ _ h => h) cxpp (kl_ok (List.forall_mem_cons.mpr ⟨cxo159, List.forall_mem_cons.mpr ⟨cxo160, List.forall_mem_cons.mpr ⟨cxo161, List.forall_mem_cons.mpr ⟨cxo162, List.forall_mem_cons.mpr ⟨cxo163, List.forall_mem_cons.mpr ⟨cxo164, List.forall_mem_cons.mpr ⟨cxo165, List.forall_mem_cons.mpr ⟨cxo166, List.forall_mem_cons.mpr ⟨cxo167, List.forall_mem_cons.mpr ⟨cxo168, fun _ h => (by cases h)⟩⟩⟩⟩⟩⟩⟩⟩⟩⟩)) (seg_chk_ok (fun _ _ h => h) cxpp (kl_ok (List.forall_mem_cons.mpr ⟨cxo159, List.forall_mem_cons.mpr ⟨cxo160, List.forall_mem_cons.mpr ⟨cxo161, List.forall_mem_cons.mpr ⟨cxo162, List.forall_mem_cons.mpr ⟨cxo163, List.forall_mem_cons.mpr ⟨cxo164, List.forall_mem_cons.mpr ⟨cxo165, List.forall_mem_cons.mpr ⟨cxo166, List.forall_mem_cons.mpr ⟨cxo167, List.forall_mem_cons.mpr ⟨cxo168, fun _ h => (by cases h)⟩⟩⟩⟩⟩⟩⟩⟩⟩⟩)) seg_nil cxs169_4) cxs169_3) cxs169_2) cxs169_1) cxs169_0)
end MH47cx03x9
