/-! contracts -/
def cxt11 : con := (11, [(2, 151, 1), (0, 0, 0)], [], [some (0, (-2147483648), 2147483647)], [], 5, 400, false)
theorem cxk11 : con_chk (kl bB cxF []) PT bB 198 cxF cxJ cxjo cxP 423 cxt11 = true := fq_chk1 (fq_jn_eq _) rfl (by decide +kernel)   -- X1_fewestPayments
theorem cxo11 : con_ok PT bB 198 cxF cxQ cxt11 := con_chk_ok (fun _ _ h => h) cxpp (kl_ok (fun _ h => (by cases h))) nw_class (fun h => by cases h) cxk11
def cxt12 : con := (13, [(2, 151, 1), (2, 13, 1), (0, 2, 2), (0, 2, 2), (0, 0, 79)], [], [some (0, 0, 1)], [], 5, 400, false)
theorem cxk12 : con_chk (kl bB cxF []) PT bB 198 cxF cxJ cxjo cxP 436 cxt12 = true := fq_chk1 (fq_jn_eq _) rfl (by decide +kernel)   -- X1_closes
theorem cxo12 : con_ok PT bB 198 cxF cxQ cxt12 := con_chk_ok (fun _ _ h => h) cxpp (kl_ok (fun _ h => (by cases h))) nw_class (fun h => by cases h) cxk12
def cxt13 : con := (13, [(2, 151, 1), (2, 13, 1), (0, 2, 2), (0, 1, 1), (0, 1, 35)], [], [some (0, 0, 1)], [], 10, 800, false)
theorem cxk13 : con_chk (kl bB cxF [cxt12]) PT bB 198 cxF cxJ cxjo cxP 685 cxt13 = true := fq_chk1 (fq_jn_eq _) rfl (by decide +kernel)   -- X1_closes
theorem cxo13 : con_ok PT bB 198 cxF cxQ cxt13 := con_chk_ok (fun _ _ h => h) cxpp (kl_ok (List.forall_mem_cons.mpr ⟨cxo12, fun _ h => (by cases h)⟩)) nw_class (fun h => by cases h) cxk13
def cxt14 : con := (13, [(2, 151, 1), (2, 13, 1), (0, 3, 3), (0, 3, 3), (0, 0, 127)], [], [some (0, 0, 1)], [], 5, 400, false)
theorem cxk14 : con_chk (kl bB cxF []) PT bB 198 cxF cxJ cxjo cxP 436 cxt14 = true := fq_chk1 (fq_jn_eq _) rfl (by decide +kernel)   -- X1_closes
theorem cxo14 : con_ok PT bB 198 cxF cxQ cxt14 := con_chk_ok (fun _ _ h => h) cxpp (kl_ok (fun _ h => (by cases h))) nw_class (fun h => by cases h) cxk14
def cxt15 : con := (13, [(2, 151, 1), (2, 13, 1), (0, 3, 3), (0, 2, 2), (0, 0, 79)], [], [some (0, 0, 1)], [], 10, 800, false)
theorem cxk15 : con_chk (kl bB cxF [cxt14]) PT bB 198 cxF cxJ cxjo cxP 685 cxt15 = true := fq_chk1 (fq_jn_eq _) rfl (by decide +kernel)   -- X1_closes
theorem cxo15 : con_ok PT bB 198 cxF cxQ cxt15 := con_chk_ok (fun _ _ h => h) cxpp (kl_ok (List.forall_mem_cons.mpr ⟨cxo14, fun _ h => (by cases h)⟩)) nw_class (fun h => by cases h) cxk15
def cxt16 : con := (13, [(2, 151, 1), (2, 13, 1), (0, 3, 3), (0, 1, 1), (0, 1, 35)], [], [some (0, 0, 1)], [], 15, 1200, false)
theorem cxk16 : con_chk (kl bB cxF [cxt15]) PT bB 198 cxF cxJ cxjo cxP 685 cxt16 = true := fq_chk1 (fq_jn_eq _) rfl (by decide +kernel)   -- X1_closes
theorem cxo16 : con_ok PT bB 198 cxF cxQ cxt16 := con_chk_ok (fun _ _ h => h) cxpp (kl_ok (List.forall_mem_cons.mpr ⟨cxo15, fun _ h => (by cases h)⟩)) nw_class (fun h => by cases h) cxk16
def cxt17 : con := (13, [(2, 151, 1), (2, 13, 1), (0, 4, 4), (0, 4, 4), (0, 0, 255)], [], [some (0, 0, 1)], [], 5, 400, false)
theorem cxk17 : con_chk (kl bB cxF []) PT bB 198 cxF cxJ cxjo cxP 436 cxt17 = true := fq_chk1 (fq_jn_eq _) rfl (by decide +kernel)   -- X1_closes
theorem cxo17 : con_ok PT bB 198 cxF cxQ cxt17 := con_chk_ok (fun _ _ h => h) cxpp (kl_ok (fun _ h => (by cases h))) nw_class (fun h => by cases h) cxk17
def cxt18 : con := (13, [(2, 151, 1), (2, 13, 1), (0, 4, 4), (0, 3, 3), (0, 0, 127)], [], [some (0, 0, 1)], [], 10, 800, false)
theorem cxk18 : con_chk (kl bB cxF [cxt17]) PT bB 198 cxF cxJ cxjo cxP 685 cxt18 = true := fq_chk1 (fq_jn_eq _) rfl (by decide +kernel)   -- X1_closes
theorem cxo18 : con_ok PT bB 198 cxF cxQ cxt18 := con_chk_ok (fun _ _ h => h) cxpp (kl_ok (List.forall_mem_cons.mpr ⟨cxo17, fun _ h => (by cases h)⟩)) nw_class (fun h => by cases h) cxk18
def cxt19 : con := (13, [(2, 151, 1), (2, 13, 1), (0, 4, 4), (0, 2, 2), (0, 0, 79)], [], [some (0, 0, 1)], [], 15, 1200, false)
theorem cxk19 : con_chk (kl bB cxF [cxt18]) PT bB 198 cxF cxJ cxjo cxP 685 cxt19 = true := fq_chk1 (fq_jn_eq _) rfl (by decide +kernel)   -- X1_closes
theorem cxo19 : con_ok PT bB 198 cxF cxQ cxt19 := con_chk_ok (fun _ _ h => h) cxpp (kl_ok (List.forall_mem_cons.mpr ⟨cxo18, fun _ h => (by cases h)⟩)) nw_class (fun h => by cases h) cxk19
def cxt20 : con := (13, [(2, 151, 1), (2, 13, 1), (0, 4, 4), (0, 1, 1), (0, 1, 35)], [], [some (0, 0, 1)], [], 20, 1600, false)
theorem cxk20 : con_chk (kl bB cxF [cxt19]) PT bB 198 cxF cxJ cxjo cxP 685 cxt20 = true := fq_chk1 (fq_jn_eq _) rfl (by decide +kernel)   -- X1_closes
theorem cxo20 : con_ok PT bB 198 cxF cxQ cxt20 := con_chk_ok (fun _ _ h => h) cxpp (kl_ok (List.forall_mem_cons.mpr ⟨cxo19, fun _ h => (by cases h)⟩)) nw_class (fun h => by cases h) cxk20
def cxt21 : con := (13, [(2, 151, 1), (2, 13, 1), (0, 5, 5), (0, 5, 5), (0, 0, 511)], [], [some (0, 0, 1)], [], 5, 400, false)
theorem cxk21 : con_chk (kl bB cxF []) PT bB 198 cxF cxJ cxjo cxP 436 cxt21 = true := fq_chk1 (fq_jn_eq _) rfl (by decide +kernel)   -- X1_closes
theorem cxo21 : con_ok PT bB 198 cxF cxQ cxt21 := con_chk_ok (fun _ _ h => h) cxpp (kl_ok (fun _ h => (by cases h))) nw_class (fun h => by cases h) cxk21
def cxt22 : con := (13, [(2, 151, 1), (2, 13, 1), (0, 5, 5), (0, 4, 4), (0, 0, 255)], [], [some (0, 0, 1)], [], 10, 800, false)
theorem cxk22 : con_chk (kl bB cxF [cxt21]) PT bB 198 cxF cxJ cxjo cxP 685 cxt22 = true := fq_chk1 (fq_jn_eq _) rfl (by decide +kernel)   -- X1_closes
theorem cxo22 : con_ok PT bB 198 cxF cxQ cxt22 := con_chk_ok (fun _ _ h => h) cxpp (kl_ok (List.forall_mem_cons.mpr ⟨cxo21, fun _ h => (by cases h)⟩)) nw_class (fun h => by cases h) cxk22
def cxt23 : con := (13, [(2, 151, 1), (2, 13, 1), (0, 5, 5), (0, 3, 3), (0, 0, 127)], [], [some (0, 0, 1)], [], 15, 1200, false)
theorem cxk23 : con_chk (kl bB cxF [cxt22]) PT bB 198 cxF cxJ cxjo cxP 685 cxt23 = true := fq_chk1 (fq_jn_eq _) rfl (by decide +kernel)   -- X1_closes
theorem cxo23 : con_ok PT bB 198 cxF cxQ cxt23 := con_chk_ok (fun _ _ h => h) cxpp (kl_ok (List.forall_mem_cons.mpr ⟨cxo22, fun _ h => (by cases h)⟩)) nw_class (fun h => by cases h) cxk23
def cxt24 : con := (13, [(2, 151, 1), (2, 13, 1), (0, 5, 5), (0, 2, 2), (0, 0, 79)], [], [some (0, 0, 1)], [], 20, 1600, false)
theorem cxk24 : con_chk (kl bB cxF [cxt23]) PT bB 198 cxF cxJ cxjo cxP 685 cxt24 = true := fq_chk1 (fq_jn_eq _) rfl (by decide +kernel)   -- X1_closes
theorem cxo24 : con_ok PT bB 198 cxF cxQ cxt24 := con_chk_ok (fun _ _ h => h) cxpp (kl_ok (List.forall_mem_cons.mpr ⟨cxo23, fun _ h => (by cases h)⟩)) nw_class (fun h => by cases h) cxk24
def cxt25 : con := (13, [(2, 151, 1), (2, 13, 1), (0, 5, 5), (0, 1, 1), (0, 1, 35)], [], [some (0, 0, 1)], [], 25, 2000, false)
theorem cxk25 : con_chk (kl bB cxF [cxt24]) PT bB 198 cxF cxJ cxjo cxP 685 cxt25 = true := fq_chk1 (fq_jn_eq _) rfl (by decide +kernel)   -- X1_closes
theorem cxo25 : con_ok PT bB 198 cxF cxQ cxt25 := con_chk_ok (fun _ _ h => h) cxpp (kl_ok (List.forall_mem_cons.mpr ⟨cxo24, fun _ h => (by cases h)⟩)) nw_class (fun h => by cases h) cxk25
def cxt26 : con := (13, [(2, 151, 1), (2, 13, 1), (0, 6, 6), (0, 6, 6), (0, 0, 599)], [], [some (0, 0, 1)], [], 5, 400, false)
theorem cxk26 : con_chk (kl bB cxF []) PT bB 198 cxF cxJ cxjo cxP 436 cxt26 = true := fq_chk1 (fq_jn_eq _) rfl (by decide +kernel)   -- X1_closes
theorem cxo26 : con_ok PT bB 198 cxF cxQ cxt26 := con_chk_ok (fun _ _ h => h) cxpp (kl_ok (fun _ h => (by cases h))) nw_class (fun h => by cases h) cxk26
def cxt27 : con := (13, [(2, 151, 1), (2, 13, 1), (0, 6, 6), (0, 5, 5), (0, 0, 511)], [], [some (0, 0, 1)], [], 10, 800, false)
theorem cxk27 : con_chk (kl bB cxF [cxt26]) PT bB 198 cxF cxJ cxjo cxP 685 cxt27 = true := fq_chk1 (fq_jn_eq _) rfl (by decide +kernel)   -- X1_closes
theorem cxo27 : con_ok PT bB 198 cxF cxQ cxt27 := con_chk_ok (fun _ _ h => h) cxpp (kl_ok (List.forall_mem_cons.mpr ⟨cxo26, fun _ h => (by cases h)⟩)) nw_class (fun h => by cases h) cxk27
def cxt28 : con := (13, [(2, 151, 1), (2, 13, 1), (0, 6, 6), (0, 4, 4), (0, 0, 255)], [], [some (0, 0, 1)], [], 15, 1200, false)
theorem cxk28 : con_chk (kl bB cxF [cxt27]) PT bB 198 cxF cxJ cxjo cxP 685 cxt28 = true := fq_chk1 (fq_jn_eq _) rfl (by decide +kernel)   -- X1_closes
theorem cxo28 : con_ok PT bB 198 cxF cxQ cxt28 := con_chk_ok (fun _ _ h => h) cxpp (kl_ok (List.forall_mem_cons.mpr ⟨cxo27, fun _ h => (by cases h)⟩)) nw_class (fun h => by cases h) cxk28
def cxt29 : con := (13, [(2, 151, 1), (2, 13, 1), (0, 6, 6), (0, 3, 3), (0, 0, 127)], [], [some (0, 0, 1)], [], 20, 1600, false)
theorem cxk29 : con_chk (kl bB cxF [cxt28]) PT bB 198 cxF cxJ cxjo cxP 685 cxt29 = true := fq_chk1 (fq_jn_eq _) rfl (by decide +kernel)   -- X1_closes
theorem cxo29 : con_ok PT bB 198 cxF cxQ cxt29 := con_chk_ok (fun _ _ h => h) cxpp (kl_ok (List.forall_mem_cons.mpr ⟨cxo28, fun _ h => (by cases h)⟩)) nw_class (fun h => by cases h) cxk29
def cxt30 : con := (13, [(2, 151, 1), (2, 13, 1), (0, 6, 6), (0, 2, 2), (0, 0, 79)], [], [some (0, 0, 1)], [], 25, 2000, false)
theorem cxk30 : con_chk (kl bB cxF [cxt29]) PT bB 198 cxF cxJ cxjo cxP 685 cxt30 = true := fq_chk1 (fq_jn_eq _) rfl (by decide +kernel)   -- X1_closes
theorem cxo30 : con_ok PT bB 198 cxF cxQ cxt30 := con_chk_ok (fun _ _ h => h) cxpp (kl_ok (List.forall_mem_cons.mpr ⟨cxo29, fun _ h => (by cases h)⟩)) nw_class (fun h => by cases h) cxk30
def cxt31 : con := (13, [(2, 151, 1), (2, 13, 1), (0, 6, 6), (0, 1, 1), (0, 1, 35)], [], [some (0, 0, 1)], [], 30, 2400, false)
theorem cxk31 : con_chk (kl bB cxF [cxt30]) PT bB 198 cxF cxJ cxjo cxP 685 cxt31 = true := fq_chk1 (fq_jn_eq _) rfl (by decide +kernel)   -- X1_closes
theorem cxo31 : con_ok PT bB 198 cxF cxQ cxt31 := con_chk_ok (fun _ _ h => h) cxpp (kl_ok (List.forall_mem_cons.mpr ⟨cxo30, fun _ h => (by cases h)⟩)) nw_class (fun h => by cases h) cxk31
def cxt32 : con := (12, [(2, 151, 1), (2, 13, 1)], [], [some (0, (-1), 6)], [], 35, 2800, false)
theorem cxk32 : con_chk (kl bB cxF [cxt13, cxt16, cxt20, cxt25, cxt31]) PT bB 198 cxF cxJ cxjo cxP 1169 cxt32 = true := fq_chk1 (fq_jn_eq _) rfl (by decide +kernel)   -- X1_shortestRing
theorem cxo32 : con_ok PT bB 198 cxF cxQ cxt32 := con_chk_ok (fun _ _ h => h) cxpp (kl_ok (List.forall_mem_cons.mpr ⟨cxo13, List.forall_mem_cons.mpr ⟨cxo16, List.forall_mem_cons.mpr ⟨cxo20, List.forall_mem_cons.mpr ⟨cxo25, List.forall_mem_cons.mpr ⟨cxo31, fun _ h => (by cases h)⟩⟩⟩⟩⟩)) nw_class (fun h => by cases h) cxk32
def cxt33 : con := (80, [(2, 1, 1), (0, (-2147483648), 2147483647), (0, 40, 60)], [], [some (0, (-1), 65535)], [], 5, 400, true)
theorem cxk33 : con_chk (kl bB cxF []) PT bB 198 cxF cxJ cxjo cxP 428 cxt33 = true := fq_chk1 (fq_jn_eq _) rfl (by decide +kernel)   -- X8_signAt
theorem cxo33 : con_ok PT bB 198 cxF cxQ cxt33 := con_chk_ok (fun _ _ h => h) cxpp (kl_ok (fun _ h => (by cases h))) nw_class (fun _ => by decide) cxk33
def cxt34 : con := (81, [(2, 1, 1), (0, (-2147483648), 2147483647), (0, 40, 60)], [], [some (0, (-1), 9)], [], 10, 800, true)
theorem cxk34 : con_chk (kl bB cxF [cxt33]) PT bB 198 cxF cxJ cxjo cxP 423 cxt34 = true := fq_chk1 (fq_jn_eq _) rfl (by decide +kernel)   -- X8_digitAt
theorem cxo34 : con_ok PT bB 198 cxF cxQ cxt34 := con_chk_ok (fun _ _ h => h) cxpp (kl_ok (List.forall_mem_cons.mpr ⟨cxo33, fun _ h => (by cases h)⟩)) nw_class (fun _ => by decide) cxk34
