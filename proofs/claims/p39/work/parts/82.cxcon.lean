/-! contracts -/
def cxt0 : con := (79, [(2, 1, 1), (0, (-2147483648), 2147483647)], [], [some (0, 0, 1)], [], 5, 400, false)
theorem cxk0 : con_chk (kl cxB []) PT cxB 198 cxJ cxjo cxP 404 cxt0 = true := by decide +kernel   -- X8_addFour
theorem cxo0 : con_ok PT cxB 198 cxt0 := con_chk_ok (kl_ok (fun _ h => (by cases h))) nw_class (fun h => by cases h) cxk0
def cxt1 : con := (80, [(2, 1, 1), (0, (-2147483648), 2147483647), (0, 40, 60)], [], [some (0, (-1), 65535)], [], 5, 400, true)
theorem cxk1 : con_chk (kl cxB []) PT cxB 198 cxJ cxjo cxP 328 cxt1 = true := by decide +kernel   -- X8_signAt
theorem cxo1 : con_ok PT cxB 198 cxt1 := con_chk_ok (kl_ok (fun _ h => (by cases h))) nw_class (fun _ => by decide) cxk1
def cxt2 : con := (81, [(2, 1, 1), (0, (-2147483648), 2147483647), (0, 40, 60)], [], [some (0, (-1), 9)], [], 10, 800, true)
theorem cxk2 : con_chk (kl cxB [cxt1]) PT cxB 198 cxJ cxjo cxP 323 cxt2 = true := by decide +kernel   -- X8_digitAt
theorem cxo2 : con_ok PT cxB 198 cxt2 := con_chk_ok (kl_ok (List.forall_mem_cons.mpr ⟨cxo1, fun _ h => (by cases h)⟩)) nw_class (fun _ => by decide) cxk2
def cxt3 : con := (60, [(2, 145, 1), (0, (-2147483648), 999)], [], [none], [], 5, 400, false)
theorem cxk3 : con_chk (kl cxB []) PT cxB 198 cxJ cxjo cxP 321 cxt3 = true := by decide +kernel   -- X6_emit
theorem cxo3 : con_ok PT cxB 198 cxt3 := con_chk_ok (kl_ok (fun _ h => (by cases h))) nw_class (fun h => by cases h) cxk3
def cxt4 : con := (59, [(2, 145, 1)], [], [none], [], 10, 800, false)
theorem cxk4 : con_chk (kl cxB [cxt3]) PT cxB 198 cxJ cxjo cxP 319 cxt4 = true := by decide +kernel   -- X6_beFirstRule
theorem cxo4 : con_ok PT cxB 198 cxt4 := con_chk_ok (kl_ok (List.forall_mem_cons.mpr ⟨cxo3, fun _ h => (by cases h)⟩)) nw_class (fun h => by cases h) cxk4
def cxt5 : con := (61, [(2, 145, 1)], [], [some (0, (-1), 65535)], [], 10, 800, true)
theorem cxk5 : con_chk (kl cxB [cxt1]) PT cxB 198 cxJ cxjo cxP 307 cxt5 = true := by decide +kernel   -- X6_nextSign
theorem cxo5 : con_ok PT cxB 198 cxt5 := con_chk_ok (kl_ok (List.forall_mem_cons.mpr ⟨cxo1, fun _ h => (by cases h)⟩)) nw_class (fun _ => by decide) cxk5
def cxt6 : con := (66, [(2, 145, 1)], [], [none], [], 15, 1200, false)
theorem cxk6 : con_chk (kl cxB [cxt2, cxt3]) PT cxB 198 cxJ cxjo cxP 402 cxt6 = true := by decide +kernel   -- X6_readNumber
theorem cxo6 : con_ok PT cxB 198 cxt6 := con_chk_ok (kl_ok (List.forall_mem_cons.mpr ⟨cxo2, List.forall_mem_cons.mpr ⟨cxo3, fun _ h => (by cases h)⟩⟩)) nw_class (fun h => by cases h) cxk6
def cxt7 : con := (67, [(0, (-2147483648), 2147483647)], [], [some (0, (-1), 6)], [], 5, 400, true)
theorem cxk7 : con_chk (kl cxB []) PT cxB 198 cxJ cxjo cxP 318 cxt7 = true := by decide +kernel   -- X6_letterOf
theorem cxo7 : con_ok PT cxB 198 cxt7 := con_chk_ok (kl_ok (fun _ h => (by cases h))) nw_class (fun _ => by decide) cxk7
def cxt8 : con := (65, [(2, 145, 1), (0, 4, 4)], [], [some (0, 0, 1)], [], 20, 1600, false)
theorem cxk8 : con_chk (kl cxB [cxt3, cxt5, cxt6, cxt7]) PT cxB 198 cxJ cxjo cxP 348 cxt8 = true := by decide +kernel   -- X6_readThing
theorem cxo8 : con_ok PT cxB 198 cxt8 := con_chk_ok (kl_ok (List.forall_mem_cons.mpr ⟨cxo3, List.forall_mem_cons.mpr ⟨cxo5, List.forall_mem_cons.mpr ⟨cxo6, List.forall_mem_cons.mpr ⟨cxo7, fun _ h => (by cases h)⟩⟩⟩⟩)) nw_class (fun h => by cases h) cxk8
def cxt9 : con := (64, [(2, 145, 1), (0, 4, 4)], [], [some (0, 0, 1)], [], 25, 2000, false)
theorem cxk9 : con_chk (kl cxB [cxt3, cxt5, cxt8]) PT cxB 198 cxJ cxjo cxP 1102 cxt9 = true := by decide +kernel   -- X6_readSigned
theorem cxo9 : con_ok PT cxB 198 cxt9 := con_chk_ok (kl_ok (List.forall_mem_cons.mpr ⟨cxo3, List.forall_mem_cons.mpr ⟨cxo5, List.forall_mem_cons.mpr ⟨cxo8, fun _ h => (by cases h)⟩⟩⟩)) nw_class (fun h => by cases h) cxk9
def cxt10 : con := (62, [(2, 145, 1), (0, 3, 3), (0, 4, 4)], [], [some (0, 0, 1)], [], 30, 2400, false)
theorem cxk10 : con_chk (kl cxB [cxt9]) PT cxB 198 cxJ cxjo cxP 307 cxt10 = true := by decide +kernel   -- X6_readLevel
theorem cxo10 : con_ok PT cxB 198 cxt10 := con_chk_ok (kl_ok (List.forall_mem_cons.mpr ⟨cxo9, fun _ h => (by cases h)⟩)) nw_class (fun h => by cases h) cxk10
def cxt11 : con := (62, [(2, 145, 1), (0, 2, 2), (0, 4, 4)], [], [some (0, 0, 1)], [], 35, 2800, false)
theorem cxk11 : con_chk (kl cxB [cxt3, cxt5, cxt10]) PT cxB 198 cxJ cxjo cxP 2003 cxt11 = true := by decide +kernel   -- X6_readLevel
theorem cxo11 : con_ok PT cxB 198 cxt11 := con_chk_ok (kl_ok (List.forall_mem_cons.mpr ⟨cxo3, List.forall_mem_cons.mpr ⟨cxo5, List.forall_mem_cons.mpr ⟨cxo10, fun _ h => (by cases h)⟩⟩⟩)) nw_class (fun h => by cases h) cxk11
def cxt12 : con := (62, [(2, 145, 1), (0, 1, 1), (0, 4, 4)], [], [some (0, 0, 1)], [], 40, 3200, false)
theorem cxk12 : con_chk (kl cxB [cxt3, cxt5, cxt11]) PT cxB 198 cxJ cxjo cxP 2003 cxt12 = true := by decide +kernel   -- X6_readLevel
theorem cxo12 : con_ok PT cxB 198 cxt12 := con_chk_ok (kl_ok (List.forall_mem_cons.mpr ⟨cxo3, List.forall_mem_cons.mpr ⟨cxo5, List.forall_mem_cons.mpr ⟨cxo11, fun _ h => (by cases h)⟩⟩⟩)) nw_class (fun h => by cases h) cxk12
def cxt13 : con := (62, [(2, 145, 1), (0, 0, 0), (0, 4, 4)], [], [some (0, 0, 1)], [], 45, 3600, false)
theorem cxk13 : con_chk (kl cxB [cxt3, cxt5, cxt12]) PT cxB 198 cxJ cxjo cxP 366 cxt13 = true := by decide +kernel   -- X6_readLevel
theorem cxo13 : con_ok PT cxB 198 cxt13 := con_chk_ok (kl_ok (List.forall_mem_cons.mpr ⟨cxo3, List.forall_mem_cons.mpr ⟨cxo5, List.forall_mem_cons.mpr ⟨cxo12, fun _ h => (by cases h)⟩⟩⟩)) nw_class (fun h => by cases h) cxk13
def cxt14 : con := (65, [(2, 145, 1), (0, 3, 3)], [], [some (0, 0, 1)], [], 50, 4000, false)
theorem cxk14 : con_chk (kl cxB [cxt3, cxt5, cxt6, cxt7, cxt13]) PT cxB 198 cxJ cxjo cxP 375 cxt14 = true := by decide +kernel   -- X6_readThing
theorem cxo14 : con_ok PT cxB 198 cxt14 := con_chk_ok (kl_ok (List.forall_mem_cons.mpr ⟨cxo3, List.forall_mem_cons.mpr ⟨cxo5, List.forall_mem_cons.mpr ⟨cxo6, List.forall_mem_cons.mpr ⟨cxo7, List.forall_mem_cons.mpr ⟨cxo13, fun _ h => (by cases h)⟩⟩⟩⟩⟩)) nw_class (fun h => by cases h) cxk14
def cxt15 : con := (64, [(2, 145, 1), (0, 3, 3)], [], [some (0, 0, 1)], [], 55, 4400, false)
theorem cxk15 : con_chk (kl cxB [cxt3, cxt5, cxt14]) PT cxB 198 cxJ cxjo cxP 1102 cxt15 = true := by decide +kernel   -- X6_readSigned
theorem cxo15 : con_ok PT cxB 198 cxt15 := con_chk_ok (kl_ok (List.forall_mem_cons.mpr ⟨cxo3, List.forall_mem_cons.mpr ⟨cxo5, List.forall_mem_cons.mpr ⟨cxo14, fun _ h => (by cases h)⟩⟩⟩)) nw_class (fun h => by cases h) cxk15
def cxt16 : con := (62, [(2, 145, 1), (0, 3, 3), (0, 3, 3)], [], [some (0, 0, 1)], [], 60, 4800, false)
theorem cxk16 : con_chk (kl cxB [cxt15]) PT cxB 198 cxJ cxjo cxP 307 cxt16 = true := by decide +kernel   -- X6_readLevel
theorem cxo16 : con_ok PT cxB 198 cxt16 := con_chk_ok (kl_ok (List.forall_mem_cons.mpr ⟨cxo15, fun _ h => (by cases h)⟩)) nw_class (fun h => by cases h) cxk16
def cxt17 : con := (62, [(2, 145, 1), (0, 2, 2), (0, 3, 3)], [], [some (0, 0, 1)], [], 65, 5200, false)
theorem cxk17 : con_chk (kl cxB [cxt3, cxt5, cxt16]) PT cxB 198 cxJ cxjo cxP 2003 cxt17 = true := by decide +kernel   -- X6_readLevel
theorem cxo17 : con_ok PT cxB 198 cxt17 := con_chk_ok (kl_ok (List.forall_mem_cons.mpr ⟨cxo3, List.forall_mem_cons.mpr ⟨cxo5, List.forall_mem_cons.mpr ⟨cxo16, fun _ h => (by cases h)⟩⟩⟩)) nw_class (fun h => by cases h) cxk17
def cxt18 : con := (62, [(2, 145, 1), (0, 1, 1), (0, 3, 3)], [], [some (0, 0, 1)], [], 70, 5600, false)
theorem cxk18 : con_chk (kl cxB [cxt3, cxt5, cxt17]) PT cxB 198 cxJ cxjo cxP 2003 cxt18 = true := by decide +kernel   -- X6_readLevel
theorem cxo18 : con_ok PT cxB 198 cxt18 := con_chk_ok (kl_ok (List.forall_mem_cons.mpr ⟨cxo3, List.forall_mem_cons.mpr ⟨cxo5, List.forall_mem_cons.mpr ⟨cxo17, fun _ h => (by cases h)⟩⟩⟩)) nw_class (fun h => by cases h) cxk18
def cxt19 : con := (62, [(2, 145, 1), (0, 0, 0), (0, 3, 3)], [], [some (0, 0, 1)], [], 75, 6000, false)
theorem cxk19 : con_chk (kl cxB [cxt3, cxt5, cxt18]) PT cxB 198 cxJ cxjo cxP 366 cxt19 = true := by decide +kernel   -- X6_readLevel
theorem cxo19 : con_ok PT cxB 198 cxt19 := con_chk_ok (kl_ok (List.forall_mem_cons.mpr ⟨cxo3, List.forall_mem_cons.mpr ⟨cxo5, List.forall_mem_cons.mpr ⟨cxo18, fun _ h => (by cases h)⟩⟩⟩)) nw_class (fun h => by cases h) cxk19
def cxt20 : con := (65, [(2, 145, 1), (0, 2, 2)], [], [some (0, 0, 1)], [], 80, 6400, false)
theorem cxk20 : con_chk (kl cxB [cxt3, cxt5, cxt6, cxt7, cxt19]) PT cxB 198 cxJ cxjo cxP 375 cxt20 = true := by decide +kernel   -- X6_readThing
theorem cxo20 : con_ok PT cxB 198 cxt20 := con_chk_ok (kl_ok (List.forall_mem_cons.mpr ⟨cxo3, List.forall_mem_cons.mpr ⟨cxo5, List.forall_mem_cons.mpr ⟨cxo6, List.forall_mem_cons.mpr ⟨cxo7, List.forall_mem_cons.mpr ⟨cxo19, fun _ h => (by cases h)⟩⟩⟩⟩⟩)) nw_class (fun h => by cases h) cxk20
def cxt21 : con := (64, [(2, 145, 1), (0, 2, 2)], [], [some (0, 0, 1)], [], 85, 6800, false)
theorem cxk21 : con_chk (kl cxB [cxt3, cxt5, cxt20]) PT cxB 198 cxJ cxjo cxP 1102 cxt21 = true := by decide +kernel   -- X6_readSigned
theorem cxo21 : con_ok PT cxB 198 cxt21 := con_chk_ok (kl_ok (List.forall_mem_cons.mpr ⟨cxo3, List.forall_mem_cons.mpr ⟨cxo5, List.forall_mem_cons.mpr ⟨cxo20, fun _ h => (by cases h)⟩⟩⟩)) nw_class (fun h => by cases h) cxk21
def cxt22 : con := (62, [(2, 145, 1), (0, 3, 3), (0, 2, 2)], [], [some (0, 0, 1)], [], 90, 7200, false)
theorem cxk22 : con_chk (kl cxB [cxt21]) PT cxB 198 cxJ cxjo cxP 307 cxt22 = true := by decide +kernel   -- X6_readLevel
theorem cxo22 : con_ok PT cxB 198 cxt22 := con_chk_ok (kl_ok (List.forall_mem_cons.mpr ⟨cxo21, fun _ h => (by cases h)⟩)) nw_class (fun h => by cases h) cxk22
def cxt23 : con := (62, [(2, 145, 1), (0, 2, 2), (0, 2, 2)], [], [some (0, 0, 1)], [], 95, 7600, false)
theorem cxk23 : con_chk (kl cxB [cxt3, cxt5, cxt22]) PT cxB 198 cxJ cxjo cxP 2003 cxt23 = true := by decide +kernel   -- X6_readLevel
theorem cxo23 : con_ok PT cxB 198 cxt23 := con_chk_ok (kl_ok (List.forall_mem_cons.mpr ⟨cxo3, List.forall_mem_cons.mpr ⟨cxo5, List.forall_mem_cons.mpr ⟨cxo22, fun _ h => (by cases h)⟩⟩⟩)) nw_class (fun h => by cases h) cxk23
def cxt24 : con := (62, [(2, 145, 1), (0, 1, 1), (0, 2, 2)], [], [some (0, 0, 1)], [], 100, 8000, false)
theorem cxk24 : con_chk (kl cxB [cxt3, cxt5, cxt23]) PT cxB 198 cxJ cxjo cxP 2003 cxt24 = true := by decide +kernel   -- X6_readLevel
theorem cxo24 : con_ok PT cxB 198 cxt24 := con_chk_ok (kl_ok (List.forall_mem_cons.mpr ⟨cxo3, List.forall_mem_cons.mpr ⟨cxo5, List.forall_mem_cons.mpr ⟨cxo23, fun _ h => (by cases h)⟩⟩⟩)) nw_class (fun h => by cases h) cxk24
def cxt25 : con := (62, [(2, 145, 1), (0, 0, 0), (0, 2, 2)], [], [some (0, 0, 1)], [], 105, 8400, false)
theorem cxk25 : con_chk (kl cxB [cxt3, cxt5, cxt24]) PT cxB 198 cxJ cxjo cxP 366 cxt25 = true := by decide +kernel   -- X6_readLevel
theorem cxo25 : con_ok PT cxB 198 cxt25 := con_chk_ok (kl_ok (List.forall_mem_cons.mpr ⟨cxo3, List.forall_mem_cons.mpr ⟨cxo5, List.forall_mem_cons.mpr ⟨cxo24, fun _ h => (by cases h)⟩⟩⟩)) nw_class (fun h => by cases h) cxk25
def cxt26 : con := (65, [(2, 145, 1), (0, 1, 1)], [], [some (0, 0, 1)], [], 110, 8800, false)
theorem cxk26 : con_chk (kl cxB [cxt3, cxt5, cxt6, cxt7, cxt25]) PT cxB 198 cxJ cxjo cxP 375 cxt26 = true := by decide +kernel   -- X6_readThing
theorem cxo26 : con_ok PT cxB 198 cxt26 := con_chk_ok (kl_ok (List.forall_mem_cons.mpr ⟨cxo3, List.forall_mem_cons.mpr ⟨cxo5, List.forall_mem_cons.mpr ⟨cxo6, List.forall_mem_cons.mpr ⟨cxo7, List.forall_mem_cons.mpr ⟨cxo25, fun _ h => (by cases h)⟩⟩⟩⟩⟩)) nw_class (fun h => by cases h) cxk26
def cxt27 : con := (64, [(2, 145, 1), (0, 1, 1)], [], [some (0, 0, 1)], [], 115, 9200, false)
theorem cxk27 : con_chk (kl cxB [cxt3, cxt5, cxt26]) PT cxB 198 cxJ cxjo cxP 1102 cxt27 = true := by decide +kernel   -- X6_readSigned
theorem cxo27 : con_ok PT cxB 198 cxt27 := con_chk_ok (kl_ok (List.forall_mem_cons.mpr ⟨cxo3, List.forall_mem_cons.mpr ⟨cxo5, List.forall_mem_cons.mpr ⟨cxo26, fun _ h => (by cases h)⟩⟩⟩)) nw_class (fun h => by cases h) cxk27
def cxt28 : con := (62, [(2, 145, 1), (0, 3, 3), (0, 1, 1)], [], [some (0, 0, 1)], [], 120, 9600, false)
theorem cxk28 : con_chk (kl cxB [cxt27]) PT cxB 198 cxJ cxjo cxP 307 cxt28 = true := by decide +kernel   -- X6_readLevel
theorem cxo28 : con_ok PT cxB 198 cxt28 := con_chk_ok (kl_ok (List.forall_mem_cons.mpr ⟨cxo27, fun _ h => (by cases h)⟩)) nw_class (fun h => by cases h) cxk28
def cxt29 : con := (62, [(2, 145, 1), (0, 2, 2), (0, 1, 1)], [], [some (0, 0, 1)], [], 125, 10000, false)
theorem cxk29 : con_chk (kl cxB [cxt3, cxt5, cxt28]) PT cxB 198 cxJ cxjo cxP 2003 cxt29 = true := by decide +kernel   -- X6_readLevel
theorem cxo29 : con_ok PT cxB 198 cxt29 := con_chk_ok (kl_ok (List.forall_mem_cons.mpr ⟨cxo3, List.forall_mem_cons.mpr ⟨cxo5, List.forall_mem_cons.mpr ⟨cxo28, fun _ h => (by cases h)⟩⟩⟩)) nw_class (fun h => by cases h) cxk29
def cxt30 : con := (62, [(2, 145, 1), (0, 1, 1), (0, 1, 1)], [], [some (0, 0, 1)], [], 130, 10400, false)
theorem cxk30 : con_chk (kl cxB [cxt3, cxt5, cxt29]) PT cxB 198 cxJ cxjo cxP 2003 cxt30 = true := by decide +kernel   -- X6_readLevel
theorem cxo30 : con_ok PT cxB 198 cxt30 := con_chk_ok (kl_ok (List.forall_mem_cons.mpr ⟨cxo3, List.forall_mem_cons.mpr ⟨cxo5, List.forall_mem_cons.mpr ⟨cxo29, fun _ h => (by cases h)⟩⟩⟩)) nw_class (fun h => by cases h) cxk30
def cxt31 : con := (62, [(2, 145, 1), (0, 0, 0), (0, 1, 1)], [], [some (0, 0, 1)], [], 135, 10800, false)
theorem cxk31 : con_chk (kl cxB [cxt3, cxt5, cxt30]) PT cxB 198 cxJ cxjo cxP 366 cxt31 = true := by decide +kernel   -- X6_readLevel
theorem cxo31 : con_ok PT cxB 198 cxt31 := con_chk_ok (kl_ok (List.forall_mem_cons.mpr ⟨cxo3, List.forall_mem_cons.mpr ⟨cxo5, List.forall_mem_cons.mpr ⟨cxo30, fun _ h => (by cases h)⟩⟩⟩)) nw_class (fun h => by cases h) cxk31
def cxt32 : con := (65, [(2, 145, 1), (0, 0, 0)], [], [some (0, 0, 1)], [], 140, 11200, false)
theorem cxk32 : con_chk (kl cxB [cxt3, cxt5, cxt6, cxt7, cxt31]) PT cxB 198 cxJ cxjo cxP 375 cxt32 = true := by decide +kernel   -- X6_readThing
theorem cxo32 : con_ok PT cxB 198 cxt32 := con_chk_ok (kl_ok (List.forall_mem_cons.mpr ⟨cxo3, List.forall_mem_cons.mpr ⟨cxo5, List.forall_mem_cons.mpr ⟨cxo6, List.forall_mem_cons.mpr ⟨cxo7, List.forall_mem_cons.mpr ⟨cxo31, fun _ h => (by cases h)⟩⟩⟩⟩⟩)) nw_class (fun h => by cases h) cxk32
def cxt33 : con := (64, [(2, 145, 1), (0, 0, 0)], [], [some (0, 0, 1)], [], 145, 11600, false)
theorem cxk33 : con_chk (kl cxB [cxt3, cxt5, cxt32]) PT cxB 198 cxJ cxjo cxP 1102 cxt33 = true := by decide +kernel   -- X6_readSigned
theorem cxo33 : con_ok PT cxB 198 cxt33 := con_chk_ok (kl_ok (List.forall_mem_cons.mpr ⟨cxo3, List.forall_mem_cons.mpr ⟨cxo5, List.forall_mem_cons.mpr ⟨cxo32, fun _ h => (by cases h)⟩⟩⟩)) nw_class (fun h => by cases h) cxk33
def cxt34 : con := (62, [(2, 145, 1), (0, 3, 3), (0, 0, 0)], [], [some (0, 0, 1)], [], 150, 12000, false)
theorem cxk34 : con_chk (kl cxB [cxt33]) PT cxB 198 cxJ cxjo cxP 307 cxt34 = true := by decide +kernel   -- X6_readLevel
theorem cxo34 : con_ok PT cxB 198 cxt34 := con_chk_ok (kl_ok (List.forall_mem_cons.mpr ⟨cxo33, fun _ h => (by cases h)⟩)) nw_class (fun h => by cases h) cxk34
def cxt35 : con := (62, [(2, 145, 1), (0, 2, 2), (0, 0, 0)], [], [some (0, 0, 1)], [], 155, 12400, false)
theorem cxk35 : con_chk (kl cxB [cxt3, cxt5, cxt34]) PT cxB 198 cxJ cxjo cxP 2003 cxt35 = true := by decide +kernel   -- X6_readLevel
theorem cxo35 : con_ok PT cxB 198 cxt35 := con_chk_ok (kl_ok (List.forall_mem_cons.mpr ⟨cxo3, List.forall_mem_cons.mpr ⟨cxo5, List.forall_mem_cons.mpr ⟨cxo34, fun _ h => (by cases h)⟩⟩⟩)) nw_class (fun h => by cases h) cxk35
def cxt36 : con := (62, [(2, 145, 1), (0, 1, 1), (0, 0, 0)], [], [some (0, 0, 1)], [], 160, 12800, false)
theorem cxk36 : con_chk (kl cxB [cxt3, cxt5, cxt35]) PT cxB 198 cxJ cxjo cxP 2003 cxt36 = true := by decide +kernel   -- X6_readLevel
theorem cxo36 : con_ok PT cxB 198 cxt36 := con_chk_ok (kl_ok (List.forall_mem_cons.mpr ⟨cxo3, List.forall_mem_cons.mpr ⟨cxo5, List.forall_mem_cons.mpr ⟨cxo35, fun _ h => (by cases h)⟩⟩⟩)) nw_class (fun h => by cases h) cxk36
def cxt37 : con := (62, [(2, 145, 1), (0, 0, 0), (0, 0, 0)], [], [some (0, 0, 1)], [], 165, 13200, false)
theorem cxk37 : con_chk (kl cxB [cxt3, cxt5, cxt36]) PT cxB 198 cxJ cxjo cxP 366 cxt37 = true := by decide +kernel   -- X6_readLevel
theorem cxo37 : con_ok PT cxB 198 cxt37 := con_chk_ok (kl_ok (List.forall_mem_cons.mpr ⟨cxo3, List.forall_mem_cons.mpr ⟨cxo5, List.forall_mem_cons.mpr ⟨cxo36, fun _ h => (by cases h)⟩⟩⟩)) nw_class (fun h => by cases h) cxk37
def cxt38 : con := (58, [(2, 145, 1)], [], [some (0, (-2147483648), 2147483647)], [], 170, 13600, false)
theorem cxk38 : con_chk (kl cxB [cxt4, cxt37]) PT cxB 198 cxJ cxjo cxP 342 cxt38 = true := by decide +kernel   -- X6_read
theorem cxo38 : con_ok PT cxB 198 cxt38 := con_chk_ok (kl_ok (List.forall_mem_cons.mpr ⟨cxo4, List.forall_mem_cons.mpr ⟨cxo37, fun _ h => (by cases h)⟩⟩)) nw_class (fun h => by cases h) cxk38
def cxt39 : con := (36, [(2, 5, 1), (2, 13, 1)], [], [some (0, (-2147483648), 2147483647)], [], 5, 400, true)
theorem cxk39 : con_chk (kl cxB []) PT cxB 198 cxJ cxjo cxP 388 cxt39 = true := by decide +kernel   -- X3_allGrain
theorem cxo39 : con_ok PT cxB 198 cxt39 := con_chk_ok (kl_ok (fun _ h => (by cases h))) nw_class (fun _ => by decide) cxk39
def cxt40 : con := (73, [(2, 39, 1), (2, 13, 1)], [], [none], [], 5, 400, false)
theorem cxk40 : con_chk (kl cxB []) PT cxB 198 cxJ cxjo cxP 349 cxt40 = true := by decide +kernel   -- X7_copyFrom
theorem cxo40 : con_ok PT cxB 198 cxt40 := con_chk_ok (kl_ok (fun _ h => (by cases h))) nw_class (fun h => by cases h) cxk40
def cxt41 : con := (73, [(2, 93, 1), (2, 13, 1)], [], [none], [], 5, 400, false)
theorem cxk41 : con_chk (kl cxB []) PT cxB 198 cxJ cxjo cxP 349 cxt41 = true := by decide +kernel   -- X7_copyFrom
theorem cxo41 : con_ok PT cxB 198 cxt41 := con_chk_ok (kl_ok (fun _ h => (by cases h))) nw_class (fun h => by cases h) cxk41
def cxt42 : con := (73, [(2, 51, 1), (2, 13, 1)], [], [none], [], 5, 400, false)
theorem cxk42 : con_chk (kl cxB []) PT cxB 198 cxJ cxjo cxP 349 cxt42 = true := by decide +kernel   -- X7_copyFrom
theorem cxo42 : con_ok PT cxB 198 cxt42 := con_chk_ok (kl_ok (fun _ h => (by cases h))) nw_class (fun h => by cases h) cxk42
def cxt43 : con := (73, [(2, 117, 1), (2, 13, 1)], [], [none], [], 5, 400, false)
theorem cxk43 : con_chk (kl cxB []) PT cxB 198 cxJ cxjo cxP 349 cxt43 = true := by decide +kernel   -- X7_copyFrom
theorem cxo43 : con_ok PT cxB 198 cxt43 := con_chk_ok (kl_ok (fun _ h => (by cases h))) nw_class (fun h => by cases h) cxk43
def cxt44 : con := (73, [(2, 45, 1), (2, 13, 1)], [], [none], [], 5, 400, false)
theorem cxk44 : con_chk (kl cxB []) PT cxB 198 cxJ cxjo cxP 349 cxt44 = true := by decide +kernel   -- X7_copyFrom
theorem cxo44 : con_ok PT cxB 198 cxt44 := con_chk_ok (kl_ok (fun _ h => (by cases h))) nw_class (fun h => by cases h) cxk44
