/-! contracts -/
def cxt0 : con := (79, [(2, 1, 1), (0, (-2147483648), 2147483647)], [], [some (0, 0, 1)], [], 5, 400, false)
theorem cxk0 : con_chk (kl bB cxF []) PT bB 198 cxF cxJ cxjo cxP 504 cxt0 = true := by decide +kernel   -- X8_addFour
theorem cxo0 : con_ok PT bB 198 cxF cxQ cxt0 := con_chk_ok (fun _ _ h => h) cxpp (kl_ok (fun _ h => (by cases h))) nw_class (fun h => by cases h) cxk0
def cxt1 : con := (80, [(2, 1, 1), (0, (-2147483648), 2147483647), (0, 40, 60)], [], [some (0, (-1), 65535)], [], 5, 400, true)
theorem cxk1 : con_chk (kl bB cxF []) PT bB 198 cxF cxJ cxjo cxP 428 cxt1 = true := by decide +kernel   -- X8_signAt
theorem cxo1 : con_ok PT bB 198 cxF cxQ cxt1 := con_chk_ok (fun _ _ h => h) cxpp (kl_ok (fun _ h => (by cases h))) nw_class (fun _ => by decide) cxk1
def cxt2 : con := (81, [(2, 1, 1), (0, (-2147483648), 2147483647), (0, 40, 60)], [], [some (0, (-1), 9)], [], 10, 800, true)
theorem cxk2 : con_chk (kl bB cxF [cxt1]) PT bB 198 cxF cxJ cxjo cxP 423 cxt2 = true := by decide +kernel   -- X8_digitAt
theorem cxo2 : con_ok PT bB 198 cxF cxQ cxt2 := con_chk_ok (fun _ _ h => h) cxpp (kl_ok (List.forall_mem_cons.mpr ⟨cxo1, fun _ h => (by cases h)⟩)) nw_class (fun _ => by decide) cxk2
def cxt3 : con := (60, [(2, 145, 1), (0, (-2147483648), 999)], [], [none], [], 5, 400, false)
theorem cxk3 : con_chk (kl bB cxF []) PT bB 198 cxF cxJ cxjo cxP 421 cxt3 = true := by decide +kernel   -- X6_emit
theorem cxo3 : con_ok PT bB 198 cxF cxQ cxt3 := con_chk_ok (fun _ _ h => h) cxpp (kl_ok (fun _ h => (by cases h))) nw_class (fun h => by cases h) cxk3
def cxt4 : con := (59, [(2, 145, 1)], [], [none], [], 10, 800, false)
theorem cxk4 : con_chk (kl bB cxF [cxt3]) PT bB 198 cxF cxJ cxjo cxP 419 cxt4 = true := by decide +kernel   -- X6_beFirstRule
theorem cxo4 : con_ok PT bB 198 cxF cxQ cxt4 := con_chk_ok (fun _ _ h => h) cxpp (kl_ok (List.forall_mem_cons.mpr ⟨cxo3, fun _ h => (by cases h)⟩)) nw_class (fun h => by cases h) cxk4
def cxt5 : con := (61, [(2, 145, 1)], [], [some (0, (-1), 65535)], [], 10, 800, true)
theorem cxk5 : con_chk (kl bB cxF [cxt1]) PT bB 198 cxF cxJ cxjo cxP 407 cxt5 = true := by decide +kernel   -- X6_nextSign
theorem cxo5 : con_ok PT bB 198 cxF cxQ cxt5 := con_chk_ok (fun _ _ h => h) cxpp (kl_ok (List.forall_mem_cons.mpr ⟨cxo1, fun _ h => (by cases h)⟩)) nw_class (fun _ => by decide) cxk5
def cxt6 : con := (66, [(2, 145, 1)], [], [none], [], 15, 1200, false)
theorem cxk6 : con_chk (kl bB cxF [cxt2, cxt3]) PT bB 198 cxF cxJ cxjo cxP 502 cxt6 = true := by decide +kernel   -- X6_readNumber
theorem cxo6 : con_ok PT bB 198 cxF cxQ cxt6 := con_chk_ok (fun _ _ h => h) cxpp (kl_ok (List.forall_mem_cons.mpr ⟨cxo2, List.forall_mem_cons.mpr ⟨cxo3, fun _ h => (by cases h)⟩⟩)) nw_class (fun h => by cases h) cxk6
def cxt7 : con := (67, [(0, (-2147483648), 2147483647)], [], [some (0, (-1), 6)], [], 5, 400, true)
theorem cxk7 : con_chk (kl bB cxF []) PT bB 198 cxF cxJ cxjo cxP 418 cxt7 = true := by decide +kernel   -- X6_letterOf
theorem cxo7 : con_ok PT bB 198 cxF cxQ cxt7 := con_chk_ok (fun _ _ h => h) cxpp (kl_ok (fun _ h => (by cases h))) nw_class (fun _ => by decide) cxk7
def cxt8 : con := (65, [(2, 145, 1), (0, 4, 4)], [], [some (0, 0, 1)], [], 20, 1600, false)
theorem cxk8 : con_chk (kl bB cxF [cxt3, cxt5, cxt6, cxt7]) PT bB 198 cxF cxJ cxjo cxP 448 cxt8 = true := by decide +kernel   -- X6_readThing
theorem cxo8 : con_ok PT bB 198 cxF cxQ cxt8 := con_chk_ok (fun _ _ h => h) cxpp (kl_ok (List.forall_mem_cons.mpr ⟨cxo3, List.forall_mem_cons.mpr ⟨cxo5, List.forall_mem_cons.mpr ⟨cxo6, List.forall_mem_cons.mpr ⟨cxo7, fun _ h => (by cases h)⟩⟩⟩⟩)) nw_class (fun h => by cases h) cxk8
def cxt9 : con := (64, [(2, 145, 1), (0, 4, 4)], [], [some (0, 0, 1)], [], 25, 2000, false)
theorem cxk9 : con_chk (kl bB cxF [cxt3, cxt5, cxt8]) PT bB 198 cxF cxJ cxjo cxP 1202 cxt9 = true := by decide +kernel   -- X6_readSigned
theorem cxo9 : con_ok PT bB 198 cxF cxQ cxt9 := con_chk_ok (fun _ _ h => h) cxpp (kl_ok (List.forall_mem_cons.mpr ⟨cxo3, List.forall_mem_cons.mpr ⟨cxo5, List.forall_mem_cons.mpr ⟨cxo8, fun _ h => (by cases h)⟩⟩⟩)) nw_class (fun h => by cases h) cxk9
def cxt10 : con := (62, [(2, 145, 1), (0, 3, 3), (0, 4, 4)], [], [some (0, 0, 1)], [], 30, 2400, false)
theorem cxk10 : con_chk (kl bB cxF [cxt9]) PT bB 198 cxF cxJ cxjo cxP 407 cxt10 = true := by decide +kernel   -- X6_readLevel
theorem cxo10 : con_ok PT bB 198 cxF cxQ cxt10 := con_chk_ok (fun _ _ h => h) cxpp (kl_ok (List.forall_mem_cons.mpr ⟨cxo9, fun _ h => (by cases h)⟩)) nw_class (fun h => by cases h) cxk10
def cxt11 : con := (62, [(2, 145, 1), (0, 2, 2), (0, 4, 4)], [], [some (0, 0, 1)], [], 35, 2800, false)
theorem cxk11 : con_chk (kl bB cxF [cxt3, cxt5, cxt10]) PT bB 198 cxF cxJ cxjo cxP 2103 cxt11 = true := by decide +kernel   -- X6_readLevel
theorem cxo11 : con_ok PT bB 198 cxF cxQ cxt11 := con_chk_ok (fun _ _ h => h) cxpp (kl_ok (List.forall_mem_cons.mpr ⟨cxo3, List.forall_mem_cons.mpr ⟨cxo5, List.forall_mem_cons.mpr ⟨cxo10, fun _ h => (by cases h)⟩⟩⟩)) nw_class (fun h => by cases h) cxk11
def cxt12 : con := (62, [(2, 145, 1), (0, 1, 1), (0, 4, 4)], [], [some (0, 0, 1)], [], 40, 3200, false)
theorem cxk12 : con_chk (kl bB cxF [cxt3, cxt5, cxt11]) PT bB 198 cxF cxJ cxjo cxP 2103 cxt12 = true := by decide +kernel   -- X6_readLevel
theorem cxo12 : con_ok PT bB 198 cxF cxQ cxt12 := con_chk_ok (fun _ _ h => h) cxpp (kl_ok (List.forall_mem_cons.mpr ⟨cxo3, List.forall_mem_cons.mpr ⟨cxo5, List.forall_mem_cons.mpr ⟨cxo11, fun _ h => (by cases h)⟩⟩⟩)) nw_class (fun h => by cases h) cxk12
def cxt13 : con := (62, [(2, 145, 1), (0, 0, 0), (0, 4, 4)], [], [some (0, 0, 1)], [], 45, 3600, false)
theorem cxk13 : con_chk (kl bB cxF [cxt3, cxt5, cxt12]) PT bB 198 cxF cxJ cxjo cxP 466 cxt13 = true := by decide +kernel   -- X6_readLevel
theorem cxo13 : con_ok PT bB 198 cxF cxQ cxt13 := con_chk_ok (fun _ _ h => h) cxpp (kl_ok (List.forall_mem_cons.mpr ⟨cxo3, List.forall_mem_cons.mpr ⟨cxo5, List.forall_mem_cons.mpr ⟨cxo12, fun _ h => (by cases h)⟩⟩⟩)) nw_class (fun h => by cases h) cxk13
def cxt14 : con := (65, [(2, 145, 1), (0, 3, 3)], [], [some (0, 0, 1)], [], 50, 4000, false)
theorem cxk14 : con_chk (kl bB cxF [cxt3, cxt5, cxt6, cxt7, cxt13]) PT bB 198 cxF cxJ cxjo cxP 475 cxt14 = true := by decide +kernel   -- X6_readThing
theorem cxo14 : con_ok PT bB 198 cxF cxQ cxt14 := con_chk_ok (fun _ _ h => h) cxpp (kl_ok (List.forall_mem_cons.mpr ⟨cxo3, List.forall_mem_cons.mpr ⟨cxo5, List.forall_mem_cons.mpr ⟨cxo6, List.forall_mem_cons.mpr ⟨cxo7, List.forall_mem_cons.mpr ⟨cxo13, fun _ h => (by cases h)⟩⟩⟩⟩⟩)) nw_class (fun h => by cases h) cxk14
def cxt15 : con := (64, [(2, 145, 1), (0, 3, 3)], [], [some (0, 0, 1)], [], 55, 4400, false)
theorem cxk15 : con_chk (kl bB cxF [cxt3, cxt5, cxt14]) PT bB 198 cxF cxJ cxjo cxP 1202 cxt15 = true := by decide +kernel   -- X6_readSigned
theorem cxo15 : con_ok PT bB 198 cxF cxQ cxt15 := con_chk_ok (fun _ _ h => h) cxpp (kl_ok (List.forall_mem_cons.mpr ⟨cxo3, List.forall_mem_cons.mpr ⟨cxo5, List.forall_mem_cons.mpr ⟨cxo14, fun _ h => (by cases h)⟩⟩⟩)) nw_class (fun h => by cases h) cxk15
def cxt16 : con := (62, [(2, 145, 1), (0, 3, 3), (0, 3, 3)], [], [some (0, 0, 1)], [], 60, 4800, false)
theorem cxk16 : con_chk (kl bB cxF [cxt15]) PT bB 198 cxF cxJ cxjo cxP 407 cxt16 = true := by decide +kernel   -- X6_readLevel
theorem cxo16 : con_ok PT bB 198 cxF cxQ cxt16 := con_chk_ok (fun _ _ h => h) cxpp (kl_ok (List.forall_mem_cons.mpr ⟨cxo15, fun _ h => (by cases h)⟩)) nw_class (fun h => by cases h) cxk16
