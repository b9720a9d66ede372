/-! contracts -/
def cxt33 : con := (64, [(2, 145, 1), (0, 0, 0)], [], [some (0, 0, 1)], [], 145, 11600, false)
theorem cxk33 : con_chk (kl bB cxF [cxt3, cxt5, cxt32]) PT bB 198 cxF cxJ cxjo cxP 1202 cxt33 = true := by decide +kernel   -- X6_readSigned
theorem cxo33 : con_ok PT bB 198 cxF cxQ cxt33 := con_chk_ok (fun _ _ h => h) cxpp (kl_ok (List.forall_mem_cons.mpr ⟨cxo3, List.forall_mem_cons.mpr ⟨cxo5, List.forall_mem_cons.mpr ⟨cxo32, fun _ h => (by cases h)⟩⟩⟩)) nw_class (fun h => by cases h) cxk33
def cxt34 : con := (62, [(2, 145, 1), (0, 3, 3), (0, 0, 0)], [], [some (0, 0, 1)], [], 150, 12000, false)
theorem cxk34 : con_chk (kl bB cxF [cxt33]) PT bB 198 cxF cxJ cxjo cxP 407 cxt34 = true := by decide +kernel   -- X6_readLevel
theorem cxo34 : con_ok PT bB 198 cxF cxQ cxt34 := con_chk_ok (fun _ _ h => h) cxpp (kl_ok (List.forall_mem_cons.mpr ⟨cxo33, fun _ h => (by cases h)⟩)) nw_class (fun h => by cases h) cxk34
def cxt35 : con := (62, [(2, 145, 1), (0, 2, 2), (0, 0, 0)], [], [some (0, 0, 1)], [], 155, 12400, false)
theorem cxk35 : con_chk (kl bB cxF [cxt3, cxt5, cxt34]) PT bB 198 cxF cxJ cxjo cxP 2103 cxt35 = true := by decide +kernel   -- X6_readLevel
theorem cxo35 : con_ok PT bB 198 cxF cxQ cxt35 := con_chk_ok (fun _ _ h => h) cxpp (kl_ok (List.forall_mem_cons.mpr ⟨cxo3, List.forall_mem_cons.mpr ⟨cxo5, List.forall_mem_cons.mpr ⟨cxo34, fun _ h => (by cases h)⟩⟩⟩)) nw_class (fun h => by cases h) cxk35
def cxt36 : con := (62, [(2, 145, 1), (0, 1, 1), (0, 0, 0)], [], [some (0, 0, 1)], [], 160, 12800, false)
theorem cxk36 : con_chk (kl bB cxF [cxt3, cxt5, cxt35]) PT bB 198 cxF cxJ cxjo cxP 2103 cxt36 = true := by decide +kernel   -- X6_readLevel
theorem cxo36 : con_ok PT bB 198 cxF cxQ cxt36 := con_chk_ok (fun _ _ h => h) cxpp (kl_ok (List.forall_mem_cons.mpr ⟨cxo3, List.forall_mem_cons.mpr ⟨cxo5, List.forall_mem_cons.mpr ⟨cxo35, fun _ h => (by cases h)⟩⟩⟩)) nw_class (fun h => by cases h) cxk36
def cxt37 : con := (62, [(2, 145, 1), (0, 0, 0), (0, 0, 0)], [], [some (0, 0, 1)], [], 165, 13200, false)
theorem cxk37 : con_chk (kl bB cxF [cxt3, cxt5, cxt36]) PT bB 198 cxF cxJ cxjo cxP 466 cxt37 = true := by decide +kernel   -- X6_readLevel
theorem cxo37 : con_ok PT bB 198 cxF cxQ cxt37 := con_chk_ok (fun _ _ h => h) cxpp (kl_ok (List.forall_mem_cons.mpr ⟨cxo3, List.forall_mem_cons.mpr ⟨cxo5, List.forall_mem_cons.mpr ⟨cxo36, fun _ h => (by cases h)⟩⟩⟩)) nw_class (fun h => by cases h) cxk37
def cxt38 : con := (58, [(2, 145, 1)], [], [some (0, (-2147483648), 2147483647)], [], 170, 13600, false)
theorem cxk38 : con_chk (kl bB cxF [cxt4, cxt37]) PT bB 198 cxF cxJ cxjo cxP 442 cxt38 = true := by decide +kernel   -- X6_read
theorem cxo38 : con_ok PT bB 198 cxF cxQ cxt38 := con_chk_ok (fun _ _ h => h) cxpp (kl_ok (List.forall_mem_cons.mpr ⟨cxo4, List.forall_mem_cons.mpr ⟨cxo37, fun _ h => (by cases h)⟩⟩)) nw_class (fun h => by cases h) cxk38
def cxt39 : con := (36, [(2, 5, 1), (2, 13, 1)], [], [some (0, (-2147483648), 2147483647)], [], 5, 400, true)
theorem cxk39 : con_chk (kl bB cxF []) PT bB 198 cxF cxJ cxjo cxP 488 cxt39 = true := by decide +kernel   -- X3_allGrain
theorem cxo39 : con_ok PT bB 198 cxF cxQ cxt39 := con_chk_ok (fun _ _ h => h) cxpp (kl_ok (fun _ h => (by cases h))) nw_class (fun _ => by decide) cxk39
def cxt40 : con := (73, [(2, 39, 1), (2, 13, 1)], [], [none], [], 5, 400, false)
theorem cxk40 : con_chk (kl bB cxF []) PT bB 198 cxF cxJ cxjo cxP 449 cxt40 = true := by decide +kernel   -- X7_copyFrom
theorem cxo40 : con_ok PT bB 198 cxF cxQ cxt40 := con_chk_ok (fun _ _ h => h) cxpp (kl_ok (fun _ h => (by cases h))) nw_class (fun h => by cases h) cxk40
def cxt41 : con := (73, [(2, 93, 1), (2, 13, 1)], [], [none], [], 5, 400, false)
theorem cxk41 : con_chk (kl bB cxF []) PT bB 198 cxF cxJ cxjo cxP 449 cxt41 = true := by decide +kernel   -- X7_copyFrom
theorem cxo41 : con_ok PT bB 198 cxF cxQ cxt41 := con_chk_ok (fun _ _ h => h) cxpp (kl_ok (fun _ h => (by cases h))) nw_class (fun h => by cases h) cxk41
def cxt42 : con := (73, [(2, 51, 1), (2, 13, 1)], [], [none], [], 5, 400, false)
theorem cxk42 : con_chk (kl bB cxF []) PT bB 198 cxF cxJ cxjo cxP 449 cxt42 = true := by decide +kernel   -- X7_copyFrom
theorem cxo42 : con_ok PT bB 198 cxF cxQ cxt42 := con_chk_ok (fun _ _ h => h) cxpp (kl_ok (fun _ h => (by cases h))) nw_class (fun h => by cases h) cxk42
def cxt43 : con := (73, [(2, 117, 1), (2, 13, 1)], [], [none], [], 5, 400, false)
theorem cxk43 : con_chk (kl bB cxF []) PT bB 198 cxF cxJ cxjo cxP 449 cxt43 = true := by decide +kernel   -- X7_copyFrom
theorem cxo43 : con_ok PT bB 198 cxF cxQ cxt43 := con_chk_ok (fun _ _ h => h) cxpp (kl_ok (fun _ h => (by cases h))) nw_class (fun h => by cases h) cxk43
def cxt44 : con := (73, [(2, 45, 1), (2, 13, 1)], [], [none], [], 5, 400, false)
theorem cxk44 : con_chk (kl bB cxF []) PT bB 198 cxF cxJ cxjo cxP 449 cxt44 = true := by decide +kernel   -- X7_copyFrom
theorem cxo44 : con_ok PT bB 198 cxF cxQ cxt44 := con_chk_ok (fun _ _ h => h) cxpp (kl_ok (fun _ h => (by cases h))) nw_class (fun h => by cases h) cxk44
def cxt45 : con := (73, [(2, 63, 1), (2, 13, 1)], [], [none], [], 5, 400, false)
theorem cxk45 : con_chk (kl bB cxF []) PT bB 198 cxF cxJ cxjo cxP 449 cxt45 = true := by decide +kernel   -- X7_copyFrom
theorem cxo45 : con_ok PT bB 198 cxF cxQ cxt45 := con_chk_ok (fun _ _ h => h) cxpp (kl_ok (fun _ h => (by cases h))) nw_class (fun h => by cases h) cxk45
def cxt46 : con := (73, [(2, 69, 1), (2, 13, 1)], [], [none], [], 5, 400, false)
theorem cxk46 : con_chk (kl bB cxF []) PT bB 198 cxF cxJ cxjo cxP 449 cxt46 = true := by decide +kernel   -- X7_copyFrom
theorem cxo46 : con_ok PT bB 198 cxF cxQ cxt46 := con_chk_ok (fun _ _ h => h) cxpp (kl_ok (fun _ h => (by cases h))) nw_class (fun h => by cases h) cxk46
def cxt47 : con := (73, [(2, 75, 1), (2, 13, 1)], [], [none], [], 5, 400, false)
theorem cxk47 : con_chk (kl bB cxF []) PT bB 198 cxF cxJ cxjo cxP 449 cxt47 = true := by decide +kernel   -- X7_copyFrom
theorem cxo47 : con_ok PT bB 198 cxF cxQ cxt47 := con_chk_ok (fun _ _ h => h) cxpp (kl_ok (fun _ h => (by cases h))) nw_class (fun h => by cases h) cxk47
def cxt48 : con := (73, [(2, 81, 1), (2, 13, 1)], [], [none], [], 5, 400, false)
theorem cxk48 : con_chk (kl bB cxF []) PT bB 198 cxF cxJ cxjo cxP 449 cxt48 = true := by decide +kernel   -- X7_copyFrom
theorem cxo48 : con_ok PT bB 198 cxF cxQ cxt48 := con_chk_ok (fun _ _ h => h) cxpp (kl_ok (fun _ h => (by cases h))) nw_class (fun h => by cases h) cxk48
def cxt49 : con := (73, [(2, 27, 1), (2, 13, 1)], [], [none], [], 5, 400, false)
theorem cxk49 : con_chk (kl bB cxF []) PT bB 198 cxF cxJ cxjo cxP 449 cxt49 = true := by decide +kernel   -- X7_copyFrom
theorem cxo49 : con_ok PT bB 198 cxF cxQ cxt49 := con_chk_ok (fun _ _ h => h) cxpp (kl_ok (fun _ h => (by cases h))) nw_class (fun h => by cases h) cxk49
def cxt50 : con := (73, [(2, 57, 1), (2, 13, 1)], [], [none], [], 5, 400, false)
theorem cxk50 : con_chk (kl bB cxF []) PT bB 198 cxF cxJ cxjo cxP 449 cxt50 = true := by decide +kernel   -- X7_copyFrom
theorem cxo50 : con_ok PT bB 198 cxF cxQ cxt50 := con_chk_ok (fun _ _ h => h) cxpp (kl_ok (fun _ h => (by cases h))) nw_class (fun h => by cases h) cxk50
def cxt51 : con := (73, [(2, 111, 1), (2, 13, 1)], [], [none], [], 5, 400, false)
theorem cxk51 : con_chk (kl bB cxF []) PT bB 198 cxF cxJ cxjo cxP 449 cxt51 = true := by decide +kernel   -- X7_copyFrom
theorem cxo51 : con_ok PT bB 198 cxF cxQ cxt51 := con_chk_ok (fun _ _ h => h) cxpp (kl_ok (fun _ h => (by cases h))) nw_class (fun h => by cases h) cxk51
def cxt52 : con := (73, [(2, 33, 1), (2, 13, 1)], [], [none], [], 5, 400, false)
theorem cxk52 : con_chk (kl bB cxF []) PT bB 198 cxF cxJ cxjo cxP 449 cxt52 = true := by decide +kernel   -- X7_copyFrom
theorem cxo52 : con_ok PT bB 198 cxF cxQ cxt52 := con_chk_ok (fun _ _ h => h) cxpp (kl_ok (fun _ h => (by cases h))) nw_class (fun h => by cases h) cxk52
def cxt53 : con := (73, [(2, 105, 1), (2, 13, 1)], [], [none], [], 5, 400, false)
theorem cxk53 : con_chk (kl bB cxF []) PT bB 198 cxF cxJ cxjo cxP 449 cxt53 = true := by decide +kernel   -- X7_copyFrom
theorem cxo53 : con_ok PT bB 198 cxF cxQ cxt53 := con_chk_ok (fun _ _ h => h) cxpp (kl_ok (fun _ h => (by cases h))) nw_class (fun h => by cases h) cxk53
def cxt54 : con := (73, [(2, 87, 1), (2, 13, 1)], [], [none], [], 5, 400, false)
theorem cxk54 : con_chk (kl bB cxF []) PT bB 198 cxF cxJ cxjo cxP 449 cxt54 = true := by decide +kernel   -- X7_copyFrom
theorem cxo54 : con_ok PT bB 198 cxF cxQ cxt54 := con_chk_ok (fun _ _ h => h) cxpp (kl_ok (fun _ h => (by cases h))) nw_class (fun h => by cases h) cxk54
def cxt55 : con := (73, [(2, 99, 1), (2, 13, 1)], [], [none], [], 5, 400, false)
theorem cxk55 : con_chk (kl bB cxF []) PT bB 198 cxF cxJ cxjo cxP 449 cxt55 = true := by decide +kernel   -- X7_copyFrom
theorem cxo55 : con_ok PT bB 198 cxF cxQ cxt55 := con_chk_ok (fun _ _ h => h) cxpp (kl_ok (fun _ h => (by cases h))) nw_class (fun h => by cases h) cxk55
def cxt56 : con := (16, [(2, 25, 1), (2, 13, 1)], [], [none], [], 10, 800, false)
theorem cxk56 : con_chk (kl bB cxF [cxt40, cxt41, cxt42, cxt43, cxt44, cxt45, cxt46, cxt47, cxt48, cxt49, cxt50, cxt51, cxt52, cxt53, cxt54, cxt55]) PT bB 198 cxF cxJ cxjo cxP 417 cxt56 = true := by decide +kernel   -- X2_mark
theorem cxo56 : con_ok PT bB 198 cxF cxQ cxt56 := con_chk_ok (fun _ _ h => h) cxpp (kl_ok (List.forall_mem_cons.mpr ⟨cxo40, List.forall_mem_cons.mpr ⟨cxo41, List.forall_mem_cons.mpr ⟨cxo42, List.forall_mem_cons.mpr ⟨cxo43, List.forall_mem_cons.mpr ⟨cxo44, List.forall_mem_cons.mpr ⟨cxo45, List.forall_mem_cons.mpr ⟨cxo46, List.forall_mem_cons.mpr ⟨cxo47, List.forall_mem_cons.mpr ⟨cxo48, List.forall_mem_cons.mpr ⟨cxo49, List.forall_mem_cons.mpr ⟨cxo50, List.forall_mem_cons.mpr ⟨cxo51, List.forall_mem_cons.mpr ⟨cxo52, List.forall_mem_cons.mpr ⟨cxo53, List.forall_mem_cons.mpr ⟨cxo54, List.forall_mem_cons.mpr ⟨cxo55, fun _ h => (by cases h)⟩⟩⟩⟩⟩⟩⟩⟩⟩⟩⟩⟩⟩⟩⟩⟩)) nw_class (fun h => by cases h) cxk56
def cxt57 : con := (17, [(2, 25, 1)], [], [none], [], 5, 400, false)
theorem cxk57 : con_chk (kl bB cxF []) PT bB 198 cxF cxJ cxjo cxP 428 cxt57 = true := by decide +kernel   -- X2_commit
theorem cxo57 : con_ok PT bB 198 cxF cxQ cxt57 := con_chk_ok (fun _ _ h => h) cxpp (kl_ok (fun _ h => (by cases h))) nw_class (fun h => by cases h) cxk57
def cxt58 : con := (18, [(2, 25, 1), (2, 13, 1)], [], [none], [], 15, 1200, false)
theorem cxk58 : con_chk (kl bB cxF [cxt56, cxt57]) PT bB 198 cxF cxJ cxjo cxP 406 cxt58 = true := by decide +kernel   -- X2_remember
theorem cxo58 : con_ok PT bB 198 cxF cxQ cxt58 := con_chk_ok (fun _ _ h => h) cxpp (kl_ok (List.forall_mem_cons.mpr ⟨cxo56, List.forall_mem_cons.mpr ⟨cxo57, fun _ h => (by cases h)⟩⟩)) nw_class (fun h => by cases h) cxk58
def cxt59 : con := (41, [(2, 5, 1), (2, 13, 1), (0, 0, 7)], [], [some (0, 0, 1)], [], 5, 400, true)
theorem cxk59 : con_chk (kl bB cxF []) PT bB 198 cxF cxJ cxjo cxP 431 cxt59 = true := by decide +kernel   -- X3_isEater
theorem cxo59 : con_ok PT bB 198 cxF cxQ cxt59 := con_chk_ok (fun _ _ h => h) cxpp (kl_ok (fun _ h => (by cases h))) nw_class (fun _ => by decide) cxk59
def cxt60 : con := (43, [(2, 5, 1), (2, 13, 1), (0, 0, 5)], [], [none], [], 10, 800, false)
theorem cxk60 : con_chk (kl bB cxF [cxt59]) PT bB 198 cxF cxJ cxjo cxP 754 cxt60 = true := by decide +kernel   -- X3_passMonthAt
theorem cxo60 : con_ok PT bB 198 cxF cxQ cxt60 := con_chk_ok (fun _ _ h => h) cxpp (kl_ok (List.forall_mem_cons.mpr ⟨cxo59, fun _ h => (by cases h)⟩)) nw_class (fun h => by cases h) cxk60
def cxt61 : con := (42, [(2, 5, 1), (2, 13, 1)], [], [none], [], 15, 1200, false)
theorem cxk61 : con_chk (kl bB cxF [cxt60]) PT bB 198 cxF cxJ cxjo cxP 473 cxt61 = true := by decide +kernel   -- X3_passMonth
theorem cxo61 : con_ok PT bB 198 cxF cxQ cxt61 := con_chk_ok (fun _ _ h => h) cxpp (kl_ok (List.forall_mem_cons.mpr ⟨cxo60, fun _ h => (by cases h)⟩)) nw_class (fun h => by cases h) cxk61
