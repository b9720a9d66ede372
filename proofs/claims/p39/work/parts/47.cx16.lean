/-! contracts -/
def cxt238 : con := (152, [(0, 0, 10), (0, 0, 12)], [], [some (1, (-9223372036854775808), 9223372036854775807)], [], 5, 400, true)
theorem cxk238 : con_chk (kl bB cxF []) PT bB 198 cxF cxJ cxjo cxP 763 cxt238 = true := by decide +kernel   -- X10_power
theorem cxo238 : con_ok PT bB 198 cxF cxQ cxt238 := con_chk_ok (fun _ _ h => h) cxpp (kl_ok (fun _ h => (by cases h))) nw_class (fun _ => by decide) cxk238
def cxt239 : con := (151, [(1, (-9223372036854775808), 9223372036854775807), (1, (-9223372036854775808), 9223372036854775807)], [], [some (1, (-9223372036854775808), 9223372036854775807)], [], 5, 400, true)
theorem cxk239 : con_chk (kl bB cxF []) PT bB 198 cxF cxJ cxjo cxP 3211 cxt239 = true := by decide +kernel   -- X10_greatestDivisor
theorem cxo239 : con_ok PT bB 198 cxF cxQ cxt239 := con_chk_ok (fun _ _ h => h) cxpp (kl_ok (fun _ h => (by cases h))) nw_class (fun _ => by decide) cxk239
def cxt240 : con := (150, [(2, 0, 1), (1, (-9223372036854775808), 9223372036854775807), (1, (-9223372036854775808), 9223372036854775807)], [], [none], [], 15, 1200, false)
theorem cxk240 : con_chk (kl bB cxF [cxt64, cxt239]) PT bB 198 cxF cxJ cxjo cxP 426 cxt240 = true := by decide +kernel   -- X10_tellFraction
theorem cxo240 : con_ok PT bB 198 cxF cxQ cxt240 := con_chk_ok (fun _ _ h => h) cxpp (kl_ok (List.forall_mem_cons.mpr ⟨cxo64, List.forall_mem_cons.mpr ⟨cxo239, fun _ h => (by cases h)⟩⟩)) nw_class (fun h => by cases h) cxk240
def cxt241 : con := (44, [(2, 5, 1), (2, 19, 1), (0, 0, 5)], [], [some (0, 1, 100)], [], 15, 1200, false)
theorem cxk241 : con_chk (kl bB cxF [cxt198]) PT bB 198 cxF cxJ cxjo cxP 1895 cxt241 = true := by decide +kernel   -- X3_firstDeath
theorem cxo241 : con_ok PT bB 198 cxF cxQ cxt241 := con_chk_ok (fun _ _ h => h) cxpp (kl_ok (List.forall_mem_cons.mpr ⟨cxo198, fun _ h => (by cases h)⟩)) nw_class (fun h => by cases h) cxk241
def cxt242 : con := (158, [(0, (-2147483648), 2147483647)], [], [some (0, (-1), 7)], [], 5, 400, true)
theorem cxk242 : con_chk (kl bB cxF []) PT bB 198 cxF cxJ cxjo cxP 511 cxt242 = true := by decide +kernel   -- X10_firstOf
theorem cxo242 : con_ok PT bB 198 cxF cxQ cxt242 := con_chk_ok (fun _ _ h => h) cxpp (kl_ok (fun _ h => (by cases h))) nw_class (fun _ => by decide) cxk242
def cxt243 : con := (39, [(2, 5, 1), (2, 142, 1), (2, 19, 1), (0, 0, 7), (0, 0, 5)], [], [some (0, 0, 999)], [], 15, 1200, false)
theorem cxk243 : con_chk (kl bB cxF [cxt65, cxt81]) PT bB 198 cxF cxJ cxjo cxP 499 cxt243 = true := by decide +kernel   -- X3_valueFor
theorem cxo243 : con_ok PT bB 198 cxF cxQ cxt243 := con_chk_ok (fun _ _ h => h) cxpp (kl_ok (List.forall_mem_cons.mpr ⟨cxo65, List.forall_mem_cons.mpr ⟨cxo81, fun _ h => (by cases h)⟩⟩)) nw_class (fun h => by cases h) cxk243
def cxt244 : con := (77, [(2, 19, 1), (0, 0, 7), (0, 0, 5), (0, 0, 9999), (0, 0, 999)], [], [some (0, (-9), 4)], [], 5, 400, true)
theorem cxk244 : con_chk (kl bB cxF []) PT bB 198 cxF cxJ cxjo cxP 459 cxt244 = true := by decide +kernel   -- X7_esteemGained
theorem cxo244 : con_ok PT bB 198 cxF cxQ cxt244 := con_chk_ok (fun _ _ h => h) cxpp (kl_ok (fun _ h => (by cases h))) nw_class (fun _ => by decide) cxk244
def cxt245 : con := (40, [(2, 5, 1), (2, 19, 1), (0, 0, 7), (0, 0, 5), (0, 0, 999)], [], [none], [], 10, 800, false)
theorem cxk245 : con_chk (kl bB cxF [cxt244]) PT bB 198 cxF cxJ cxjo cxP 534 cxt245 = true := by decide +kernel   -- X3_deliver
theorem cxo245 : con_ok PT bB 198 cxF cxQ cxt245 := con_chk_ok (fun _ _ h => h) cxpp (kl_ok (List.forall_mem_cons.mpr ⟨cxo244, fun _ h => (by cases h)⟩)) nw_class (fun h => by cases h) cxk245
def cxt246 : con := (39, [(2, 5, 1), (2, 145, 1), (2, 19, 1), (0, 0, 7), (0, 0, 5)], [], [some (0, 0, 999)], [], 15, 1200, false)
theorem cxk246 : con_chk (kl bB cxF [cxt65, cxt87]) PT bB 198 cxF cxJ cxjo cxP 499 cxt246 = true := by decide +kernel   -- X3_valueFor
theorem cxo246 : con_ok PT bB 198 cxF cxQ cxt246 := con_chk_ok (fun _ _ h => h) cxpp (kl_ok (List.forall_mem_cons.mpr ⟨cxo65, List.forall_mem_cons.mpr ⟨cxo87, fun _ h => (by cases h)⟩⟩)) nw_class (fun h => by cases h) cxk246
def cxt247 : con := (145, [(2, 0, 1), (0, 0, 7), (0, 0, 5)], [], [some (0, 0, 1)], [], 20, 1600, false)
theorem cxk247 : con_chk (kl bB cxF [cxt243, cxt245, cxt246]) PT bB 198 cxF cxJ cxjo cxP 427 cxt247 = true := by decide +kernel   -- X10_tryDelivery
theorem cxo247 : con_ok PT bB 198 cxF cxQ cxt247 := con_chk_ok (fun _ _ h => h) cxpp (kl_ok (List.forall_mem_cons.mpr ⟨cxo243, List.forall_mem_cons.mpr ⟨cxo245, List.forall_mem_cons.mpr ⟨cxo246, fun _ h => (by cases h)⟩⟩⟩)) nw_class (fun h => by cases h) cxk247
def cxt248 : con := (11, [(2, 151, 1), (0, 1, 1)], [], [some (0, (-2147483648), 2147483647)], [], 5, 400, false)
theorem cxk248 : con_chk (kl bB cxF []) PT bB 198 cxF cxJ cxjo cxP 490 cxt248 = true := by decide +kernel   -- X1_fewestPayments
theorem cxo248 : con_ok PT bB 198 cxF cxQ cxt248 := con_chk_ok (fun _ _ h => h) cxpp (kl_ok (fun _ h => (by cases h))) nw_class (fun h => by cases h) cxk248
def cxt249 : con := (148, [(2, 0, 1), (0, 1, 63)], [], [some (0, 0, 1)], [], 10, 800, true)
theorem cxk249 : con_chk (kl bB cxF [cxt208]) PT bB 198 cxF cxJ cxjo cxP 613 cxt249 = true := by decide +kernel   -- X10_isLeague
theorem cxo249 : con_ok PT bB 198 cxF cxQ cxt249 := con_chk_ok (fun _ _ h => h) cxpp (kl_ok (List.forall_mem_cons.mpr ⟨cxo208, fun _ h => (by cases h)⟩)) nw_class (fun _ => by decide) cxk249
def cxt250 : con := (30, [(2, 5, 1), (2, 13, 1), (0, 0, 5)], [], [some (0, 0, 255)], [], 5, 400, true)
theorem cxk250 : con_chk (kl bB cxF []) PT bB 198 cxF cxJ cxjo cxP 650 cxt250 = true := by decide +kernel   -- X3_formerlyOf
theorem cxo250 : con_ok PT bB 198 cxF cxQ cxt250 := con_chk_ok (fun _ _ h => h) cxpp (kl_ok (fun _ h => (by cases h))) nw_class (fun _ => by decide) cxk250
def cxt251 : con := (11, [(2, 151, 1), (0, 2, 2)], [], [some (0, (-2147483648), 2147483647)], [], 5, 400, false)
theorem cxk251 : con_chk (kl bB cxF []) PT bB 198 cxF cxJ cxjo cxP 677 cxt251 = true := by decide +kernel   -- X1_fewestPayments
theorem cxo251 : con_ok PT bB 198 cxF cxQ cxt251 := con_chk_ok (fun _ _ h => h) cxpp (kl_ok (fun _ h => (by cases h))) nw_class (fun h => by cases h) cxk251
def cxt252 : con := (14, [(2, 151, 1), (2, 13, 1), (0, 0, 6)], [], [some (0, 0, 9999)], [], 5, 400, true)
theorem cxk252 : con_chk (kl bB cxF []) PT bB 198 cxF cxJ cxjo cxP 778 cxt252 = true := by decide +kernel   -- X1_leastDue
theorem cxo252 : con_ok PT bB 198 cxF cxQ cxt252 := con_chk_ok (fun _ _ h => h) cxpp (kl_ok (fun _ h => (by cases h))) nw_class (fun _ => by decide) cxk252
