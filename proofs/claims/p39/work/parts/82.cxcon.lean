/-! contracts -/
def cxt0 : con := (79, [(2, 1, 1), (0, (-2147483648), 2147483647)], [], [some (0, 0, 1)], [], 5, 400, false)
theorem cxk0 : con_chk (kl cxB []) PT cxB 198 cxJ cxjo cxP 404 cxt0 = true := by decide +kernel   -- X8_addFour
theorem cxo0 : con_ok PT cxB 198 cxt0 := con_chk_ok (kl_ok (fun _ h => (by cases h))) nw_class (fun h => by cases h) cxk0
def cxt1 : con := (80, [(2, 1, 1), (0, (-2147483648), 2147483647), (0, 40, 60)], [], [some (0, (-1), 65535)], [], 5, 400, true)
theorem cxk1 : con_chk (kl cxB []) PT cxB 198 cxJ cxjo cxP 328 cxt1 = true := by decide +kernel   -- X8_signAt
theorem cxo1 : con_ok PT cxB 198 cxt1 := con_chk_ok (kl_ok (fun _ h => (by cases h))) nw_class (fun _ => by decide) cxk1
def cxt2 : con := (81, [(2, 1, 1), (0, (-2147483648), 2147483647), (0, 40, 60)], [], [some (0, (-1), 9)], [], 10, 800, true)
theorem cxk2 : con_chk (kl cxB [cxt1]) PT cxB 198 cxJ cxjo cxP 323 cxt2 = true := by decide +kernel   -- X8_digitAt
theorem cxo2 : con_ok PT cxB 198 cxt2 := con_chk_ok (kl_ok (List.forall_mem_cons.mpr ⟨cxo1, fun _ h => (by cases h)⟩)) nw_class (fun _ => by decide) cxk2
def cxt3 : con := (60, [(2, 145, 1), (0, (-2147483648), 999)], [], [none], [], 5, 400, false)
theorem cxk3 : con_chk (kl cxB []) PT cxB 198 cxJ cxjo cxP 321 cxt3 = true := by decide +kernel   -- X6_emit
theorem cxo3 : con_ok PT cxB 198 cxt3 := con_chk_ok (kl_ok (fun _ h => (by cases h))) nw_class (fun h => by cases h) cxk3
def cxt4 : con := (59, [(2, 145, 1)], [], [none], [], 10, 800, false)
theorem cxk4 : con_chk (kl cxB [cxt3]) PT cxB 198 cxJ cxjo cxP 319 cxt4 = true := by decide +kernel   -- X6_beFirstRule
theorem cxo4 : con_ok PT cxB 198 cxt4 := con_chk_ok (kl_ok (List.forall_mem_cons.mpr ⟨cxo3, fun _ h => (by cases h)⟩)) nw_class (fun h => by cases h) cxk4
def cxt5 : con := (61, [(2, 145, 1)], [], [some (0, (-1), 65535)], [], 10, 800, true)
theorem cxk5 : con_chk (kl cxB [cxt1]) PT cxB 198 cxJ cxjo cxP 307 cxt5 = true := by decide +kernel   -- X6_nextSign
theorem cxo5 : con_ok PT cxB 198 cxt5 := con_chk_ok (kl_ok (List.forall_mem_cons.mpr ⟨cxo1, fun _ h => (by cases h)⟩)) nw_class (fun _ => by decide) cxk5
def cxt6 : con := (66, [(2, 145, 1)], [], [none], [], 15, 1200, false)
theorem cxk6 : con_chk (kl cxB [cxt2, cxt3]) PT cxB 198 cxJ cxjo cxP 402 cxt6 = true := by decide +kernel   -- X6_readNumber
theorem cxo6 : con_ok PT cxB 198 cxt6 := con_chk_ok (kl_ok (List.forall_mem_cons.mpr ⟨cxo2, List.forall_mem_cons.mpr ⟨cxo3, fun _ h => (by cases h)⟩⟩)) nw_class (fun h => by cases h) cxk6
def cxt7 : con := (67, [(0, (-2147483648), 2147483647)], [], [some (0, (-1), 6)], [], 5, 400, true)
theorem cxk7 : con_chk (kl cxB []) PT cxB 198 cxJ cxjo cxP 318 cxt7 = true := by decide +kernel   -- X6_letterOf
theorem cxo7 : con_ok PT cxB 198 cxt7 := con_chk_ok (kl_ok (fun _ h => (by cases h))) nw_class (fun _ => by decide) cxk7
def cxt8 : con := (65, [(2, 145, 1), (0, 4, 4)], [], [some (0, 0, 1)], [], 20, 1600, false)
theorem cxk8 : con_chk (kl cxB [cxt3, cxt5, cxt6, cxt7]) PT cxB 198 cxJ cxjo cxP 348 cxt8 = true := by decide +kernel   -- X6_readThing
theorem cxo8 : con_ok PT cxB 198 cxt8 := con_chk_ok (kl_ok (List.forall_mem_cons.mpr ⟨cxo3, List.forall_mem_cons.mpr ⟨cxo5, List.forall_mem_cons.mpr ⟨cxo6, List.forall_mem_cons.mpr ⟨cxo7, fun _ h => (by cases h)⟩⟩⟩⟩)) nw_class (fun h => by cases h) cxk8
