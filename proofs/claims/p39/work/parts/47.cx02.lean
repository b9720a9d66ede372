/-! contracts -/
def cxt17 : con := (62, [(2, 145, 1), (0, 2, 2), (0, 3, 3)], [], [some (0, 0, 1)], [], 65, 5200, false)
theorem cxk17 : con_chk (kl bB cxF [cxt3, cxt5, cxt16]) PT bB 198 cxF cxJ cxjo cxP 2103 cxt17 = true := by decide +kernel   -- X6_readLevel
theorem cxo17 : con_ok PT bB 198 cxF cxQ cxt17 := con_chk_ok (fun _ _ h => h) cxpp (kl_ok (List.forall_mem_cons.mpr ⟨cxo3, List.forall_mem_cons.mpr ⟨cxo5, List.forall_mem_cons.mpr ⟨cxo16, fun _ h => (by cases h)⟩⟩⟩)) nw_class (fun h => by cases h) cxk17
def cxt18 : con := (62, [(2, 145, 1), (0, 1, 1), (0, 3, 3)], [], [some (0, 0, 1)], [], 70, 5600, false)
theorem cxk18 : con_chk (kl bB cxF [cxt3, cxt5, cxt17]) PT bB 198 cxF cxJ cxjo cxP 2103 cxt18 = true := by decide +kernel   -- X6_readLevel
theorem cxo18 : con_ok PT bB 198 cxF cxQ cxt18 := con_chk_ok (fun _ _ h => h) cxpp (kl_ok (List.forall_mem_cons.mpr ⟨cxo3, List.forall_mem_cons.mpr ⟨cxo5, List.forall_mem_cons.mpr ⟨cxo17, fun _ h => (by cases h)⟩⟩⟩)) nw_class (fun h => by cases h) cxk18
def cxt19 : con := (62, [(2, 145, 1), (0, 0, 0), (0, 3, 3)], [], [some (0, 0, 1)], [], 75, 6000, false)
theorem cxk19 : con_chk (kl bB cxF [cxt3, cxt5, cxt18]) PT bB 198 cxF cxJ cxjo cxP 466 cxt19 = true := by decide +kernel   -- X6_readLevel
theorem cxo19 : con_ok PT bB 198 cxF cxQ cxt19 := con_chk_ok (fun _ _ h => h) cxpp (kl_ok (List.forall_mem_cons.mpr ⟨cxo3, List.forall_mem_cons.mpr ⟨cxo5, List.forall_mem_cons.mpr ⟨cxo18, fun _ h => (by cases h)⟩⟩⟩)) nw_class (fun h => by cases h) cxk19
def cxt20 : con := (65, [(2, 145, 1), (0, 2, 2)], [], [some (0, 0, 1)], [], 80, 6400, false)
theorem cxk20 : con_chk (kl bB cxF [cxt3, cxt5, cxt6, cxt7, cxt19]) PT bB 198 cxF cxJ cxjo cxP 475 cxt20 = true := by decide +kernel   -- X6_readThing
theorem cxo20 : con_ok PT bB 198 cxF cxQ cxt20 := con_chk_ok (fun _ _ h => h) cxpp (kl_ok (List.forall_mem_cons.mpr ⟨cxo3, List.forall_mem_cons.mpr ⟨cxo5, List.forall_mem_cons.mpr ⟨cxo6, List.forall_mem_cons.mpr ⟨cxo7, List.forall_mem_cons.mpr ⟨cxo19, fun _ h => (by cases h)⟩⟩⟩⟩⟩)) nw_class (fun h => by cases h) cxk20
def cxt21 : con := (64, [(2, 145, 1), (0, 2, 2)], [], [some (0, 0, 1)], [], 85, 6800, false)
theorem cxk21 : con_chk (kl bB cxF [cxt3, cxt5, cxt20]) PT bB 198 cxF cxJ cxjo cxP 1202 cxt21 = true := by decide +kernel   -- X6_readSigned
theorem cxo21 : con_ok PT bB 198 cxF cxQ cxt21 := con_chk_ok (fun _ _ h => h) cxpp (kl_ok (List.forall_mem_cons.mpr ⟨cxo3, List.forall_mem_cons.mpr ⟨cxo5, List.forall_mem_cons.mpr ⟨cxo20, fun _ h => (by cases h)⟩⟩⟩)) nw_class (fun h => by cases h) cxk21
def cxt22 : con := (62, [(2, 145, 1), (0, 3, 3), (0, 2, 2)], [], [some (0, 0, 1)], [], 90, 7200, false)
theorem cxk22 : con_chk (kl bB cxF [cxt21]) PT bB 198 cxF cxJ cxjo cxP 407 cxt22 = true := by decide +kernel   -- X6_readLevel
theorem cxo22 : con_ok PT bB 198 cxF cxQ cxt22 := con_chk_ok (fun _ _ h => h) cxpp (kl_ok (List.forall_mem_cons.mpr ⟨cxo21, fun _ h => (by cases h)⟩)) nw_class (fun h => by cases h) cxk22
def cxt23 : con := (62, [(2, 145, 1), (0, 2, 2), (0, 2, 2)], [], [some (0, 0, 1)], [], 95, 7600, false)
theorem cxk23 : con_chk (kl bB cxF [cxt3, cxt5, cxt22]) PT bB 198 cxF cxJ cxjo cxP 2103 cxt23 = true := by decide +kernel   -- X6_readLevel
theorem cxo23 : con_ok PT bB 198 cxF cxQ cxt23 := con_chk_ok (fun _ _ h => h) cxpp (kl_ok (List.forall_mem_cons.mpr ⟨cxo3, List.forall_mem_cons.mpr ⟨cxo5, List.forall_mem_cons.mpr ⟨cxo22, fun _ h => (by cases h)⟩⟩⟩)) nw_class (fun h => by cases h) cxk23
