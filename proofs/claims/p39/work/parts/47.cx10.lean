/-! contracts -/
def cxt169 : con := (62, [(2, 142, 1), (0, 2, 2), (0, 3, 3)], [], [some (0, 0, 1)], [], 65, 5200, false)
theorem cxk169 : con_chk (kl bB cxF [cxt157, cxt158, cxt168]) PT bB 198 cxF cxJ cxjo cxP 2103 cxt169 = true := by decide +kernel   -- X6_readLevel
theorem cxo169 : con_ok PT bB 198 cxF cxQ cxt169 := con_chk_ok (fun _ _ h => h) cxpp (kl_ok (List.forall_mem_cons.mpr ⟨cxo157, List.forall_mem_cons.mpr ⟨cxo158, List.forall_mem_cons.mpr ⟨cxo168, fun _ h => (by cases h)⟩⟩⟩)) nw_class (fun h => by cases h) cxk169
def cxt170 : con := (62, [(2, 142, 1), (0, 1, 1), (0, 3, 3)], [], [some (0, 0, 1)], [], 70, 5600, false)
theorem cxk170 : con_chk (kl bB cxF [cxt157, cxt158, cxt169]) PT bB 198 cxF cxJ cxjo cxP 2103 cxt170 = true := by decide +kernel   -- X6_readLevel
theorem cxo170 : con_ok PT bB 198 cxF cxQ cxt170 := con_chk_ok (fun _ _ h => h) cxpp (kl_ok (List.forall_mem_cons.mpr ⟨cxo157, List.forall_mem_cons.mpr ⟨cxo158, List.forall_mem_cons.mpr ⟨cxo169, fun _ h => (by cases h)⟩⟩⟩)) nw_class (fun h => by cases h) cxk170
def cxt171 : con := (62, [(2, 142, 1), (0, 0, 0), (0, 3, 3)], [], [some (0, 0, 1)], [], 75, 6000, false)
theorem cxk171 : con_chk (kl bB cxF [cxt157, cxt158, cxt170]) PT bB 198 cxF cxJ cxjo cxP 466 cxt171 = true := by decide +kernel   -- X6_readLevel
theorem cxo171 : con_ok PT bB 198 cxF cxQ cxt171 := con_chk_ok (fun _ _ h => h) cxpp (kl_ok (List.forall_mem_cons.mpr ⟨cxo157, List.forall_mem_cons.mpr ⟨cxo158, List.forall_mem_cons.mpr ⟨cxo170, fun _ h => (by cases h)⟩⟩⟩)) nw_class (fun h => by cases h) cxk171
def cxt172 : con := (65, [(2, 142, 1), (0, 2, 2)], [], [some (0, 0, 1)], [], 80, 6400, false)
theorem cxk172 : con_chk (kl bB cxF [cxt7, cxt157, cxt158, cxt159, cxt171]) PT bB 198 cxF cxJ cxjo cxP 475 cxt172 = true := by decide +kernel   -- X6_readThing
theorem cxo172 : con_ok PT bB 198 cxF cxQ cxt172 := con_chk_ok (fun _ _ h => h) cxpp (kl_ok (List.forall_mem_cons.mpr ⟨cxo7, List.forall_mem_cons.mpr ⟨cxo157, List.forall_mem_cons.mpr ⟨cxo158, List.forall_mem_cons.mpr ⟨cxo159, List.forall_mem_cons.mpr ⟨cxo171, fun _ h => (by cases h)⟩⟩⟩⟩⟩)) nw_class (fun h => by cases h) cxk172
def cxt173 : con := (64, [(2, 142, 1), (0, 2, 2)], [], [some (0, 0, 1)], [], 85, 6800, false)
theorem cxk173 : con_chk (kl bB cxF [cxt157, cxt158, cxt172]) PT bB 198 cxF cxJ cxjo cxP 1202 cxt173 = true := by decide +kernel   -- X6_readSigned
theorem cxo173 : con_ok PT bB 198 cxF cxQ cxt173 := con_chk_ok (fun _ _ h => h) cxpp (kl_ok (List.forall_mem_cons.mpr ⟨cxo157, List.forall_mem_cons.mpr ⟨cxo158, List.forall_mem_cons.mpr ⟨cxo172, fun _ h => (by cases h)⟩⟩⟩)) nw_class (fun h => by cases h) cxk173
def cxt174 : con := (62, [(2, 142, 1), (0, 3, 3), (0, 2, 2)], [], [some (0, 0, 1)], [], 90, 7200, false)
theorem cxk174 : con_chk (kl bB cxF [cxt173]) PT bB 198 cxF cxJ cxjo cxP 407 cxt174 = true := by decide +kernel   -- X6_readLevel
theorem cxo174 : con_ok PT bB 198 cxF cxQ cxt174 := con_chk_ok (fun _ _ h => h) cxpp (kl_ok (List.forall_mem_cons.mpr ⟨cxo173, fun _ h => (by cases h)⟩)) nw_class (fun h => by cases h) cxk174
def cxt175 : con := (62, [(2, 142, 1), (0, 2, 2), (0, 2, 2)], [], [some (0, 0, 1)], [], 95, 7600, false)
theorem cxk175 : con_chk (kl bB cxF [cxt157, cxt158, cxt174]) PT bB 198 cxF cxJ cxjo cxP 2103 cxt175 = true := by decide +kernel   -- X6_readLevel
theorem cxo175 : con_ok PT bB 198 cxF cxQ cxt175 := con_chk_ok (fun _ _ h => h) cxpp (kl_ok (List.forall_mem_cons.mpr ⟨cxo157, List.forall_mem_cons.mpr ⟨cxo158, List.forall_mem_cons.mpr ⟨cxo174, fun _ h => (by cases h)⟩⟩⟩)) nw_class (fun h => by cases h) cxk175
