/-! contracts -/
def cxt176 : con := (62, [(2, 142, 1), (0, 1, 1), (0, 2, 2)], [], [some (0, 0, 1)], [], 100, 8000, false)
theorem cxk176 : con_chk (kl bB cxF [cxt157, cxt158, cxt175]) PT bB 198 cxF cxJ cxjo cxP 2103 cxt176 = true := by decide +kernel   -- X6_readLevel
theorem cxo176 : con_ok PT bB 198 cxF cxQ cxt176 := con_chk_ok (fun _ _ h => h) cxpp (kl_ok (List.forall_mem_cons.mpr ⟨cxo157, List.forall_mem_cons.mpr ⟨cxo158, List.forall_mem_cons.mpr ⟨cxo175, fun _ h => (by cases h)⟩⟩⟩)) nw_class (fun h => by cases h) cxk176
def cxt177 : con := (62, [(2, 142, 1), (0, 0, 0), (0, 2, 2)], [], [some (0, 0, 1)], [], 105, 8400, false)
theorem cxk177 : con_chk (kl bB cxF [cxt157, cxt158, cxt176]) PT bB 198 cxF cxJ cxjo cxP 466 cxt177 = true := by decide +kernel   -- X6_readLevel
theorem cxo177 : con_ok PT bB 198 cxF cxQ cxt177 := con_chk_ok (fun _ _ h => h) cxpp (kl_ok (List.forall_mem_cons.mpr ⟨cxo157, List.forall_mem_cons.mpr ⟨cxo158, List.forall_mem_cons.mpr ⟨cxo176, fun _ h => (by cases h)⟩⟩⟩)) nw_class (fun h => by cases h) cxk177
def cxt178 : con := (65, [(2, 142, 1), (0, 1, 1)], [], [some (0, 0, 1)], [], 110, 8800, false)
theorem cxk178 : con_chk (kl bB cxF [cxt7, cxt157, cxt158, cxt159, cxt177]) PT bB 198 cxF cxJ cxjo cxP 475 cxt178 = true := by decide +kernel   -- X6_readThing
theorem cxo178 : con_ok PT bB 198 cxF cxQ cxt178 := con_chk_ok (fun _ _ h => h) cxpp (kl_ok (List.forall_mem_cons.mpr ⟨cxo7, List.forall_mem_cons.mpr ⟨cxo157, List.forall_mem_cons.mpr ⟨cxo158, List.forall_mem_cons.mpr ⟨cxo159, List.forall_mem_cons.mpr ⟨cxo177, fun _ h => (by cases h)⟩⟩⟩⟩⟩)) nw_class (fun h => by cases h) cxk178
def cxt179 : con := (64, [(2, 142, 1), (0, 1, 1)], [], [some (0, 0, 1)], [], 115, 9200, false)
theorem cxk179 : con_chk (kl bB cxF [cxt157, cxt158, cxt178]) PT bB 198 cxF cxJ cxjo cxP 1202 cxt179 = true := by decide +kernel   -- X6_readSigned
theorem cxo179 : con_ok PT bB 198 cxF cxQ cxt179 := con_chk_ok (fun _ _ h => h) cxpp (kl_ok (List.forall_mem_cons.mpr ⟨cxo157, List.forall_mem_cons.mpr ⟨cxo158, List.forall_mem_cons.mpr ⟨cxo178, fun _ h => (by cases h)⟩⟩⟩)) nw_class (fun h => by cases h) cxk179
def cxt180 : con := (62, [(2, 142, 1), (0, 3, 3), (0, 1, 1)], [], [some (0, 0, 1)], [], 120, 9600, false)
theorem cxk180 : con_chk (kl bB cxF [cxt179]) PT bB 198 cxF cxJ cxjo cxP 407 cxt180 = true := by decide +kernel   -- X6_readLevel
theorem cxo180 : con_ok PT bB 198 cxF cxQ cxt180 := con_chk_ok (fun _ _ h => h) cxpp (kl_ok (List.forall_mem_cons.mpr ⟨cxo179, fun _ h => (by cases h)⟩)) nw_class (fun h => by cases h) cxk180
def cxt181 : con := (62, [(2, 142, 1), (0, 2, 2), (0, 1, 1)], [], [some (0, 0, 1)], [], 125, 10000, false)
theorem cxk181 : con_chk (kl bB cxF [cxt157, cxt158, cxt180]) PT bB 198 cxF cxJ cxjo cxP 2103 cxt181 = true := by decide +kernel   -- X6_readLevel
theorem cxo181 : con_ok PT bB 198 cxF cxQ cxt181 := con_chk_ok (fun _ _ h => h) cxpp (kl_ok (List.forall_mem_cons.mpr ⟨cxo157, List.forall_mem_cons.mpr ⟨cxo158, List.forall_mem_cons.mpr ⟨cxo180, fun _ h => (by cases h)⟩⟩⟩)) nw_class (fun h => by cases h) cxk181
def cxt182 : con := (62, [(2, 142, 1), (0, 1, 1), (0, 1, 1)], [], [some (0, 0, 1)], [], 130, 10400, false)
theorem cxk182 : con_chk (kl bB cxF [cxt157, cxt158, cxt181]) PT bB 198 cxF cxJ cxjo cxP 2103 cxt182 = true := by decide +kernel   -- X6_readLevel
theorem cxo182 : con_ok PT bB 198 cxF cxQ cxt182 := con_chk_ok (fun _ _ h => h) cxpp (kl_ok (List.forall_mem_cons.mpr ⟨cxo157, List.forall_mem_cons.mpr ⟨cxo158, List.forall_mem_cons.mpr ⟨cxo181, fun _ h => (by cases h)⟩⟩⟩)) nw_class (fun h => by cases h) cxk182
def cxt183 : con := (62, [(2, 142, 1), (0, 0, 0), (0, 1, 1)], [], [some (0, 0, 1)], [], 135, 10800, false)
theorem cxk183 : con_chk (kl bB cxF [cxt157, cxt158, cxt182]) PT bB 198 cxF cxJ cxjo cxP 466 cxt183 = true := by decide +kernel   -- X6_readLevel
theorem cxo183 : con_ok PT bB 198 cxF cxQ cxt183 := con_chk_ok (fun _ _ h => h) cxpp (kl_ok (List.forall_mem_cons.mpr ⟨cxo157, List.forall_mem_cons.mpr ⟨cxo158, List.forall_mem_cons.mpr ⟨cxo182, fun _ h => (by cases h)⟩⟩⟩)) nw_class (fun h => by cases h) cxk183
def cxt184 : con := (65, [(2, 142, 1), (0, 0, 0)], [], [some (0, 0, 1)], [], 140, 11200, false)
theorem cxk184 : con_chk (kl bB cxF [cxt7, cxt157, cxt158, cxt159, cxt183]) PT bB 198 cxF cxJ cxjo cxP 475 cxt184 = true := by decide +kernel   -- X6_readThing
theorem cxo184 : con_ok PT bB 198 cxF cxQ cxt184 := con_chk_ok (fun _ _ h => h) cxpp (kl_ok (List.forall_mem_cons.mpr ⟨cxo7, List.forall_mem_cons.mpr ⟨cxo157, List.forall_mem_cons.mpr ⟨cxo158, List.forall_mem_cons.mpr ⟨cxo159, List.forall_mem_cons.mpr ⟨cxo183, fun _ h => (by cases h)⟩⟩⟩⟩⟩)) nw_class (fun h => by cases h) cxk184
