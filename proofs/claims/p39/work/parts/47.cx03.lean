/-! contracts -/
def cxt24 : con := (62, [(2, 145, 1), (0, 1, 1), (0, 2, 2)], [], [some (0, 0, 1)], [], 100, 8000, false)
theorem cxk24 : con_chk (kl bB cxF [cxt3, cxt5, cxt23]) PT bB 198 cxF cxJ cxjo cxP 2103 cxt24 = true := by decide +kernel   -- X6_readLevel
theorem cxo24 : con_ok PT bB 198 cxF cxQ cxt24 := con_chk_ok (fun _ _ h => h) cxpp (kl_ok (List.forall_mem_cons.mpr ⟨cxo3, List.forall_mem_cons.mpr ⟨cxo5, List.forall_mem_cons.mpr ⟨cxo23, fun _ h => (by cases h)⟩⟩⟩)) nw_class (fun h => by cases h) cxk24
def cxt25 : con := (62, [(2, 145, 1), (0, 0, 0), (0, 2, 2)], [], [some (0, 0, 1)], [], 105, 8400, false)
theorem cxk25 : con_chk (kl bB cxF [cxt3, cxt5, cxt24]) PT bB 198 cxF cxJ cxjo cxP 466 cxt25 = true := by decide +kernel   -- X6_readLevel
theorem cxo25 : con_ok PT bB 198 cxF cxQ cxt25 := con_chk_ok (fun _ _ h => h) cxpp (kl_ok (List.forall_mem_cons.mpr ⟨cxo3, List.forall_mem_cons.mpr ⟨cxo5, List.forall_mem_cons.mpr ⟨cxo24, fun _ h => (by cases h)⟩⟩⟩)) nw_class (fun h => by cases h) cxk25
def cxt26 : con := (65, [(2, 145, 1), (0, 1, 1)], [], [some (0, 0, 1)], [], 110, 8800, false)
theorem cxk26 : con_chk (kl bB cxF [cxt3, cxt5, cxt6, cxt7, cxt25]) PT bB 198 cxF cxJ cxjo cxP 475 cxt26 = true := by decide +kernel   -- X6_readThing
theorem cxo26 : con_ok PT bB 198 cxF cxQ cxt26 := con_chk_ok (fun _ _ h => h) cxpp (kl_ok (List.forall_mem_cons.mpr ⟨cxo3, List.forall_mem_cons.mpr ⟨cxo5, List.forall_mem_cons.mpr ⟨cxo6, List.forall_mem_cons.mpr ⟨cxo7, List.forall_mem_cons.mpr ⟨cxo25, fun _ h => (by cases h)⟩⟩⟩⟩⟩)) nw_class (fun h => by cases h) cxk26
def cxt27 : con := (64, [(2, 145, 1), (0, 1, 1)], [], [some (0, 0, 1)], [], 115, 9200, false)
theorem cxk27 : con_chk (kl bB cxF [cxt3, cxt5, cxt26]) PT bB 198 cxF cxJ cxjo cxP 1202 cxt27 = true := by decide +kernel   -- X6_readSigned
theorem cxo27 : con_ok PT bB 198 cxF cxQ cxt27 := con_chk_ok (fun _ _ h => h) cxpp (kl_ok (List.forall_mem_cons.mpr ⟨cxo3, List.forall_mem_cons.mpr ⟨cxo5, List.forall_mem_cons.mpr ⟨cxo26, fun _ h => (by cases h)⟩⟩⟩)) nw_class (fun h => by cases h) cxk27
def cxt28 : con := (62, [(2, 145, 1), (0, 3, 3), (0, 1, 1)], [], [some (0, 0, 1)], [], 120, 9600, false)
theorem cxk28 : con_chk (kl bB cxF [cxt27]) PT bB 198 cxF cxJ cxjo cxP 407 cxt28 = true := by decide +kernel   -- X6_readLevel
theorem cxo28 : con_ok PT bB 198 cxF cxQ cxt28 := con_chk_ok (fun _ _ h => h) cxpp (kl_ok (List.forall_mem_cons.mpr ⟨cxo27, fun _ h => (by cases h)⟩)) nw_class (fun h => by cases h) cxk28
def cxt29 : con := (62, [(2, 145, 1), (0, 2, 2), (0, 1, 1)], [], [some (0, 0, 1)], [], 125, 10000, false)
theorem cxk29 : con_chk (kl bB cxF [cxt3, cxt5, cxt28]) PT bB 198 cxF cxJ cxjo cxP 2103 cxt29 = true := by decide +kernel   -- X6_readLevel
theorem cxo29 : con_ok PT bB 198 cxF cxQ cxt29 := con_chk_ok (fun _ _ h => h) cxpp (kl_ok (List.forall_mem_cons.mpr ⟨cxo3, List.forall_mem_cons.mpr ⟨cxo5, List.forall_mem_cons.mpr ⟨cxo28, fun _ h => (by cases h)⟩⟩⟩)) nw_class (fun h => by cases h) cxk29
def cxt30 : con := (62, [(2, 145, 1), (0, 1, 1), (0, 1, 1)], [], [some (0, 0, 1)], [], 130, 10400, false)
theorem cxk30 : con_chk (kl bB cxF [cxt3, cxt5, cxt29]) PT bB 198 cxF cxJ cxjo cxP 2103 cxt30 = true := by decide +kernel   -- X6_readLevel
theorem cxo30 : con_ok PT bB 198 cxF cxQ cxt30 := con_chk_ok (fun _ _ h => h) cxpp (kl_ok (List.forall_mem_cons.mpr ⟨cxo3, List.forall_mem_cons.mpr ⟨cxo5, List.forall_mem_cons.mpr ⟨cxo29, fun _ h => (by cases h)⟩⟩⟩)) nw_class (fun h => by cases h) cxk30
def cxt31 : con := (62, [(2, 145, 1), (0, 0, 0), (0, 1, 1)], [], [some (0, 0, 1)], [], 135, 10800, false)
theorem cxk31 : con_chk (kl bB cxF [cxt3, cxt5, cxt30]) PT bB 198 cxF cxJ cxjo cxP 466 cxt31 = true := by decide +kernel   -- X6_readLevel
theorem cxo31 : con_ok PT bB 198 cxF cxQ cxt31 := con_chk_ok (fun _ _ h => h) cxpp (kl_ok (List.forall_mem_cons.mpr ⟨cxo3, List.forall_mem_cons.mpr ⟨cxo5, List.forall_mem_cons.mpr ⟨cxo30, fun _ h => (by cases h)⟩⟩⟩)) nw_class (fun h => by cases h) cxk31
def cxt32 : con := (65, [(2, 145, 1), (0, 0, 0)], [], [some (0, 0, 1)], [], 140, 11200, false)
theorem cxk32 : con_chk (kl bB cxF [cxt3, cxt5, cxt6, cxt7, cxt31]) PT bB 198 cxF cxJ cxjo cxP 475 cxt32 = true := by decide +kernel   -- X6_readThing
theorem cxo32 : con_ok PT bB 198 cxF cxQ cxt32 := con_chk_ok (fun _ _ h => h) cxpp (kl_ok (List.forall_mem_cons.mpr ⟨cxo3, List.forall_mem_cons.mpr ⟨cxo5, List.forall_mem_cons.mpr ⟨cxo6, List.forall_mem_cons.mpr ⟨cxo7, List.forall_mem_cons.mpr ⟨cxo31, fun _ h => (by cases h)⟩⟩⟩⟩⟩)) nw_class (fun h => by cases h) cxk32
