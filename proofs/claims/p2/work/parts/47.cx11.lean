/-! contracts -/
def cxt179 : con := (62, [(2, 142, 1), (0, 1, 1), (0, 4, 4)], [], [some (0, 0, 1)], [], 40, 3200, false)
theorem cxk179 : con_chk (kl bB cxF [cxt171, cxt173, cxt178]) PT bB 198 cxF cxJ cxjo cxP 2103 cxt179 = true := fq_chk1 (fq_jn_eq _) rfl (by decide +kernel)   -- X6_readLevel
theorem cxo179 : con_ok PT bB 198 cxF cxQ cxt179 := con_chk_ok (fun _ _ h => h) cxpp (kl_ok (List.forall_mem_cons.mpr ⟨cxo171, List.forall_mem_cons.mpr ⟨cxo173, List.forall_mem_cons.mpr ⟨cxo178, fun _ h => (by cases h)⟩⟩⟩)) nw_class (fun h => by cases h) cxk179
def cxt180 : con := (62, [(2, 142, 1), (0, 0, 0), (0, 4, 4)], [], [some (0, 0, 1)], [], 45, 3600, false)
theorem cxk180 : con_chk (kl bB cxF [cxt171, cxt173, cxt179]) PT bB 198 cxF cxJ cxjo cxP 466 cxt180 = true := fq_chk1 (fq_jn_eq _) rfl (by decide +kernel)   -- X6_readLevel
theorem cxo180 : con_ok PT bB 198 cxF cxQ cxt180 := con_chk_ok (fun _ _ h => h) cxpp (kl_ok (List.forall_mem_cons.mpr ⟨cxo171, List.forall_mem_cons.mpr ⟨cxo173, List.forall_mem_cons.mpr ⟨cxo179, fun _ h => (by cases h)⟩⟩⟩)) nw_class (fun h => by cases h) cxk180
def cxt181 : con := (65, [(2, 142, 1), (0, 3, 3)], [], [some (0, 0, 1)], [], 50, 4000, false)
theorem cxk181 : con_chk (kl bB cxF [cxt43, cxt171, cxt173, cxt174, cxt180]) PT bB 198 cxF cxJ cxjo cxP 475 cxt181 = true := fq_chk1 (fq_jn_eq _) rfl (by decide +kernel)   -- X6_readThing
theorem cxo181 : con_ok PT bB 198 cxF cxQ cxt181 := con_chk_ok (fun _ _ h => h) cxpp (kl_ok (List.forall_mem_cons.mpr ⟨cxo43, List.forall_mem_cons.mpr ⟨cxo171, List.forall_mem_cons.mpr ⟨cxo173, List.forall_mem_cons.mpr ⟨cxo174, List.forall_mem_cons.mpr ⟨cxo180, fun _ h => (by cases h)⟩⟩⟩⟩⟩)) nw_class (fun h => by cases h) cxk181
def cxt182 : con := (64, [(2, 142, 1), (0, 3, 3)], [], [some (0, 0, 1)], [], 55, 4400, false)
theorem cxk182 : con_chk (kl bB cxF [cxt171, cxt173, cxt181]) PT bB 198 cxF cxJ cxjo cxP 1202 cxt182 = true := fq_chk1 (fq_jn_eq _) rfl (by decide +kernel)   -- X6_readSigned
theorem cxo182 : con_ok PT bB 198 cxF cxQ cxt182 := con_chk_ok (fun _ _ h => h) cxpp (kl_ok (List.forall_mem_cons.mpr ⟨cxo171, List.forall_mem_cons.mpr ⟨cxo173, List.forall_mem_cons.mpr ⟨cxo181, fun _ h => (by cases h)⟩⟩⟩)) nw_class (fun h => by cases h) cxk182
def cxt183 : con := (62, [(2, 142, 1), (0, 3, 3), (0, 3, 3)], [], [some (0, 0, 1)], [], 60, 4800, false)
theorem cxk183 : con_chk (kl bB cxF [cxt182]) PT bB 198 cxF cxJ cxjo cxP 407 cxt183 = true := fq_chk1 (fq_jn_eq _) rfl (by decide +kernel)   -- X6_readLevel
theorem cxo183 : con_ok PT bB 198 cxF cxQ cxt183 := con_chk_ok (fun _ _ h => h) cxpp (kl_ok (List.forall_mem_cons.mpr ⟨cxo182, fun _ h => (by cases h)⟩)) nw_class (fun h => by cases h) cxk183
def cxt184 : con := (62, [(2, 142, 1), (0, 2, 2), (0, 3, 3)], [], [some (0, 0, 1)], [], 65, 5200, false)
theorem cxk184 : con_chk (kl bB cxF [cxt171, cxt173, cxt183]) PT bB 198 cxF cxJ cxjo cxP 2103 cxt184 = true := fq_chk1 (fq_jn_eq _) rfl (by decide +kernel)   -- X6_readLevel
theorem cxo184 : con_ok PT bB 198 cxF cxQ cxt184 := con_chk_ok (fun _ _ h => h) cxpp (kl_ok (List.forall_mem_cons.mpr ⟨cxo171, List.forall_mem_cons.mpr ⟨cxo173, List.forall_mem_cons.mpr ⟨cxo183, fun _ h => (by cases h)⟩⟩⟩)) nw_class (fun h => by cases h) cxk184
def cxt185 : con := (62, [(2, 142, 1), (0, 1, 1), (0, 3, 3)], [], [some (0, 0, 1)], [], 70, 5600, false)
theorem cxk185 : con_chk (kl bB cxF [cxt171, cxt173, cxt184]) PT bB 198 cxF cxJ cxjo cxP 2103 cxt185 = true := fq_chk1 (fq_jn_eq _) rfl (by decide +kernel)   -- X6_readLevel
theorem cxo185 : con_ok PT bB 198 cxF cxQ cxt185 := con_chk_ok (fun _ _ h => h) cxpp (kl_ok (List.forall_mem_cons.mpr ⟨cxo171, List.forall_mem_cons.mpr ⟨cxo173, List.forall_mem_cons.mpr ⟨cxo184, fun _ h => (by cases h)⟩⟩⟩)) nw_class (fun h => by cases h) cxk185
def cxt186 : con := (62, [(2, 142, 1), (0, 0, 0), (0, 3, 3)], [], [some (0, 0, 1)], [], 75, 6000, false)
theorem cxk186 : con_chk (kl bB cxF [cxt171, cxt173, cxt185]) PT bB 198 cxF cxJ cxjo cxP 466 cxt186 = true := fq_chk1 (fq_jn_eq _) rfl (by decide +kernel)   -- X6_readLevel
theorem cxo186 : con_ok PT bB 198 cxF cxQ cxt186 := con_chk_ok (fun _ _ h => h) cxpp (kl_ok (List.forall_mem_cons.mpr ⟨cxo171, List.forall_mem_cons.mpr ⟨cxo173, List.forall_mem_cons.mpr ⟨cxo185, fun _ h => (by cases h)⟩⟩⟩)) nw_class (fun h => by cases h) cxk186
def cxt187 : con := (65, [(2, 142, 1), (0, 2, 2)], [], [some (0, 0, 1)], [], 80, 6400, false)
theorem cxk187 : con_chk (kl bB cxF [cxt43, cxt171, cxt173, cxt174, cxt186]) PT bB 198 cxF cxJ cxjo cxP 475 cxt187 = true := fq_chk1 (fq_jn_eq _) rfl (by decide +kernel)   -- X6_readThing
theorem cxo187 : con_ok PT bB 198 cxF cxQ cxt187 := con_chk_ok (fun _ _ h => h) cxpp (kl_ok (List.forall_mem_cons.mpr ⟨cxo43, List.forall_mem_cons.mpr ⟨cxo171, List.forall_mem_cons.mpr ⟨cxo173, List.forall_mem_cons.mpr ⟨cxo174, List.forall_mem_cons.mpr ⟨cxo186, fun _ h => (by cases h)⟩⟩⟩⟩⟩)) nw_class (fun h => by cases h) cxk187
