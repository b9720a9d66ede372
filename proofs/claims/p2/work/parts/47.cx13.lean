/-! contracts -/
def cxt197 : con := (62, [(2, 142, 1), (0, 1, 1), (0, 1, 1)], [], [some (0, 0, 1)], [], 130, 10400, false)
theorem cxk197 : con_chk (kl bB cxF [cxt171, cxt173, cxt196]) PT bB 198 cxF cxJ cxjo cxP 2103 cxt197 = true := fq_chk1 (fq_jn_eq _) rfl (by decide +kernel)   -- X6_readLevel
theorem cxo197 : con_ok PT bB 198 cxF cxQ cxt197 := con_chk_ok (fun _ _ h => h) cxpp (kl_ok (List.forall_mem_cons.mpr ⟨cxo171, List.forall_mem_cons.mpr ⟨cxo173, List.forall_mem_cons.mpr ⟨cxo196, fun _ h => (by cases h)⟩⟩⟩)) nw_class (fun h => by cases h) cxk197
def cxt198 : con := (62, [(2, 142, 1), (0, 0, 0), (0, 1, 1)], [], [some (0, 0, 1)], [], 135, 10800, false)
theorem cxk198 : con_chk (kl bB cxF [cxt171, cxt173, cxt197]) PT bB 198 cxF cxJ cxjo cxP 466 cxt198 = true := fq_chk1 (fq_jn_eq _) rfl (by decide +kernel)   -- X6_readLevel
theorem cxo198 : con_ok PT bB 198 cxF cxQ cxt198 := con_chk_ok (fun _ _ h => h) cxpp (kl_ok (List.forall_mem_cons.mpr ⟨cxo171, List.forall_mem_cons.mpr ⟨cxo173, List.forall_mem_cons.mpr ⟨cxo197, fun _ h => (by cases h)⟩⟩⟩)) nw_class (fun h => by cases h) cxk198
def cxt199 : con := (65, [(2, 142, 1), (0, 0, 0)], [], [some (0, 0, 1)], [], 140, 11200, false)
theorem cxk199 : con_chk (kl bB cxF [cxt43, cxt171, cxt173, cxt174, cxt198]) PT bB 198 cxF cxJ cxjo cxP 475 cxt199 = true := fq_chk1 (fq_jn_eq _) rfl (by decide +kernel)   -- X6_readThing
theorem cxo199 : con_ok PT bB 198 cxF cxQ cxt199 := con_chk_ok (fun _ _ h => h) cxpp (kl_ok (List.forall_mem_cons.mpr ⟨cxo43, List.forall_mem_cons.mpr ⟨cxo171, List.forall_mem_cons.mpr ⟨cxo173, List.forall_mem_cons.mpr ⟨cxo174, List.forall_mem_cons.mpr ⟨cxo198, fun _ h => (by cases h)⟩⟩⟩⟩⟩)) nw_class (fun h => by cases h) cxk199
def cxt200 : con := (64, [(2, 142, 1), (0, 0, 0)], [], [some (0, 0, 1)], [], 145, 11600, false)
theorem cxk200 : con_chk (kl bB cxF [cxt171, cxt173, cxt199]) PT bB 198 cxF cxJ cxjo cxP 1202 cxt200 = true := fq_chk1 (fq_jn_eq _) rfl (by decide +kernel)   -- X6_readSigned
theorem cxo200 : con_ok PT bB 198 cxF cxQ cxt200 := con_chk_ok (fun _ _ h => h) cxpp (kl_ok (List.forall_mem_cons.mpr ⟨cxo171, List.forall_mem_cons.mpr ⟨cxo173, List.forall_mem_cons.mpr ⟨cxo199, fun _ h => (by cases h)⟩⟩⟩)) nw_class (fun h => by cases h) cxk200
def cxt201 : con := (62, [(2, 142, 1), (0, 3, 3), (0, 0, 0)], [], [some (0, 0, 1)], [], 150, 12000, false)
theorem cxk201 : con_chk (kl bB cxF [cxt200]) PT bB 198 cxF cxJ cxjo cxP 407 cxt201 = true := fq_chk1 (fq_jn_eq _) rfl (by decide +kernel)   -- X6_readLevel
theorem cxo201 : con_ok PT bB 198 cxF cxQ cxt201 := con_chk_ok (fun _ _ h => h) cxpp (kl_ok (List.forall_mem_cons.mpr ⟨cxo200, fun _ h => (by cases h)⟩)) nw_class (fun h => by cases h) cxk201
def cxt202 : con := (62, [(2, 142, 1), (0, 2, 2), (0, 0, 0)], [], [some (0, 0, 1)], [], 155, 12400, false)
theorem cxk202 : con_chk (kl bB cxF [cxt171, cxt173, cxt201]) PT bB 198 cxF cxJ cxjo cxP 2103 cxt202 = true := fq_chk1 (fq_jn_eq _) rfl (by decide +kernel)   -- X6_readLevel
theorem cxo202 : con_ok PT bB 198 cxF cxQ cxt202 := con_chk_ok (fun _ _ h => h) cxpp (kl_ok (List.forall_mem_cons.mpr ⟨cxo171, List.forall_mem_cons.mpr ⟨cxo173, List.forall_mem_cons.mpr ⟨cxo201, fun _ h => (by cases h)⟩⟩⟩)) nw_class (fun h => by cases h) cxk202
def cxt203 : con := (62, [(2, 142, 1), (0, 1, 1), (0, 0, 0)], [], [some (0, 0, 1)], [], 160, 12800, false)
theorem cxk203 : con_chk (kl bB cxF [cxt171, cxt173, cxt202]) PT bB 198 cxF cxJ cxjo cxP 2103 cxt203 = true := fq_chk1 (fq_jn_eq _) rfl (by decide +kernel)   -- X6_readLevel
theorem cxo203 : con_ok PT bB 198 cxF cxQ cxt203 := con_chk_ok (fun _ _ h => h) cxpp (kl_ok (List.forall_mem_cons.mpr ⟨cxo171, List.forall_mem_cons.mpr ⟨cxo173, List.forall_mem_cons.mpr ⟨cxo202, fun _ h => (by cases h)⟩⟩⟩)) nw_class (fun h => by cases h) cxk203
def cxt204 : con := (62, [(2, 142, 1), (0, 0, 0), (0, 0, 0)], [], [some (0, 0, 1)], [], 165, 13200, false)
theorem cxk204 : con_chk (kl bB cxF [cxt171, cxt173, cxt203]) PT bB 198 cxF cxJ cxjo cxP 466 cxt204 = true := fq_chk1 (fq_jn_eq _) rfl (by decide +kernel)   -- X6_readLevel
theorem cxo204 : con_ok PT bB 198 cxF cxQ cxt204 := con_chk_ok (fun _ _ h => h) cxpp (kl_ok (List.forall_mem_cons.mpr ⟨cxo171, List.forall_mem_cons.mpr ⟨cxo173, List.forall_mem_cons.mpr ⟨cxo203, fun _ h => (by cases h)⟩⟩⟩)) nw_class (fun h => by cases h) cxk204
def cxt205 : con := (58, [(2, 142, 1)], [], [some (0, (-2147483648), 2147483647)], [], 170, 13600, false)
theorem cxk205 : con_chk (kl bB cxF [cxt172, cxt204]) PT bB 198 cxF cxJ cxjo cxP 442 cxt205 = true := fq_chk1 (fq_jn_eq _) rfl (by decide +kernel)   -- X6_read
theorem cxo205 : con_ok PT bB 198 cxF cxQ cxt205 := con_chk_ok (fun _ _ h => h) cxpp (kl_ok (List.forall_mem_cons.mpr ⟨cxo172, List.forall_mem_cons.mpr ⟨cxo204, fun _ h => (by cases h)⟩⟩)) nw_class (fun h => by cases h) cxk205
def cxt206 : con := (60, [(2, 145, 1), (0, (-2147483648), 999)], [], [none], [], 5, 400, false)
theorem cxk206 : con_chk (kl bB cxF []) PT bB 198 cxF cxJ cxjo cxP 421 cxt206 = true := fq_chk1 (fq_jn_eq _) rfl (by decide +kernel)   -- X6_emit
theorem cxo206 : con_ok PT bB 198 cxF cxQ cxt206 := con_chk_ok (fun _ _ h => h) cxpp (kl_ok (fun _ h => (by cases h))) nw_class (fun h => by cases h) cxk206
def cxt207 : con := (59, [(2, 145, 1)], [], [none], [], 10, 800, false)
theorem cxk207 : con_chk (kl bB cxF [cxt206]) PT bB 198 cxF cxJ cxjo cxP 419 cxt207 = true := fq_chk1 (fq_jn_eq _) rfl (by decide +kernel)   -- X6_beFirstRule
theorem cxo207 : con_ok PT bB 198 cxF cxQ cxt207 := con_chk_ok (fun _ _ h => h) cxpp (kl_ok (List.forall_mem_cons.mpr ⟨cxo206, fun _ h => (by cases h)⟩)) nw_class (fun h => by cases h) cxk207
def cxt208 : con := (61, [(2, 145, 1)], [], [some (0, (-1), 65535)], [], 10, 800, true)
theorem cxk208 : con_chk (kl bB cxF [cxt33]) PT bB 198 cxF cxJ cxjo cxP 407 cxt208 = true := fq_chk1 (fq_jn_eq _) rfl (by decide +kernel)   -- X6_nextSign
theorem cxo208 : con_ok PT bB 198 cxF cxQ cxt208 := con_chk_ok (fun _ _ h => h) cxpp (kl_ok (List.forall_mem_cons.mpr ⟨cxo33, fun _ h => (by cases h)⟩)) nw_class (fun _ => by decide) cxk208
def cxt209 : con := (66, [(2, 145, 1)], [], [none], [], 15, 1200, false)
theorem cxk209 : con_chk (kl bB cxF [cxt34, cxt206]) PT bB 198 cxF cxJ cxjo cxP 502 cxt209 = true := fq_chk1 (fq_jn_eq _) rfl (by decide +kernel)   -- X6_readNumber
theorem cxo209 : con_ok PT bB 198 cxF cxQ cxt209 := con_chk_ok (fun _ _ h => h) cxpp (kl_ok (List.forall_mem_cons.mpr ⟨cxo34, List.forall_mem_cons.mpr ⟨cxo206, fun _ h => (by cases h)⟩⟩)) nw_class (fun h => by cases h) cxk209
def cxt210 : con := (65, [(2, 145, 1), (0, 4, 4)], [], [some (0, 0, 1)], [], 20, 1600, false)
theorem cxk210 : con_chk (kl bB cxF [cxt43, cxt206, cxt208, cxt209]) PT bB 198 cxF cxJ cxjo cxP 448 cxt210 = true := fq_chk1 (fq_jn_eq _) rfl (by decide +kernel)   -- X6_readThing
theorem cxo210 : con_ok PT bB 198 cxF cxQ cxt210 := con_chk_ok (fun _ _ h => h) cxpp (kl_ok (List.forall_mem_cons.mpr ⟨cxo43, List.forall_mem_cons.mpr ⟨cxo206, List.forall_mem_cons.mpr ⟨cxo208, List.forall_mem_cons.mpr ⟨cxo209, fun _ h => (by cases h)⟩⟩⟩⟩)) nw_class (fun h => by cases h) cxk210
