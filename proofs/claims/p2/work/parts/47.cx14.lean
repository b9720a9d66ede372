/-! contracts -/
def cxt211 : con := (64, [(2, 145, 1), (0, 4, 4)], [], [some (0, 0, 1)], [], 25, 2000, false)
theorem cxk211 : con_chk (kl bB cxF [cxt206, cxt208, cxt210]) PT bB 198 cxF cxJ cxjo cxP 1202 cxt211 = true := fq_chk1 (fq_jn_eq _) rfl (by decide +kernel)   -- X6_readSigned
theorem cxo211 : con_ok PT bB 198 cxF cxQ cxt211 := con_chk_ok (fun _ _ h => h) cxpp (kl_ok (List.forall_mem_cons.mpr ⟨cxo206, List.forall_mem_cons.mpr ⟨cxo208, List.forall_mem_cons.mpr ⟨cxo210, fun _ h => (by cases h)⟩⟩⟩)) nw_class (fun h => by cases h) cxk211
def cxt212 : con := (62, [(2, 145, 1), (0, 3, 3), (0, 4, 4)], [], [some (0, 0, 1)], [], 30, 2400, false)
theorem cxk212 : con_chk (kl bB cxF [cxt211]) PT bB 198 cxF cxJ cxjo cxP 407 cxt212 = true := fq_chk1 (fq_jn_eq _) rfl (by decide +kernel)   -- X6_readLevel
theorem cxo212 : con_ok PT bB 198 cxF cxQ cxt212 := con_chk_ok (fun _ _ h => h) cxpp (kl_ok (List.forall_mem_cons.mpr ⟨cxo211, fun _ h => (by cases h)⟩)) nw_class (fun h => by cases h) cxk212
def cxt213 : con := (62, [(2, 145, 1), (0, 2, 2), (0, 4, 4)], [], [some (0, 0, 1)], [], 35, 2800, false)
theorem cxk213 : con_chk (kl bB cxF [cxt206, cxt208, cxt212]) PT bB 198 cxF cxJ cxjo cxP 2103 cxt213 = true := fq_chk1 (fq_jn_eq _) rfl (by decide +kernel)   -- X6_readLevel
theorem cxo213 : con_ok PT bB 198 cxF cxQ cxt213 := con_chk_ok (fun _ _ h => h) cxpp (kl_ok (List.forall_mem_cons.mpr ⟨cxo206, List.forall_mem_cons.mpr ⟨cxo208, List.forall_mem_cons.mpr ⟨cxo212, fun _ h => (by cases h)⟩⟩⟩)) nw_class (fun h => by cases h) cxk213
def cxt214 : con := (62, [(2, 145, 1), (0, 1, 1), (0, 4, 4)], [], [some (0, 0, 1)], [], 40, 3200, false)
theorem cxk214 : con_chk (kl bB cxF [cxt206, cxt208, cxt213]) PT bB 198 cxF cxJ cxjo cxP 2103 cxt214 = true := fq_chk1 (fq_jn_eq _) rfl (by decide +kernel)   -- X6_readLevel
theorem cxo214 : con_ok PT bB 198 cxF cxQ cxt214 := con_chk_ok (fun _ _ h => h) cxpp (kl_ok (List.forall_mem_cons.mpr ⟨cxo206, List.forall_mem_cons.mpr ⟨cxo208, List.forall_mem_cons.mpr ⟨cxo213, fun _ h => (by cases h)⟩⟩⟩)) nw_class (fun h => by cases h) cxk214
def cxt215 : con := (62, [(2, 145, 1), (0, 0, 0), (0, 4, 4)], [], [some (0, 0, 1)], [], 45, 3600, false)
theorem cxk215 : con_chk (kl bB cxF [cxt206, cxt208, cxt214]) PT bB 198 cxF cxJ cxjo cxP 466 cxt215 = true := fq_chk1 (fq_jn_eq _) rfl (by decide +kernel)   -- X6_readLevel
theorem cxo215 : con_ok PT bB 198 cxF cxQ cxt215 := con_chk_ok (fun _ _ h => h) cxpp (kl_ok (List.forall_mem_cons.mpr ⟨cxo206, List.forall_mem_cons.mpr ⟨cxo208, List.forall_mem_cons.mpr ⟨cxo214, fun _ h => (by cases h)⟩⟩⟩)) nw_class (fun h => by cases h) cxk215
def cxt216 : con := (65, [(2, 145, 1), (0, 3, 3)], [], [some (0, 0, 1)], [], 50, 4000, false)
theorem cxk216 : con_chk (kl bB cxF [cxt43, cxt206, cxt208, cxt209, cxt215]) PT bB 198 cxF cxJ cxjo cxP 475 cxt216 = true := fq_chk1 (fq_jn_eq _) rfl (by decide +kernel)   -- X6_readThing
theorem cxo216 : con_ok PT bB 198 cxF cxQ cxt216 := con_chk_ok (fun _ _ h => h) cxpp (kl_ok (List.forall_mem_cons.mpr ⟨cxo43, List.forall_mem_cons.mpr ⟨cxo206, List.forall_mem_cons.mpr ⟨cxo208, List.forall_mem_cons.mpr ⟨cxo209, List.forall_mem_cons.mpr ⟨cxo215, fun _ h => (by cases h)⟩⟩⟩⟩⟩)) nw_class (fun h => by cases h) cxk216
def cxt217 : con := (64, [(2, 145, 1), (0, 3, 3)], [], [some (0, 0, 1)], [], 55, 4400, false)
theorem cxk217 : con_chk (kl bB cxF [cxt206, cxt208, cxt216]) PT bB 198 cxF cxJ cxjo cxP 1202 cxt217 = true := fq_chk1 (fq_jn_eq _) rfl (by decide +kernel)   -- X6_readSigned
theorem cxo217 : con_ok PT bB 198 cxF cxQ cxt217 := con_chk_ok (fun _ _ h => h) cxpp (kl_ok (List.forall_mem_cons.mpr ⟨cxo206, List.forall_mem_cons.mpr ⟨cxo208, List.forall_mem_cons.mpr ⟨cxo216, fun _ h => (by cases h)⟩⟩⟩)) nw_class (fun h => by cases h) cxk217
def cxt218 : con := (62, [(2, 145, 1), (0, 3, 3), (0, 3, 3)], [], [some (0, 0, 1)], [], 60, 4800, false)
theorem cxk218 : con_chk (kl bB cxF [cxt217]) PT bB 198 cxF cxJ cxjo cxP 407 cxt218 = true := fq_chk1 (fq_jn_eq _) rfl (by decide +kernel)   -- X6_readLevel
theorem cxo218 : con_ok PT bB 198 cxF cxQ cxt218 := con_chk_ok (fun _ _ h => h) cxpp (kl_ok (List.forall_mem_cons.mpr ⟨cxo217, fun _ h => (by cases h)⟩)) nw_class (fun h => by cases h) cxk218
def cxt219 : con := (62, [(2, 145, 1), (0, 2, 2), (0, 3, 3)], [], [some (0, 0, 1)], [], 65, 5200, false)
theorem cxk219 : con_chk (kl bB cxF [cxt206, cxt208, cxt218]) PT bB 198 cxF cxJ cxjo cxP 2103 cxt219 = true := fq_chk1 (fq_jn_eq _) rfl (by decide +kernel)   -- X6_readLevel
theorem cxo219 : con_ok PT bB 198 cxF cxQ cxt219 := con_chk_ok (fun _ _ h => h) cxpp (kl_ok (List.forall_mem_cons.mpr ⟨cxo206, List.forall_mem_cons.mpr ⟨cxo208, List.forall_mem_cons.mpr ⟨cxo218, fun _ h => (by cases h)⟩⟩⟩)) nw_class (fun h => by cases h) cxk219
