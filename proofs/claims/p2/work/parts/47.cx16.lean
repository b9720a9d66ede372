/-! contracts -/
def cxt229 : con := (64, [(2, 145, 1), (0, 1, 1)], [], [some (0, 0, 1)], [], 115, 9200, false)
theorem cxk229 : con_chk (kl bB cxF [cxt206, cxt208, cxt228]) PT bB 198 cxF cxJ cxjo cxP 1202 cxt229 = true := fq_chk1 (fq_jn_eq _) rfl (by decide +kernel)   -- X6_readSigned
theorem cxo229 : con_ok PT bB 198 cxF cxQ cxt229 := con_chk_ok (fun _ _ h => h) cxpp (kl_ok (List.forall_mem_cons.mpr ⟨cxo206, List.forall_mem_cons.mpr ⟨cxo208, List.forall_mem_cons.mpr ⟨cxo228, fun _ h => (by cases h)⟩⟩⟩)) nw_class (fun h => by cases h) cxk229
def cxt230 : con := (62, [(2, 145, 1), (0, 3, 3), (0, 1, 1)], [], [some (0, 0, 1)], [], 120, 9600, false)
theorem cxk230 : con_chk (kl bB cxF [cxt229]) PT bB 198 cxF cxJ cxjo cxP 407 cxt230 = true := fq_chk1 (fq_jn_eq _) rfl (by decide +kernel)   -- X6_readLevel
theorem cxo230 : con_ok PT bB 198 cxF cxQ cxt230 := con_chk_ok (fun _ _ h => h) cxpp (kl_ok (List.forall_mem_cons.mpr ⟨cxo229, fun _ h => (by cases h)⟩)) nw_class (fun h => by cases h) cxk230
def cxt231 : con := (62, [(2, 145, 1), (0, 2, 2), (0, 1, 1)], [], [some (0, 0, 1)], [], 125, 10000, false)
theorem cxk231 : con_chk (kl bB cxF [cxt206, cxt208, cxt230]) PT bB 198 cxF cxJ cxjo cxP 2103 cxt231 = true := fq_chk1 (fq_jn_eq _) rfl (by decide +kernel)   -- X6_readLevel
theorem cxo231 : con_ok PT bB 198 cxF cxQ cxt231 := con_chk_ok (fun _ _ h => h) cxpp (kl_ok (List.forall_mem_cons.mpr ⟨cxo206, List.forall_mem_cons.mpr ⟨cxo208, List.forall_mem_cons.mpr ⟨cxo230, fun _ h => (by cases h)⟩⟩⟩)) nw_class (fun h => by cases h) cxk231
def cxt232 : con := (62, [(2, 145, 1), (0, 1, 1), (0, 1, 1)], [], [some (0, 0, 1)], [], 130, 10400, false)
theorem cxk232 : con_chk (kl bB cxF [cxt206, cxt208, cxt231]) PT bB 198 cxF cxJ cxjo cxP 2103 cxt232 = true := fq_chk1 (fq_jn_eq _) rfl (by decide +kernel)   -- X6_readLevel
theorem cxo232 : con_ok PT bB 198 cxF cxQ cxt232 := con_chk_ok (fun _ _ h => h) cxpp (kl_ok (List.forall_mem_cons.mpr ⟨cxo206, List.forall_mem_cons.mpr ⟨cxo208, List.forall_mem_cons.mpr ⟨cxo231, fun _ h => (by cases h)⟩⟩⟩)) nw_class (fun h => by cases h) cxk232
def cxt233 : con := (62, [(2, 145, 1), (0, 0, 0), (0, 1, 1)], [], [some (0, 0, 1)], [], 135, 10800, false)
theorem cxk233 : con_chk (kl bB cxF [cxt206, cxt208, cxt232]) PT bB 198 cxF cxJ cxjo cxP 466 cxt233 = true := fq_chk1 (fq_jn_eq _) rfl (by decide +kernel)   -- X6_readLevel
theorem cxo233 : con_ok PT bB 198 cxF cxQ cxt233 := con_chk_ok (fun _ _ h => h) cxpp (kl_ok (List.forall_mem_cons.mpr ⟨cxo206, List.forall_mem_cons.mpr ⟨cxo208, List.forall_mem_cons.mpr ⟨cxo232, fun _ h => (by cases h)⟩⟩⟩)) nw_class (fun h => by cases h) cxk233
def cxt234 : con := (65, [(2, 145, 1), (0, 0, 0)], [], [some (0, 0, 1)], [], 140, 11200, false)
theorem cxk234 : con_chk (kl bB cxF [cxt43, cxt206, cxt208, cxt209, cxt233]) PT bB 198 cxF cxJ cxjo cxP 475 cxt234 = true := fq_chk1 (fq_jn_eq _) rfl (by decide +kernel)   -- X6_readThing
theorem cxo234 : con_ok PT bB 198 cxF cxQ cxt234 := con_chk_ok (fun _ _ h => h) cxpp (kl_ok (List.forall_mem_cons.mpr ⟨cxo43, List.forall_mem_cons.mpr ⟨cxo206, List.forall_mem_cons.mpr ⟨cxo208, List.forall_mem_cons.mpr ⟨cxo209, List.forall_mem_cons.mpr ⟨cxo233, fun _ h => (by cases h)⟩⟩⟩⟩⟩)) nw_class (fun h => by cases h) cxk234
def cxt235 : con := (64, [(2, 145, 1), (0, 0, 0)], [], [some (0, 0, 1)], [], 145, 11600, false)
theorem cxk235 : con_chk (kl bB cxF [cxt206, cxt208, cxt234]) PT bB 198 cxF cxJ cxjo cxP 1202 cxt235 = true := fq_chk1 (fq_jn_eq _) rfl (by decide +kernel)   -- X6_readSigned
theorem cxo235 : con_ok PT bB 198 cxF cxQ cxt235 := con_chk_ok (fun _ _ h => h) cxpp (kl_ok (List.forall_mem_cons.mpr ⟨cxo206, List.forall_mem_cons.mpr ⟨cxo208, List.forall_mem_cons.mpr ⟨cxo234, fun _ h => (by cases h)⟩⟩⟩)) nw_class (fun h => by cases h) cxk235
def cxt236 : con := (62, [(2, 145, 1), (0, 3, 3), (0, 0, 0)], [], [some (0, 0, 1)], [], 150, 12000, false)
theorem cxk236 : con_chk (kl bB cxF [cxt235]) PT bB 198 cxF cxJ cxjo cxP 407 cxt236 = true := fq_chk1 (fq_jn_eq _) rfl (by decide +kernel)   -- X6_readLevel
theorem cxo236 : con_ok PT bB 198 cxF cxQ cxt236 := con_chk_ok (fun _ _ h => h) cxpp (kl_ok (List.forall_mem_cons.mpr ⟨cxo235, fun _ h => (by cases h)⟩)) nw_class (fun h => by cases h) cxk236
def cxt237 : con := (62, [(2, 145, 1), (0, 2, 2), (0, 0, 0)], [], [some (0, 0, 1)], [], 155, 12400, false)
theorem cxk237 : con_chk (kl bB cxF [cxt206, cxt208, cxt236]) PT bB 198 cxF cxJ cxjo cxP 2103 cxt237 = true := fq_chk1 (fq_jn_eq _) rfl (by decide +kernel)   -- X6_readLevel
theorem cxo237 : con_ok PT bB 198 cxF cxQ cxt237 := con_chk_ok (fun _ _ h => h) cxpp (kl_ok (List.forall_mem_cons.mpr ⟨cxo206, List.forall_mem_cons.mpr ⟨cxo208, List.forall_mem_cons.mpr ⟨cxo236, fun _ h => (by cases h)⟩⟩⟩)) nw_class (fun h => by cases h) cxk237
