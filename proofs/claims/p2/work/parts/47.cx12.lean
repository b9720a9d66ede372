/-! contracts -/
def cxt188 : con := (64, [(2, 142, 1), (0, 2, 2)], [], [some (0, 0, 1)], [], 85, 6800, false)
theorem cxk188 : con_chk (kl bB cxF [cxt171, cxt173, cxt187]) PT bB 198 cxF cxJ cxjo cxP 1202 cxt188 = true := fq_chk1 (fq_jn_eq _) rfl (by decide +kernel)   -- X6_readSigned
theorem cxo188 : con_ok PT bB 198 cxF cxQ cxt188 := con_chk_ok (fun _ _ h => h) cxpp (kl_ok (List.forall_mem_cons.mpr ⟨cxo171, List.forall_mem_cons.mpr ⟨cxo173, List.forall_mem_cons.mpr ⟨cxo187, fun _ h => (by cases h)⟩⟩⟩)) nw_class (fun h => by cases h) cxk188
def cxt189 : con := (62, [(2, 142, 1), (0, 3, 3), (0, 2, 2)], [], [some (0, 0, 1)], [], 90, 7200, false)
theorem cxk189 : con_chk (kl bB cxF [cxt188]) PT bB 198 cxF cxJ cxjo cxP 407 cxt189 = true := fq_chk1 (fq_jn_eq _) rfl (by decide +kernel)   -- X6_readLevel
theorem cxo189 : con_ok PT bB 198 cxF cxQ cxt189 := con_chk_ok (fun _ _ h => h) cxpp (kl_ok (List.forall_mem_cons.mpr ⟨cxo188, fun _ h => (by cases h)⟩)) nw_class (fun h => by cases h) cxk189
def cxt190 : con := (62, [(2, 142, 1), (0, 2, 2), (0, 2, 2)], [], [some (0, 0, 1)], [], 95, 7600, false)
theorem cxk190 : con_chk (kl bB cxF [cxt171, cxt173, cxt189]) PT bB 198 cxF cxJ cxjo cxP 2103 cxt190 = true := fq_chk1 (fq_jn_eq _) rfl (by decide +kernel)   -- X6_readLevel
theorem cxo190 : con_ok PT bB 198 cxF cxQ cxt190 := con_chk_ok (fun _ _ h => h) cxpp (kl_ok (List.forall_mem_cons.mpr ⟨cxo171, List.forall_mem_cons.mpr ⟨cxo173, List.forall_mem_cons.mpr ⟨cxo189, fun _ h => (by cases h)⟩⟩⟩)) nw_class (fun h => by cases h) cxk190
def cxt191 : con := (62, [(2, 142, 1), (0, 1, 1), (0, 2, 2)], [], [some (0, 0, 1)], [], 100, 8000, false)
theorem cxk191 : con_chk (kl bB cxF [cxt171, cxt173, cxt190]) PT bB 198 cxF cxJ cxjo cxP 2103 cxt191 = true := fq_chk1 (fq_jn_eq _) rfl (by decide +kernel)   -- X6_readLevel
theorem cxo191 : con_ok PT bB 198 cxF cxQ cxt191 := con_chk_ok (fun _ _ h => h) cxpp (kl_ok (List.forall_mem_cons.mpr ⟨cxo171, List.forall_mem_cons.mpr ⟨cxo173, List.forall_mem_cons.mpr ⟨cxo190, fun _ h => (by cases h)⟩⟩⟩)) nw_class (fun h => by cases h) cxk191
def cxt192 : con := (62, [(2, 142, 1), (0, 0, 0), (0, 2, 2)], [], [some (0, 0, 1)], [], 105, 8400, false)
theorem cxk192 : con_chk (kl bB cxF [cxt171, cxt173, cxt191]) PT bB 198 cxF cxJ cxjo cxP 466 cxt192 = true := fq_chk1 (fq_jn_eq _) rfl (by decide +kernel)   -- X6_readLevel
theorem cxo192 : con_ok PT bB 198 cxF cxQ cxt192 := con_chk_ok (fun _ _ h => h) cxpp (kl_ok (List.forall_mem_cons.mpr ⟨cxo171, List.forall_mem_cons.mpr ⟨cxo173, List.forall_mem_cons.mpr ⟨cxo191, fun _ h => (by cases h)⟩⟩⟩)) nw_class (fun h => by cases h) cxk192
def cxt193 : con := (65, [(2, 142, 1), (0, 1, 1)], [], [some (0, 0, 1)], [], 110, 8800, false)
theorem cxk193 : con_chk (kl bB cxF [cxt43, cxt171, cxt173, cxt174, cxt192]) PT bB 198 cxF cxJ cxjo cxP 475 cxt193 = true := fq_chk1 (fq_jn_eq _) rfl (by decide +kernel)   -- X6_readThing
theorem cxo193 : con_ok PT bB 198 cxF cxQ cxt193 := con_chk_ok (fun _ _ h => h) cxpp (kl_ok (List.forall_mem_cons.mpr ⟨cxo43, List.forall_mem_cons.mpr ⟨cxo171, List.forall_mem_cons.mpr ⟨cxo173, List.forall_mem_cons.mpr ⟨cxo174, List.forall_mem_cons.mpr ⟨cxo192, fun _ h => (by cases h)⟩⟩⟩⟩⟩)) nw_class (fun h => by cases h) cxk193
def cxt194 : con := (64, [(2, 142, 1), (0, 1, 1)], [], [some (0, 0, 1)], [], 115, 9200, false)
theorem cxk194 : con_chk (kl bB cxF [cxt171, cxt173, cxt193]) PT bB 198 cxF cxJ cxjo cxP 1202 cxt194 = true := fq_chk1 (fq_jn_eq _) rfl (by decide +kernel)   -- X6_readSigned
theorem cxo194 : con_ok PT bB 198 cxF cxQ cxt194 := con_chk_ok (fun _ _ h => h) cxpp (kl_ok (List.forall_mem_cons.mpr ⟨cxo171, List.forall_mem_cons.mpr ⟨cxo173, List.forall_mem_cons.mpr ⟨cxo193, fun _ h => (by cases h)⟩⟩⟩)) nw_class (fun h => by cases h) cxk194
def cxt195 : con := (62, [(2, 142, 1), (0, 3, 3), (0, 1, 1)], [], [some (0, 0, 1)], [], 120, 9600, false)
theorem cxk195 : con_chk (kl bB cxF [cxt194]) PT bB 198 cxF cxJ cxjo cxP 407 cxt195 = true := fq_chk1 (fq_jn_eq _) rfl (by decide +kernel)   -- X6_readLevel
theorem cxo195 : con_ok PT bB 198 cxF cxQ cxt195 := con_chk_ok (fun _ _ h => h) cxpp (kl_ok (List.forall_mem_cons.mpr ⟨cxo194, fun _ h => (by cases h)⟩)) nw_class (fun h => by cases h) cxk195
def cxt196 : con := (62, [(2, 142, 1), (0, 2, 2), (0, 1, 1)], [], [some (0, 0, 1)], [], 125, 10000, false)
theorem cxk196 : con_chk (kl bB cxF [cxt171, cxt173, cxt195]) PT bB 198 cxF cxJ cxjo cxP 2103 cxt196 = true := fq_chk1 (fq_jn_eq _) rfl (by decide +kernel)   -- X6_readLevel
theorem cxo196 : con_ok PT bB 198 cxF cxQ cxt196 := con_chk_ok (fun _ _ h => h) cxpp (kl_ok (List.forall_mem_cons.mpr ⟨cxo171, List.forall_mem_cons.mpr ⟨cxo173, List.forall_mem_cons.mpr ⟨cxo195, fun _ h => (by cases h)⟩⟩⟩)) nw_class (fun h => by cases h) cxk196
