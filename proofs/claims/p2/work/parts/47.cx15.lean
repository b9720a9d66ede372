/-! contracts -/
def cxt220 : con := (62, [(2, 145, 1), (0, 1, 1), (0, 3, 3)], [], [some (0, 0, 1)], [], 70, 5600, false)
theorem cxk220 : con_chk (kl bB cxF [cxt206, cxt208, cxt219]) PT bB 198 cxF cxJ cxjo cxP 2103 cxt220 = true := fq_chk1 (fq_jn_eq _) rfl (by decide +kernel)   -- X6_readLevel
theorem cxo220 : con_ok PT bB 198 cxF cxQ cxt220 := con_chk_ok (fun _ _ h => h) cxpp (kl_ok (List.forall_mem_cons.mpr ⟨cxo206, List.forall_mem_cons.mpr ⟨cxo208, List.forall_mem_cons.mpr ⟨cxo219, fun _ h => (by cases h)⟩⟩⟩)) nw_class (fun h => by cases h) cxk220
def cxt221 : con := (62, [(2, 145, 1), (0, 0, 0), (0, 3, 3)], [], [some (0, 0, 1)], [], 75, 6000, false)
theorem cxk221 : con_chk (kl bB cxF [cxt206, cxt208, cxt220]) PT bB 198 cxF cxJ cxjo cxP 466 cxt221 = true := fq_chk1 (fq_jn_eq _) rfl (by decide +kernel)   -- X6_readLevel
theorem cxo221 : con_ok PT bB 198 cxF cxQ cxt221 := con_chk_ok (fun _ _ h => h) cxpp (kl_ok (List.forall_mem_cons.mpr ⟨cxo206, List.forall_mem_cons.mpr ⟨cxo208, List.forall_mem_cons.mpr ⟨cxo220, fun _ h => (by cases h)⟩⟩⟩)) nw_class (fun h => by cases h) cxk221
def cxt222 : con := (65, [(2, 145, 1), (0, 2, 2)], [], [some (0, 0, 1)], [], 80, 6400, false)
theorem cxk222 : con_chk (kl bB cxF [cxt43, cxt206, cxt208, cxt209, cxt221]) PT bB 198 cxF cxJ cxjo cxP 475 cxt222 = true := fq_chk1 (fq_jn_eq _) rfl (by decide +kernel)   -- X6_readThing
theorem cxo222 : con_ok PT bB 198 cxF cxQ cxt222 := con_chk_ok (fun _ _ h => h) cxpp (kl_ok (List.forall_mem_cons.mpr ⟨cxo43, List.forall_mem_cons.mpr ⟨cxo206, List.forall_mem_cons.mpr ⟨cxo208, List.forall_mem_cons.mpr ⟨cxo209, List.forall_mem_cons.mpr ⟨cxo221, fun _ h => (by cases h)⟩⟩⟩⟩⟩)) nw_class (fun h => by cases h) cxk222
def cxt223 : con := (64, [(2, 145, 1), (0, 2, 2)], [], [some (0, 0, 1)], [], 85, 6800, false)
theorem cxk223 : con_chk (kl bB cxF [cxt206, cxt208, cxt222]) PT bB 198 cxF cxJ cxjo cxP 1202 cxt223 = true := fq_chk1 (fq_jn_eq _) rfl (by decide +kernel)   -- X6_readSigned
theorem cxo223 : con_ok PT bB 198 cxF cxQ cxt223 := con_chk_ok (fun _ _ h => h) cxpp (kl_ok (List.forall_mem_cons.mpr ⟨cxo206, List.forall_mem_cons.mpr ⟨cxo208, List.forall_mem_cons.mpr ⟨cxo222, fun _ h => (by cases h)⟩⟩⟩)) nw_class (fun h => by cases h) cxk223
def cxt224 : con := (62, [(2, 145, 1), (0, 3, 3), (0, 2, 2)], [], [some (0, 0, 1)], [], 90, 7200, false)
theorem cxk224 : con_chk (kl bB cxF [cxt223]) PT bB 198 cxF cxJ cxjo cxP 407 cxt224 = true := fq_chk1 (fq_jn_eq _) rfl (by decide +kernel)   -- X6_readLevel
theorem cxo224 : con_ok PT bB 198 cxF cxQ cxt224 := con_chk_ok (fun _ _ h => h) cxpp (kl_ok (List.forall_mem_cons.mpr ⟨cxo223, fun _ h => (by cases h)⟩)) nw_class (fun h => by cases h) cxk224
def cxt225 : con := (62, [(2, 145, 1), (0, 2, 2), (0, 2, 2)], [], [some (0, 0, 1)], [], 95, 7600, false)
theorem cxk225 : con_chk (kl bB cxF [cxt206, cxt208, cxt224]) PT bB 198 cxF cxJ cxjo cxP 2103 cxt225 = true := fq_chk1 (fq_jn_eq _) rfl (by decide +kernel)   -- X6_readLevel
theorem cxo225 : con_ok PT bB 198 cxF cxQ cxt225 := con_chk_ok (fun _ _ h => h) cxpp (kl_ok (List.forall_mem_cons.mpr ⟨cxo206, List.forall_mem_cons.mpr ⟨cxo208, List.forall_mem_cons.mpr ⟨cxo224, fun _ h => (by cases h)⟩⟩⟩)) nw_class (fun h => by cases h) cxk225
def cxt226 : con := (62, [(2, 145, 1), (0, 1, 1), (0, 2, 2)], [], [some (0, 0, 1)], [], 100, 8000, false)
theorem cxk226 : con_chk (kl bB cxF [cxt206, cxt208, cxt225]) PT bB 198 cxF cxJ cxjo cxP 2103 cxt226 = true := fq_chk1 (fq_jn_eq _) rfl (by decide +kernel)   -- X6_readLevel
theorem cxo226 : con_ok PT bB 198 cxF cxQ cxt226 := con_chk_ok (fun _ _ h => h) cxpp (kl_ok (List.forall_mem_cons.mpr ⟨cxo206, List.forall_mem_cons.mpr ⟨cxo208, List.forall_mem_cons.mpr ⟨cxo225, fun _ h => (by cases h)⟩⟩⟩)) nw_class (fun h => by cases h) cxk226
def cxt227 : con := (62, [(2, 145, 1), (0, 0, 0), (0, 2, 2)], [], [some (0, 0, 1)], [], 105, 8400, false)
theorem cxk227 : con_chk (kl bB cxF [cxt206, cxt208, cxt226]) PT bB 198 cxF cxJ cxjo cxP 466 cxt227 = true := fq_chk1 (fq_jn_eq _) rfl (by decide +kernel)   -- X6_readLevel
theorem cxo227 : con_ok PT bB 198 cxF cxQ cxt227 := con_chk_ok (fun _ _ h => h) cxpp (kl_ok (List.forall_mem_cons.mpr ⟨cxo206, List.forall_mem_cons.mpr ⟨cxo208, List.forall_mem_cons.mpr ⟨cxo226, fun _ h => (by cases h)⟩⟩⟩)) nw_class (fun h => by cases h) cxk227
def cxt228 : con := (65, [(2, 145, 1), (0, 1, 1)], [], [some (0, 0, 1)], [], 110, 8800, false)
theorem cxk228 : con_chk (kl bB cxF [cxt43, cxt206, cxt208, cxt209, cxt227]) PT bB 198 cxF cxJ cxjo cxP 475 cxt228 = true := fq_chk1 (fq_jn_eq _) rfl (by decide +kernel)   -- X6_readThing
theorem cxo228 : con_ok PT bB 198 cxF cxQ cxt228 := con_chk_ok (fun _ _ h => h) cxpp (kl_ok (List.forall_mem_cons.mpr ⟨cxo43, List.forall_mem_cons.mpr ⟨cxo206, List.forall_mem_cons.mpr ⟨cxo208, List.forall_mem_cons.mpr ⟨cxo209, List.forall_mem_cons.mpr ⟨cxo227, fun _ h => (by cases h)⟩⟩⟩⟩⟩)) nw_class (fun h => by cases h) cxk228
