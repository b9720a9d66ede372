/-! contracts -/
def cxt238 : con := (62, [(2, 145, 1), (0, 1, 1), (0, 0, 0)], [], [some (0, 0, 1)], [], 160, 12800, false)
theorem cxk238 : con_chk (kl bB cxF [cxt206, cxt208, cxt237]) PT bB 198 cxF cxJ cxjo cxP 2103 cxt238 = true := fq_chk1 (fq_jn_eq _) rfl (by decide +kernel)   -- X6_readLevel
theorem cxo238 : con_ok PT bB 198 cxF cxQ cxt238 := con_chk_ok (fun _ _ h => h) cxpp (kl_ok (List.forall_mem_cons.mpr ⟨cxo206, List.forall_mem_cons.mpr ⟨cxo208, List.forall_mem_cons.mpr ⟨cxo237, fun _ h => (by cases h)⟩⟩⟩)) nw_class (fun h => by cases h) cxk238
def cxt239 : con := (62, [(2, 145, 1), (0, 0, 0), (0, 0, 0)], [], [some (0, 0, 1)], [], 165, 13200, false)
theorem cxk239 : con_chk (kl bB cxF [cxt206, cxt208, cxt238]) PT bB 198 cxF cxJ cxjo cxP 466 cxt239 = true := fq_chk1 (fq_jn_eq _) rfl (by decide +kernel)   -- X6_readLevel
theorem cxo239 : con_ok PT bB 198 cxF cxQ cxt239 := con_chk_ok (fun _ _ h => h) cxpp (kl_ok (List.forall_mem_cons.mpr ⟨cxo206, List.forall_mem_cons.mpr ⟨cxo208, List.forall_mem_cons.mpr ⟨cxo238, fun _ h => (by cases h)⟩⟩⟩)) nw_class (fun h => by cases h) cxk239
def cxt240 : con := (58, [(2, 145, 1)], [], [some (0, (-2147483648), 2147483647)], [], 170, 13600, false)
theorem cxk240 : con_chk (kl bB cxF [cxt207, cxt239]) PT bB 198 cxF cxJ cxjo cxP 442 cxt240 = true := fq_chk1 (fq_jn_eq _) rfl (by decide +kernel)   -- X6_read
theorem cxo240 : con_ok PT bB 198 cxF cxQ cxt240 := con_chk_ok (fun _ _ h => h) cxpp (kl_ok (List.forall_mem_cons.mpr ⟨cxo207, List.forall_mem_cons.mpr ⟨cxo239, fun _ h => (by cases h)⟩⟩)) nw_class (fun h => by cases h) cxk240
def cxt241 : con := (73, [(2, 124, 1), (2, 13, 1)], [], [none], [], 5, 400, false)
theorem cxk241 : con_chk (kl bB cxF []) PT bB 198 cxF cxJ cxjo cxP 449 cxt241 = true := fq_chk1 (fq_jn_eq _) rfl (by decide +kernel)   -- X7_copyFrom
theorem cxo241 : con_ok PT bB 198 cxF cxQ cxt241 := con_chk_ok (fun _ _ h => h) cxpp (kl_ok (fun _ h => (by cases h))) nw_class (fun h => by cases h) cxk241
def cxt242 : con := (73, [(2, 13, 1), (2, 124, 1)], [], [none], [], 5, 400, false)
theorem cxk242 : con_chk (kl bB cxF []) PT bB 198 cxF cxJ cxjo cxP 449 cxt242 = true := fq_chk1 (fq_jn_eq _) rfl (by decide +kernel)   -- X7_copyFrom
theorem cxo242 : con_ok PT bB 198 cxF cxQ cxt242 := con_chk_ok (fun _ _ h => h) cxpp (kl_ok (fun _ h => (by cases h))) nw_class (fun h => by cases h) cxk242
def cxt243 : con := (73, [(2, 13, 1), (2, 130, 1)], [], [none], [], 5, 400, false)
theorem cxk243 : con_chk (kl bB cxF []) PT bB 198 cxF cxJ cxjo cxP 449 cxt243 = true := fq_chk1 (fq_jn_eq _) rfl (by decide +kernel)   -- X7_copyFrom
theorem cxo243 : con_ok PT bB 198 cxF cxQ cxt243 := con_chk_ok (fun _ _ h => h) cxpp (kl_ok (fun _ h => (by cases h))) nw_class (fun h => by cases h) cxk243
def cxt244 : con := (73, [(2, 13, 1), (2, 136, 1)], [], [none], [], 5, 400, false)
theorem cxk244 : con_chk (kl bB cxF []) PT bB 198 cxF cxJ cxjo cxP 449 cxt244 = true := fq_chk1 (fq_jn_eq _) rfl (by decide +kernel)   -- X7_copyFrom
theorem cxo244 : con_ok PT bB 198 cxF cxQ cxt244 := con_chk_ok (fun _ _ h => h) cxpp (kl_ok (fun _ h => (by cases h))) nw_class (fun h => by cases h) cxk244
def cxt245 : con := (73, [(2, 130, 1), (2, 13, 1)], [], [none], [], 5, 400, false)
theorem cxk245 : con_chk (kl bB cxF []) PT bB 198 cxF cxJ cxjo cxP 449 cxt245 = true := fq_chk1 (fq_jn_eq _) rfl (by decide +kernel)   -- X7_copyFrom
theorem cxo245 : con_ok PT bB 198 cxF cxQ cxt245 := con_chk_ok (fun _ _ h => h) cxpp (kl_ok (fun _ h => (by cases h))) nw_class (fun h => by cases h) cxk245
def cxt246 : con := (73, [(2, 136, 1), (2, 13, 1)], [], [none], [], 5, 400, false)
theorem cxk246 : con_chk (kl bB cxF []) PT bB 198 cxF cxJ cxjo cxP 449 cxt246 = true := fq_chk1 (fq_jn_eq _) rfl (by decide +kernel)   -- X7_copyFrom
theorem cxo246 : con_ok PT bB 198 cxF cxQ cxt246 := con_chk_ok (fun _ _ h => h) cxpp (kl_ok (fun _ h => (by cases h))) nw_class (fun h => by cases h) cxk246
def cxt247 : con := (73, [(2, 19, 1), (2, 13, 1)], [], [none], [], 5, 400, false)
theorem cxk247 : con_chk (kl bB cxF []) PT bB 198 cxF cxJ cxjo cxP 449 cxt247 = true := fq_chk1 (fq_jn_eq _) rfl (by decide +kernel)   -- X7_copyFrom
theorem cxo247 : con_ok PT bB 198 cxF cxQ cxt247 := con_chk_ok (fun _ _ h => h) cxpp (kl_ok (fun _ h => (by cases h))) nw_class (fun h => by cases h) cxk247
def cxt248 : con := (79, [(2, 1, 1), (0, (-2147483648), 2147483647)], [], [some (0, 0, 1)], [], 5, 400, false)
theorem cxk248 : con_chk (kl bB cxF []) PT bB 198 cxF cxJ cxjo cxP 504 cxt248 = true := fq_chk1 (fq_jn_eq _) rfl (by decide +kernel)   -- X8_addFour
theorem cxo248 : con_ok PT bB 198 cxF cxQ cxt248 := con_chk_ok (fun _ _ h => h) cxpp (kl_ok (fun _ h => (by cases h))) nw_class (fun h => by cases h) cxk248
def cxt249 : con := (84, [(2, 155, 1), (0, 4, 4), (0, 0, 255), (0, 0, 20), (0, 0, 9999), (0, 0, 396)], [], [none], [], 5, 400, false)
theorem cxk249 : con_chk (kl bB cxF []) PT bB 198 cxF cxJ cxjo cxP 440 cxt249 = true := fq_chk1 (fq_jn_eq _) rfl (by decide +kernel)   -- X9_goOn
theorem cxo249 : con_ok PT bB 198 cxF cxQ cxt249 := con_chk_ok (fun _ _ h => h) cxpp (kl_ok (fun _ h => (by cases h))) nw_class (fun h => by cases h) cxk249
def cxt250 : con := (84, [(2, 155, 1), (0, 3, 3), (0, 0, 255), (0, 0, 20), (0, 0, 9999), (0, 0, 297)], [], [none], [], 10, 800, false)
theorem cxk250 : con_chk (kl bB cxF [cxt53, cxt249]) PT bB 198 cxF cxJ cxjo cxP 1323 cxt250 = true := fq_chk1 (fq_jn_eq _) rfl (by decide +kernel)   -- X9_goOn
theorem cxo250 : con_ok PT bB 198 cxF cxQ cxt250 := con_chk_ok (fun _ _ h => h) cxpp (kl_ok (List.forall_mem_cons.mpr ⟨cxo53, List.forall_mem_cons.mpr ⟨cxo249, fun _ h => (by cases h)⟩⟩)) nw_class (fun h => by cases h) cxk250
def cxt251 : con := (84, [(2, 155, 1), (0, 2, 2), (0, 0, 255), (0, 0, 20), (0, 0, 9999), (0, 0, 198)], [], [none], [], 15, 1200, false)
theorem cxk251 : con_chk (kl bB cxF [cxt53, cxt250]) PT bB 198 cxF cxJ cxjo cxP 1323 cxt251 = true := fq_chk1 (fq_jn_eq _) rfl (by decide +kernel)   -- X9_goOn
theorem cxo251 : con_ok PT bB 198 cxF cxQ cxt251 := con_chk_ok (fun _ _ h => h) cxpp (kl_ok (List.forall_mem_cons.mpr ⟨cxo53, List.forall_mem_cons.mpr ⟨cxo250, fun _ h => (by cases h)⟩⟩)) nw_class (fun h => by cases h) cxk251
def cxt252 : con := (84, [(2, 155, 1), (0, 1, 1), (0, 0, 255), (0, 0, 20), (0, 0, 9999), (0, 0, 99)], [], [none], [], 20, 1600, false)
theorem cxk252 : con_chk (kl bB cxF [cxt53, cxt251]) PT bB 198 cxF cxJ cxjo cxP 1323 cxt252 = true := fq_chk1 (fq_jn_eq _) rfl (by decide +kernel)   -- X9_goOn
theorem cxo252 : con_ok PT bB 198 cxF cxQ cxt252 := con_chk_ok (fun _ _ h => h) cxpp (kl_ok (List.forall_mem_cons.mpr ⟨cxo53, List.forall_mem_cons.mpr ⟨cxo251, fun _ h => (by cases h)⟩⟩)) nw_class (fun h => by cases h) cxk252
def cxt253 : con := (84, [(2, 155, 1), (0, 0, 0), (0, 0, 255), (0, 0, 20), (0, 0, 9999), (0, 0, 0)], [], [none], [], 25, 2000, false)
theorem cxk253 : con_chk (kl bB cxF [cxt53, cxt252]) PT bB 198 cxF cxJ cxjo cxP 1323 cxt253 = true := fq_chk1 (fq_jn_eq _) rfl (by decide +kernel)   -- X9_goOn
theorem cxo253 : con_ok PT bB 198 cxF cxQ cxt253 := con_chk_ok (fun _ _ h => h) cxpp (kl_ok (List.forall_mem_cons.mpr ⟨cxo53, List.forall_mem_cons.mpr ⟨cxo252, fun _ h => (by cases h)⟩⟩)) nw_class (fun h => by cases h) cxk253
def cxt254 : con := (83, [(2, 155, 1), (2, 142, 1), (0, 0, 5), (0, 0, 5)], [], [some (0, (-2), 4)], [], 30, 2400, false)
theorem cxk254 : con_chk (kl bB cxF [cxt48, cxt139, cxt253]) PT bB 198 cxF cxJ cxjo cxP 826 cxt254 = true := fq_chk1 (fq_jn_eq _) rfl (by decide +kernel)   -- X9_fewestGifts
theorem cxo254 : con_ok PT bB 198 cxF cxQ cxt254 := con_chk_ok (fun _ _ h => h) cxpp (kl_ok (List.forall_mem_cons.mpr ⟨cxo48, List.forall_mem_cons.mpr ⟨cxo139, List.forall_mem_cons.mpr ⟨cxo253, fun _ h => (by cases h)⟩⟩⟩)) nw_class (fun h => by cases h) cxk254
def cxt255 : con := (83, [(2, 155, 1), (2, 145, 1), (0, 0, 5), (0, 0, 5)], [], [some (0, (-2), 4)], [], 30, 2400, false)
theorem cxk255 : con_chk (kl bB cxF [cxt52, cxt139, cxt253]) PT bB 198 cxF cxJ cxjo cxP 826 cxt255 = true := fq_chk1 (fq_jn_eq _) rfl (by decide +kernel)   -- X9_fewestGifts
theorem cxo255 : con_ok PT bB 198 cxF cxQ cxt255 := con_chk_ok (fun _ _ h => h) cxpp (kl_ok (List.forall_mem_cons.mpr ⟨cxo52, List.forall_mem_cons.mpr ⟨cxo139, List.forall_mem_cons.mpr ⟨cxo253, fun _ h => (by cases h)⟩⟩⟩)) nw_class (fun h => by cases h) cxk255
def cxt256 : con := (9, [(2, 151, 1), (2, 13, 1)], [], [some (0, 0, 1000000)], [], 10, 800, true)
theorem cxk256 : con_chk (kl bB cxF [cxt2]) PT bB 198 cxF cxJ cxjo cxP 495 cxt256 = true := fq_chk1 (fq_jn_eq _) rfl (by decide +kernel)   -- X1_allDues
theorem cxo256 : con_ok PT bB 198 cxF cxQ cxt256 := con_chk_ok (fun _ _ h => h) cxpp (kl_ok (List.forall_mem_cons.mpr ⟨cxo2, fun _ h => (by cases h)⟩)) nw_class (fun _ => by decide) cxk256
