/-! contracts -/
def cxt185 : con := (64, [(2, 142, 1), (0, 0, 0)], [], [some (0, 0, 1)], [], 145, 11600, false)
theorem cxk185 : con_chk (kl bB cxF [cxt157, cxt158, cxt184]) PT bB 198 cxF cxJ cxjo cxP 1202 cxt185 = true := by decide +kernel   -- X6_readSigned
theorem cxo185 : con_ok PT bB 198 cxF cxQ cxt185 := con_chk_ok (fun _ _ h => h) cxpp (kl_ok (List.forall_mem_cons.mpr ⟨cxo157, List.forall_mem_cons.mpr ⟨cxo158, List.forall_mem_cons.mpr ⟨cxo184, fun _ h => (by cases h)⟩⟩⟩)) nw_class (fun h => by cases h) cxk185
def cxt186 : con := (62, [(2, 142, 1), (0, 3, 3), (0, 0, 0)], [], [some (0, 0, 1)], [], 150, 12000, false)
theorem cxk186 : con_chk (kl bB cxF [cxt185]) PT bB 198 cxF cxJ cxjo cxP 407 cxt186 = true := by decide +kernel   -- X6_readLevel
theorem cxo186 : con_ok PT bB 198 cxF cxQ cxt186 := con_chk_ok (fun _ _ h => h) cxpp (kl_ok (List.forall_mem_cons.mpr ⟨cxo185, fun _ h => (by cases h)⟩)) nw_class (fun h => by cases h) cxk186
def cxt187 : con := (62, [(2, 142, 1), (0, 2, 2), (0, 0, 0)], [], [some (0, 0, 1)], [], 155, 12400, false)
theorem cxk187 : con_chk (kl bB cxF [cxt157, cxt158, cxt186]) PT bB 198 cxF cxJ cxjo cxP 2103 cxt187 = true := by decide +kernel   -- X6_readLevel
theorem cxo187 : con_ok PT bB 198 cxF cxQ cxt187 := con_chk_ok (fun _ _ h => h) cxpp (kl_ok (List.forall_mem_cons.mpr ⟨cxo157, List.forall_mem_cons.mpr ⟨cxo158, List.forall_mem_cons.mpr ⟨cxo186, fun _ h => (by cases h)⟩⟩⟩)) nw_class (fun h => by cases h) cxk187
def cxt188 : con := (62, [(2, 142, 1), (0, 1, 1), (0, 0, 0)], [], [some (0, 0, 1)], [], 160, 12800, false)
theorem cxk188 : con_chk (kl bB cxF [cxt157, cxt158, cxt187]) PT bB 198 cxF cxJ cxjo cxP 2103 cxt188 = true := by decide +kernel   -- X6_readLevel
theorem cxo188 : con_ok PT bB 198 cxF cxQ cxt188 := con_chk_ok (fun _ _ h => h) cxpp (kl_ok (List.forall_mem_cons.mpr ⟨cxo157, List.forall_mem_cons.mpr ⟨cxo158, List.forall_mem_cons.mpr ⟨cxo187, fun _ h => (by cases h)⟩⟩⟩)) nw_class (fun h => by cases h) cxk188
def cxt189 : con := (62, [(2, 142, 1), (0, 0, 0), (0, 0, 0)], [], [some (0, 0, 1)], [], 165, 13200, false)
theorem cxk189 : con_chk (kl bB cxF [cxt157, cxt158, cxt188]) PT bB 198 cxF cxJ cxjo cxP 466 cxt189 = true := by decide +kernel   -- X6_readLevel
theorem cxo189 : con_ok PT bB 198 cxF cxQ cxt189 := con_chk_ok (fun _ _ h => h) cxpp (kl_ok (List.forall_mem_cons.mpr ⟨cxo157, List.forall_mem_cons.mpr ⟨cxo158, List.forall_mem_cons.mpr ⟨cxo188, fun _ h => (by cases h)⟩⟩⟩)) nw_class (fun h => by cases h) cxk189
def cxt190 : con := (59, [(2, 142, 1)], [], [none], [], 10, 800, false)
theorem cxk190 : con_chk (kl bB cxF [cxt157]) PT bB 198 cxF cxJ cxjo cxP 419 cxt190 = true := by decide +kernel   -- X6_beFirstRule
theorem cxo190 : con_ok PT bB 198 cxF cxQ cxt190 := con_chk_ok (fun _ _ h => h) cxpp (kl_ok (List.forall_mem_cons.mpr ⟨cxo157, fun _ h => (by cases h)⟩)) nw_class (fun h => by cases h) cxk190
def cxt191 : con := (58, [(2, 142, 1)], [], [some (0, (-2147483648), 2147483647)], [], 170, 13600, false)
theorem cxk191 : con_chk (kl bB cxF [cxt189, cxt190]) PT bB 198 cxF cxJ cxjo cxP 442 cxt191 = true := by decide +kernel   -- X6_read
theorem cxo191 : con_ok PT bB 198 cxF cxQ cxt191 := con_chk_ok (fun _ _ h => h) cxpp (kl_ok (List.forall_mem_cons.mpr ⟨cxo189, List.forall_mem_cons.mpr ⟨cxo190, fun _ h => (by cases h)⟩⟩)) nw_class (fun h => by cases h) cxk191
def cxt192 : con := (149, [(2, 0, 1), (2, 142, 1)], [], [some (0, 0, 9999)], [], 20, 1600, false)
theorem cxk192 : con_chk (kl bB cxF [cxt82]) PT bB 198 cxF cxJ cxjo cxP 587 cxt192 = true := by decide +kernel   -- X10_worthAtHome
theorem cxo192 : con_ok PT bB 198 cxF cxQ cxt192 := con_chk_ok (fun _ _ h => h) cxpp (kl_ok (List.forall_mem_cons.mpr ⟨cxo82, fun _ h => (by cases h)⟩)) nw_class (fun h => by cases h) cxk192
def cxt193 : con := (149, [(2, 0, 1), (2, 145, 1)], [], [some (0, 0, 9999)], [], 20, 1600, false)
theorem cxk193 : con_chk (kl bB cxF [cxt88]) PT bB 198 cxF cxJ cxjo cxP 587 cxt193 = true := by decide +kernel   -- X10_worthAtHome
theorem cxo193 : con_ok PT bB 198 cxF cxQ cxt193 := con_chk_ok (fun _ _ h => h) cxpp (kl_ok (List.forall_mem_cons.mpr ⟨cxo88, fun _ h => (by cases h)⟩)) nw_class (fun h => by cases h) cxk193
def cxt194 : con := (154, [(0, 0, 9), (0, 0, 9), (0, 0, 20)], [], [some (0, (-20), 20)], [], 5, 400, true)
theorem cxk194 : con_chk (kl bB cxF []) PT bB 198 cxF cxJ cxjo cxP 432 cxt194 = true := by decide +kernel   -- X10_gainOf
theorem cxo194 : con_ok PT bB 198 cxF cxQ cxt194 := con_chk_ok (fun _ _ h => h) cxpp (kl_ok (fun _ h => (by cases h))) nw_class (fun _ => by decide) cxk194
def cxt195 : con := (153, [(0, 0, 9), (0, 0, 9), (0, 0, 20)], [], [some (0, 0, 1)], [], 10, 800, true)
theorem cxk195 : con_chk (kl bB cxF [cxt194]) PT bB 198 cxF cxJ cxjo cxP 567 cxt195 = true := by decide +kernel   -- X10_isBestReply
theorem cxo195 : con_ok PT bB 198 cxF cxQ cxt195 := con_chk_ok (fun _ _ h => h) cxpp (kl_ok (List.forall_mem_cons.mpr ⟨cxo194, fun _ h => (by cases h)⟩)) nw_class (fun _ => by decide) cxk195
def cxt196 : con := (73, [(2, 19, 1), (2, 13, 1)], [], [none], [], 5, 400, false)
theorem cxk196 : con_chk (kl bB cxF []) PT bB 198 cxF cxJ cxjo cxP 449 cxt196 = true := by decide +kernel   -- X7_copyFrom
theorem cxo196 : con_ok PT bB 198 cxF cxQ cxt196 := con_chk_ok (fun _ _ h => h) cxpp (kl_ok (fun _ h => (by cases h))) nw_class (fun h => by cases h) cxk196
def cxt197 : con := (41, [(2, 5, 1), (2, 19, 1), (0, 0, 7)], [], [some (0, 0, 1)], [], 5, 400, true)
theorem cxk197 : con_chk (kl bB cxF []) PT bB 198 cxF cxJ cxjo cxP 431 cxt197 = true := by decide +kernel   -- X3_isEater
theorem cxo197 : con_ok PT bB 198 cxF cxQ cxt197 := con_chk_ok (fun _ _ h => h) cxpp (kl_ok (fun _ h => (by cases h))) nw_class (fun _ => by decide) cxk197
def cxt198 : con := (43, [(2, 5, 1), (2, 19, 1), (0, 0, 5)], [], [none], [], 10, 800, false)
theorem cxk198 : con_chk (kl bB cxF [cxt197]) PT bB 198 cxF cxJ cxjo cxP 754 cxt198 = true := by decide +kernel   -- X3_passMonthAt
theorem cxo198 : con_ok PT bB 198 cxF cxQ cxt198 := con_chk_ok (fun _ _ h => h) cxpp (kl_ok (List.forall_mem_cons.mpr ⟨cxo197, fun _ h => (by cases h)⟩)) nw_class (fun h => by cases h) cxk198
def cxt199 : con := (42, [(2, 5, 1), (2, 19, 1)], [], [none], [], 15, 1200, false)
theorem cxk199 : con_chk (kl bB cxF [cxt198]) PT bB 198 cxF cxJ cxjo cxP 473 cxt199 = true := by decide +kernel   -- X3_passMonth
theorem cxo199 : con_ok PT bB 198 cxF cxQ cxt199 := con_chk_ok (fun _ _ h => h) cxpp (kl_ok (List.forall_mem_cons.mpr ⟨cxo198, fun _ h => (by cases h)⟩)) nw_class (fun h => by cases h) cxk199
def cxt200 : con := (37, [(2, 5, 1), (2, 19, 1), (0, 0, 5)], [], [some (0, 0, 127)], [], 5, 400, true)
theorem cxk200 : con_chk (kl bB cxF []) PT bB 198 cxF cxJ cxjo cxP 644 cxt200 = true := by decide +kernel   -- X3_esteemFor
theorem cxo200 : con_ok PT bB 198 cxF cxQ cxt200 := con_chk_ok (fun _ _ h => h) cxpp (kl_ok (fun _ h => (by cases h))) nw_class (fun _ => by decide) cxk200
def cxt201 : con := (38, [(2, 5, 1), (2, 19, 1)], [], [some (0, 0, 999)], [], 10, 800, true)
theorem cxk201 : con_chk (kl bB cxF [cxt200]) PT bB 198 cxF cxJ cxjo cxP 488 cxt201 = true := by decide +kernel   -- X3_allEsteem
theorem cxo201 : con_ok PT bB 198 cxF cxQ cxt201 := con_chk_ok (fun _ _ h => h) cxpp (kl_ok (List.forall_mem_cons.mpr ⟨cxo200, fun _ h => (by cases h)⟩)) nw_class (fun _ => by decide) cxk201
def cxt202 : con := (73, [(2, 124, 1), (2, 13, 1)], [], [none], [], 5, 400, false)
theorem cxk202 : con_chk (kl bB cxF []) PT bB 198 cxF cxJ cxjo cxP 449 cxt202 = true := by decide +kernel   -- X7_copyFrom
theorem cxo202 : con_ok PT bB 198 cxF cxQ cxt202 := con_chk_ok (fun _ _ h => h) cxpp (kl_ok (fun _ h => (by cases h))) nw_class (fun h => by cases h) cxk202
def cxt203 : con := (73, [(2, 130, 1), (2, 13, 1)], [], [none], [], 5, 400, false)
theorem cxk203 : con_chk (kl bB cxF []) PT bB 198 cxF cxJ cxjo cxP 449 cxt203 = true := by decide +kernel   -- X7_copyFrom
theorem cxo203 : con_ok PT bB 198 cxF cxQ cxt203 := con_chk_ok (fun _ _ h => h) cxpp (kl_ok (fun _ h => (by cases h))) nw_class (fun h => by cases h) cxk203
def cxt204 : con := (73, [(2, 136, 1), (2, 13, 1)], [], [none], [], 5, 400, false)
theorem cxk204 : con_chk (kl bB cxF []) PT bB 198 cxF cxJ cxjo cxP 449 cxt204 = true := by decide +kernel   -- X7_copyFrom
theorem cxo204 : con_ok PT bB 198 cxF cxQ cxt204 := con_chk_ok (fun _ _ h => h) cxpp (kl_ok (fun _ h => (by cases h))) nw_class (fun h => by cases h) cxk204
def cxt205 : con := (73, [(2, 13, 1), (2, 124, 1)], [], [none], [], 5, 400, false)
theorem cxk205 : con_chk (kl bB cxF []) PT bB 198 cxF cxJ cxjo cxP 449 cxt205 = true := by decide +kernel   -- X7_copyFrom
theorem cxo205 : con_ok PT bB 198 cxF cxQ cxt205 := con_chk_ok (fun _ _ h => h) cxpp (kl_ok (fun _ h => (by cases h))) nw_class (fun h => by cases h) cxk205
def cxt206 : con := (73, [(2, 13, 1), (2, 130, 1)], [], [none], [], 5, 400, false)
theorem cxk206 : con_chk (kl bB cxF []) PT bB 198 cxF cxJ cxjo cxP 449 cxt206 = true := by decide +kernel   -- X7_copyFrom
theorem cxo206 : con_ok PT bB 198 cxF cxQ cxt206 := con_chk_ok (fun _ _ h => h) cxpp (kl_ok (fun _ h => (by cases h))) nw_class (fun h => by cases h) cxk206
def cxt207 : con := (73, [(2, 13, 1), (2, 136, 1)], [], [none], [], 5, 400, false)
theorem cxk207 : con_chk (kl bB cxF []) PT bB 198 cxF cxJ cxjo cxP 449 cxt207 = true := by decide +kernel   -- X7_copyFrom
theorem cxo207 : con_ok PT bB 198 cxF cxQ cxt207 := con_chk_ok (fun _ _ h => h) cxpp (kl_ok (fun _ h => (by cases h))) nw_class (fun h => by cases h) cxk207
def cxt208 : con := (31, [(2, 5, 1), (2, 13, 1), (0, 0, 5)], [], [some (0, 0, 63)], [], 5, 400, true)
theorem cxk208 : con_chk (kl bB cxF []) PT bB 198 cxF cxJ cxjo cxP 806 cxt208 = true := by decide +kernel   -- X3_alliesOf
theorem cxo208 : con_ok PT bB 198 cxF cxQ cxt208 := con_chk_ok (fun _ _ h => h) cxpp (kl_ok (fun _ h => (by cases h))) nw_class (fun _ => by decide) cxk208
def cxt209 : con := (33, [(2, 5, 1), (2, 13, 1)], [], [some (0, (-2147483648), 2147483647)], [], 10, 800, true)
theorem cxk209 : con_chk (kl bB cxF [cxt65, cxt208]) PT bB 198 cxF cxJ cxjo cxP 496 cxt209 = true := by decide +kernel   -- X3_alliedPairs
theorem cxo209 : con_ok PT bB 198 cxF cxQ cxt209 := con_chk_ok (fun _ _ h => h) cxpp (kl_ok (List.forall_mem_cons.mpr ⟨cxo65, List.forall_mem_cons.mpr ⟨cxo208, fun _ h => (by cases h)⟩⟩)) nw_class (fun _ => by decide) cxk209
def cxt210 : con := (32, [(2, 5, 1), (2, 13, 1), (0, 0, 5)], [], [some (0, 0, 63)], [], 5, 400, true)
theorem cxk210 : con_chk (kl bB cxF []) PT bB 198 cxF cxJ cxjo cxP 794 cxt210 = true := by decide +kernel   -- X3_foesOf
theorem cxo210 : con_ok PT bB 198 cxF cxQ cxt210 := con_chk_ok (fun _ _ h => h) cxpp (kl_ok (fun _ h => (by cases h))) nw_class (fun _ => by decide) cxk210
