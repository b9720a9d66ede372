/-! contracts -/
def cxt211 : con := (34, [(2, 5, 1), (2, 13, 1)], [], [some (0, (-2147483648), 2147483647)], [], 10, 800, true)
theorem cxk211 : con_chk (kl bB cxF [cxt65, cxt210]) PT bB 198 cxF cxJ cxjo cxP 496 cxt211 = true := by decide +kernel   -- X3_warringPairs
theorem cxo211 : con_ok PT bB 198 cxF cxQ cxt211 := con_chk_ok (fun _ _ h => h) cxpp (kl_ok (List.forall_mem_cons.mpr ⟨cxo65, List.forall_mem_cons.mpr ⟨cxo210, fun _ h => (by cases h)⟩⟩)) nw_class (fun _ => by decide) cxk211
def cxt212 : con := (9, [(2, 151, 1), (2, 13, 1)], [], [some (0, 0, 1000000)], [], 10, 800, true)
theorem cxk212 : con_chk (kl bB cxF [cxt124]) PT bB 198 cxF cxJ cxjo cxP 495 cxt212 = true := by decide +kernel   -- X1_allDues
theorem cxo212 : con_ok PT bB 198 cxF cxQ cxt212 := con_chk_ok (fun _ _ h => h) cxpp (kl_ok (List.forall_mem_cons.mpr ⟨cxo124, fun _ h => (by cases h)⟩)) nw_class (fun _ => by decide) cxk212
def cxt213 : con := (35, [(2, 5, 1)], [], [some (0, 0, 15)], [], 5, 400, true)
theorem cxk213 : con_chk (kl bB cxF []) PT bB 198 cxF cxJ cxjo cxP 794 cxt213 = true := by decide +kernel   -- X3_roadsThere
theorem cxo213 : con_ok PT bB 198 cxF cxQ cxt213 := con_chk_ok (fun _ _ h => h) cxpp (kl_ok (fun _ h => (by cases h))) nw_class (fun _ => by decide) cxk213
def cxt214 : con := (29, [(2, 5, 1), (2, 13, 1), (0, 0, 5)], [], [some (0, 0, 255)], [], 5, 400, true)
theorem cxk214 : con_chk (kl bB cxF []) PT bB 198 cxF cxJ cxjo cxP 554 cxt214 = true := by decide +kernel   -- X3_heldBy
theorem cxo214 : con_ok PT bB 198 cxF cxQ cxt214 := con_chk_ok (fun _ _ h => h) cxpp (kl_ok (fun _ h => (by cases h))) nw_class (fun _ => by decide) cxk214
def cxt215 : con := (84, [(2, 155, 1), (0, 4, 4), (0, 0, 255), (0, 0, 20), (0, 0, 9999), (0, 0, 396)], [], [none], [], 5, 400, false)
theorem cxk215 : con_chk (kl bB cxF []) PT bB 198 cxF cxJ cxjo cxP 440 cxt215 = true := by decide +kernel   -- X9_goOn
theorem cxo215 : con_ok PT bB 198 cxF cxQ cxt215 := con_chk_ok (fun _ _ h => h) cxpp (kl_ok (fun _ h => (by cases h))) nw_class (fun h => by cases h) cxk215
def cxt216 : con := (84, [(2, 155, 1), (0, 3, 3), (0, 0, 255), (0, 0, 20), (0, 0, 9999), (0, 0, 297)], [], [none], [], 10, 800, false)
theorem cxk216 : con_chk (kl bB cxF [cxt83, cxt215]) PT bB 198 cxF cxJ cxjo cxP 1323 cxt216 = true := by decide +kernel   -- X9_goOn
theorem cxo216 : con_ok PT bB 198 cxF cxQ cxt216 := con_chk_ok (fun _ _ h => h) cxpp (kl_ok (List.forall_mem_cons.mpr ⟨cxo83, List.forall_mem_cons.mpr ⟨cxo215, fun _ h => (by cases h)⟩⟩)) nw_class (fun h => by cases h) cxk216
def cxt217 : con := (84, [(2, 155, 1), (0, 2, 2), (0, 0, 255), (0, 0, 20), (0, 0, 9999), (0, 0, 198)], [], [none], [], 15, 1200, false)
theorem cxk217 : con_chk (kl bB cxF [cxt83, cxt216]) PT bB 198 cxF cxJ cxjo cxP 1323 cxt217 = true := by decide +kernel   -- X9_goOn
theorem cxo217 : con_ok PT bB 198 cxF cxQ cxt217 := con_chk_ok (fun _ _ h => h) cxpp (kl_ok (List.forall_mem_cons.mpr ⟨cxo83, List.forall_mem_cons.mpr ⟨cxo216, fun _ h => (by cases h)⟩⟩)) nw_class (fun h => by cases h) cxk217
def cxt218 : con := (84, [(2, 155, 1), (0, 1, 1), (0, 0, 255), (0, 0, 20), (0, 0, 9999), (0, 0, 99)], [], [none], [], 20, 1600, false)
theorem cxk218 : con_chk (kl bB cxF [cxt83, cxt217]) PT bB 198 cxF cxJ cxjo cxP 1323 cxt218 = true := by decide +kernel   -- X9_goOn
theorem cxo218 : con_ok PT bB 198 cxF cxQ cxt218 := con_chk_ok (fun _ _ h => h) cxpp (kl_ok (List.forall_mem_cons.mpr ⟨cxo83, List.forall_mem_cons.mpr ⟨cxo217, fun _ h => (by cases h)⟩⟩)) nw_class (fun h => by cases h) cxk218
def cxt219 : con := (84, [(2, 155, 1), (0, 0, 0), (0, 0, 255), (0, 0, 20), (0, 0, 9999), (0, 0, 0)], [], [none], [], 25, 2000, false)
theorem cxk219 : con_chk (kl bB cxF [cxt83, cxt218]) PT bB 198 cxF cxJ cxjo cxP 1323 cxt219 = true := by decide +kernel   -- X9_goOn
theorem cxo219 : con_ok PT bB 198 cxF cxQ cxt219 := con_chk_ok (fun _ _ h => h) cxpp (kl_ok (List.forall_mem_cons.mpr ⟨cxo83, List.forall_mem_cons.mpr ⟨cxo218, fun _ h => (by cases h)⟩⟩)) nw_class (fun h => by cases h) cxk219
def cxt220 : con := (83, [(2, 155, 1), (2, 142, 1), (0, 0, 5), (0, 0, 5)], [], [some (0, (-2), 4)], [], 30, 2400, false)
theorem cxk220 : con_chk (kl bB cxF [cxt82, cxt214, cxt219]) PT bB 198 cxF cxJ cxjo cxP 826 cxt220 = true := by decide +kernel   -- X9_fewestGifts
theorem cxo220 : con_ok PT bB 198 cxF cxQ cxt220 := con_chk_ok (fun _ _ h => h) cxpp (kl_ok (List.forall_mem_cons.mpr ⟨cxo82, List.forall_mem_cons.mpr ⟨cxo214, List.forall_mem_cons.mpr ⟨cxo219, fun _ h => (by cases h)⟩⟩⟩)) nw_class (fun h => by cases h) cxk220
def cxt221 : con := (83, [(2, 155, 1), (2, 145, 1), (0, 0, 5), (0, 0, 5)], [], [some (0, (-2), 4)], [], 30, 2400, false)
theorem cxk221 : con_chk (kl bB cxF [cxt88, cxt214, cxt219]) PT bB 198 cxF cxJ cxjo cxP 826 cxt221 = true := by decide +kernel   -- X9_fewestGifts
theorem cxo221 : con_ok PT bB 198 cxF cxQ cxt221 := con_chk_ok (fun _ _ h => h) cxpp (kl_ok (List.forall_mem_cons.mpr ⟨cxo88, List.forall_mem_cons.mpr ⟨cxo214, List.forall_mem_cons.mpr ⟨cxo219, fun _ h => (by cases h)⟩⟩⟩)) nw_class (fun h => by cases h) cxk221
def cxt222 : con := (146, [(2, 0, 1), (0, 0, 6), (0, 1, 7)], [], [some (0, 0, 1998)], [], 20, 1600, false)
theorem cxk222 : con_chk (kl bB cxF [cxt82, cxt88]) PT bB 198 cxF cxJ cxjo cxP 471 cxt222 = true := by decide +kernel   -- X10_swapGain
theorem cxo222 : con_ok PT bB 198 cxF cxQ cxt222 := con_chk_ok (fun _ _ h => h) cxpp (kl_ok (List.forall_mem_cons.mpr ⟨cxo82, List.forall_mem_cons.mpr ⟨cxo88, fun _ h => (by cases h)⟩⟩)) nw_class (fun h => by cases h) cxk222
def cxt223 : con := (47, [(2, 148, 1), (0, 0, 5)], [], [none], [], 5, 400, false)
theorem cxk223 : con_chk (kl bB cxF []) PT bB 198 cxF cxJ cxjo cxP 648 cxt223 = true := by decide +kernel   -- X4_shorten
theorem cxo223 : con_ok PT bB 198 cxF cxQ cxt223 := con_chk_ok (fun _ _ h => h) cxpp (kl_ok (fun _ h => (by cases h))) nw_class (fun h => by cases h) cxk223
def cxt224 : con := (46, [(2, 148, 1), (0, 0, 5), (0, 0, 5)], [], [some (0, (-1), 1000)], [], 10, 800, false)
theorem cxk224 : con_chk (kl bB cxF [cxt223]) PT bB 198 cxF cxJ cxjo cxP 989 cxt224 = true := by decide +kernel   -- X4_fewestMonths
theorem cxo224 : con_ok PT bB 198 cxF cxQ cxt224 := con_chk_ok (fun _ _ h => h) cxpp (kl_ok (List.forall_mem_cons.mpr ⟨cxo223, fun _ h => (by cases h)⟩)) nw_class (fun h => by cases h) cxk224
def cxt225 : con := (49, [(2, 148, 1), (0, 0, 5)], [], [some (0, 0, 5)], [], 5, 400, true)
theorem cxk225 : con_chk (kl bB cxF []) PT bB 198 cxF cxJ cxjo cxP 637 cxt225 = true := by decide +kernel   -- X4_firstNext
theorem cxo225 : con_ok PT bB 198 cxF cxQ cxt225 := con_chk_ok (fun _ _ h => h) cxpp (kl_ok (fun _ h => (by cases h))) nw_class (fun _ => by decide) cxk225
def cxt226 : con := (48, [(2, 148, 1), (0, 0, 5), (2, 3, 1)], [], [none], [], 10, 800, false)
theorem cxk226 : con_chk (kl bB cxF [cxt63, cxt225]) PT bB 198 cxF cxJ cxjo cxP 526 cxt226 = true := by decide +kernel   -- X4_tellWay
theorem cxo226 : con_ok PT bB 198 cxF cxQ cxt226 := con_chk_ok (fun _ _ h => h) cxpp (kl_ok (List.forall_mem_cons.mpr ⟨cxo63, List.forall_mem_cons.mpr ⟨cxo225, fun _ h => (by cases h)⟩⟩)) nw_class (fun h => by cases h) cxk226
