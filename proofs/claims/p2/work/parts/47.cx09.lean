/-! contracts -/
def cxt147 : con := (35, [(2, 5, 1)], [], [some (0, 0, 15)], [], 5, 400, true)
theorem cxk147 : con_chk (kl bB cxF []) PT bB 198 cxF cxJ cxjo cxP 794 cxt147 = true := fq_chk1 (fq_jn_eq _) rfl (by decide +kernel)   -- X3_roadsThere
theorem cxo147 : con_ok PT bB 198 cxF cxQ cxt147 := con_chk_ok (fun _ _ h => h) cxpp (kl_ok (fun _ h => (by cases h))) nw_class (fun _ => by decide) cxk147
def cxt148 : con := (36, [(2, 5, 1), (2, 13, 1)], [], [some (0, (-2147483648), 2147483647)], [], 5, 400, true)
theorem cxk148 : con_chk (kl bB cxF []) PT bB 198 cxF cxJ cxjo cxP 488 cxt148 = true := fq_chk1 (fq_jn_eq _) rfl (by decide +kernel)   -- X3_allGrain
theorem cxo148 : con_ok PT bB 198 cxF cxQ cxt148 := con_chk_ok (fun _ _ h => h) cxpp (kl_ok (fun _ h => (by cases h))) nw_class (fun _ => by decide) cxk148
def cxt149 : con := (37, [(2, 5, 1), (2, 19, 1), (0, 0, 5)], [], [some (0, 0, 127)], [], 5, 400, true)
theorem cxk149 : con_chk (kl bB cxF []) PT bB 198 cxF cxJ cxjo cxP 644 cxt149 = true := fq_chk1 (fq_jn_eq _) rfl (by decide +kernel)   -- X3_esteemFor
theorem cxo149 : con_ok PT bB 198 cxF cxQ cxt149 := con_chk_ok (fun _ _ h => h) cxpp (kl_ok (fun _ h => (by cases h))) nw_class (fun _ => by decide) cxk149
def cxt150 : con := (38, [(2, 5, 1), (2, 19, 1)], [], [some (0, 0, 999)], [], 10, 800, true)
theorem cxk150 : con_chk (kl bB cxF [cxt149]) PT bB 198 cxF cxJ cxjo cxP 488 cxt150 = true := fq_chk1 (fq_jn_eq _) rfl (by decide +kernel)   -- X3_allEsteem
theorem cxo150 : con_ok PT bB 198 cxF cxQ cxt150 := con_chk_ok (fun _ _ h => h) cxpp (kl_ok (List.forall_mem_cons.mpr ⟨cxo149, fun _ h => (by cases h)⟩)) nw_class (fun _ => by decide) cxk150
def cxt151 : con := (41, [(2, 5, 1), (2, 19, 1), (0, 0, 7)], [], [some (0, 0, 1)], [], 5, 400, true)
theorem cxk151 : con_chk (kl bB cxF []) PT bB 198 cxF cxJ cxjo cxP 431 cxt151 = true := fq_chk1 (fq_jn_eq _) rfl (by decide +kernel)   -- X3_isEater
theorem cxo151 : con_ok PT bB 198 cxF cxQ cxt151 := con_chk_ok (fun _ _ h => h) cxpp (kl_ok (fun _ h => (by cases h))) nw_class (fun _ => by decide) cxk151
def cxt152 : con := (43, [(2, 5, 1), (2, 19, 1), (0, 0, 5)], [], [none], [], 10, 800, false)
theorem cxk152 : con_chk (kl bB cxF [cxt151]) PT bB 198 cxF cxJ cxjo cxP 754 cxt152 = true := fq_chk1 (fq_jn_eq _) rfl (by decide +kernel)   -- X3_passMonthAt
theorem cxo152 : con_ok PT bB 198 cxF cxQ cxt152 := con_chk_ok (fun _ _ h => h) cxpp (kl_ok (List.forall_mem_cons.mpr ⟨cxo151, fun _ h => (by cases h)⟩)) nw_class (fun h => by cases h) cxk152
def cxt153 : con := (42, [(2, 5, 1), (2, 19, 1)], [], [none], [], 15, 1200, false)
theorem cxk153 : con_chk (kl bB cxF [cxt152]) PT bB 198 cxF cxJ cxjo cxP 473 cxt153 = true := fq_chk1 (fq_jn_eq _) rfl (by decide +kernel)   -- X3_passMonth
theorem cxo153 : con_ok PT bB 198 cxF cxQ cxt153 := con_chk_ok (fun _ _ h => h) cxpp (kl_ok (List.forall_mem_cons.mpr ⟨cxo152, fun _ h => (by cases h)⟩)) nw_class (fun h => by cases h) cxk153
def cxt154 : con := (44, [(2, 5, 1), (2, 19, 1), (0, 0, 5)], [], [some (0, 1, 100)], [], 15, 1200, false)
theorem cxk154 : con_chk (kl bB cxF [cxt152]) PT bB 198 cxF cxJ cxjo cxP 1895 cxt154 = true := fq_chk1 (fq_jn_eq _) rfl (by decide +kernel)   -- X3_firstDeath
theorem cxo154 : con_ok PT bB 198 cxF cxQ cxt154 := con_chk_ok (fun _ _ h => h) cxpp (kl_ok (List.forall_mem_cons.mpr ⟨cxo152, fun _ h => (by cases h)⟩)) nw_class (fun h => by cases h) cxk154
def cxt155 : con := (47, [(2, 148, 1), (0, 0, 5)], [], [none], [], 5, 400, false)
theorem cxk155 : con_chk (kl bB cxF []) PT bB 198 cxF cxJ cxjo cxP 648 cxt155 = true := fq_chk1 (fq_jn_eq _) rfl (by decide +kernel)   -- X4_shorten
theorem cxo155 : con_ok PT bB 198 cxF cxQ cxt155 := con_chk_ok (fun _ _ h => h) cxpp (kl_ok (fun _ h => (by cases h))) nw_class (fun h => by cases h) cxk155
def cxt156 : con := (46, [(2, 148, 1), (0, 0, 5), (0, 0, 5)], [], [some (0, (-1), 1000)], [], 10, 800, false)
theorem cxk156 : con_chk (kl bB cxF [cxt155]) PT bB 198 cxF cxJ cxjo cxP 989 cxt156 = true := fq_chk1 (fq_jn_eq _) rfl (by decide +kernel)   -- X4_fewestMonths
theorem cxo156 : con_ok PT bB 198 cxF cxQ cxt156 := con_chk_ok (fun _ _ h => h) cxpp (kl_ok (List.forall_mem_cons.mpr ⟨cxo155, fun _ h => (by cases h)⟩)) nw_class (fun h => by cases h) cxk156
def cxt157 : con := (49, [(2, 148, 1), (0, 0, 5)], [], [some (0, 0, 5)], [], 5, 400, true)
theorem cxk157 : con_chk (kl bB cxF []) PT bB 198 cxF cxJ cxjo cxP 637 cxt157 = true := fq_chk1 (fq_jn_eq _) rfl (by decide +kernel)   -- X4_firstNext
theorem cxo157 : con_ok PT bB 198 cxF cxQ cxt157 := con_chk_ok (fun _ _ h => h) cxpp (kl_ok (fun _ h => (by cases h))) nw_class (fun _ => by decide) cxk157
def cxt158 : con := (48, [(2, 148, 1), (0, 0, 5), (2, 3, 1)], [], [none], [], 10, 800, false)
theorem cxk158 : con_chk (kl bB cxF [cxt96, cxt157]) PT bB 198 cxF cxJ cxjo cxP 526 cxt158 = true := fq_chk1 (fq_jn_eq _) rfl (by decide +kernel)   -- X4_tellWay
theorem cxo158 : con_ok PT bB 198 cxF cxQ cxt158 := con_chk_ok (fun _ _ h => h) cxpp (kl_ok (List.forall_mem_cons.mpr ⟨cxo96, List.forall_mem_cons.mpr ⟨cxo157, fun _ h => (by cases h)⟩⟩)) nw_class (fun h => by cases h) cxk158
def cxt159 : con := (51, [(2, 148, 1), (0, 91, 91), (0, 0, 5), (0, (-2147483648), 2147483647), (0, (-2147483648), 2147483647)], [], [none], [], 5, 400, false)
theorem cxk159 : con_chk (kl bB cxF []) PT bB 198 cxF cxJ cxjo cxP 1016 cxt159 = true := fq_chk1 (fq_jn_eq _) rfl (by decide +kernel)   -- X4_goOn
theorem cxo159 : con_ok PT bB 198 cxF cxQ cxt159 := con_chk_ok (fun _ _ h => h) cxpp (kl_ok (fun _ h => (by cases h))) nw_class (fun h => by cases h) cxk159
def cxt160 : con := (51, [(2, 148, 1), (0, 92, 92), (0, 0, 5), (0, (-2147483648), 2147483647), (0, (-2147483648), 2147483647)], [], [none], [], 5, 400, false)
theorem cxk160 : con_chk (kl bB cxF []) PT bB 198 cxF cxJ cxjo cxP 1016 cxt160 = true := fq_chk1 (fq_jn_eq _) rfl (by decide +kernel)   -- X4_goOn
theorem cxo160 : con_ok PT bB 198 cxF cxQ cxt160 := con_chk_ok (fun _ _ h => h) cxpp (kl_ok (fun _ h => (by cases h))) nw_class (fun h => by cases h) cxk160
def cxt161 : con := (51, [(2, 148, 1), (0, 93, 93), (0, 0, 5), (0, (-2147483648), 2147483647), (0, (-2147483648), 2147483647)], [], [none], [], 5, 400, false)
theorem cxk161 : con_chk (kl bB cxF []) PT bB 198 cxF cxJ cxjo cxP 1016 cxt161 = true := fq_chk1 (fq_jn_eq _) rfl (by decide +kernel)   -- X4_goOn
theorem cxo161 : con_ok PT bB 198 cxF cxQ cxt161 := con_chk_ok (fun _ _ h => h) cxpp (kl_ok (fun _ h => (by cases h))) nw_class (fun h => by cases h) cxk161
def cxt162 : con := (51, [(2, 148, 1), (0, 94, 94), (0, 0, 5), (0, (-2147483648), 2147483647), (0, (-2147483648), 2147483647)], [], [none], [], 5, 400, false)
theorem cxk162 : con_chk (kl bB cxF []) PT bB 198 cxF cxJ cxjo cxP 1016 cxt162 = true := fq_chk1 (fq_jn_eq _) rfl (by decide +kernel)   -- X4_goOn
theorem cxo162 : con_ok PT bB 198 cxF cxQ cxt162 := con_chk_ok (fun _ _ h => h) cxpp (kl_ok (fun _ h => (by cases h))) nw_class (fun h => by cases h) cxk162
