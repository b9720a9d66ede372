section MG47cx09x0
/-! contracts -/
def cxt147 : con := (35, [(2, 5, 1)], [], [some (0, 0, 15)], [], 5, 400, true)
theorem cxk147 : con_chk (kl bB cxF []) PT bB 198 cxF cxJ cxjo cxP 794 cxt147 = true := fq_chk1 (fq_jn_eq _) rfl (by decide +kernel)   -- X3_roadsThere
theorem cxo147 : con_ok PT bB 198 cxF cxQ cxt147 := con_chk_ok (fun _ _ h => h) cxpp (kl_ok (fun _ h => (by cases h))) nw_class (fun _ => by decide) cxk147
def cxt148 : con := (36, [(2, 5, 1), (2, 13, 1)], [], [some (0, (-2147483648), 2147483647)], [], 5, 400, true)
theorem cxk148 : con_chk (kl bB cxF []) PT bB 198 cxF cxJ cxjo cxP 488 cxt148 = true := fq_chk1 (fq_jn_eq _) rfl (by decide +kernel)   -- X3_allGrain
theorem cxo148 : con_ok PT bB 198 cxF cxQ cxt148 := con_chk_ok (fun _ _ h => h) cxpp (kl_ok (fun _ h => (by cases h))) nw_class (fun _ => by decide) cxk148
def cxt149 : con := (37, [(2, 5, 1), (2, 19, 1), (0, 0, 5)], [], [some (0, 0, 127)], [], 5, 400, true)
theorem cxk149 : con_chk (kl bB cxF []) PT bB 198 cxF cxJ cxjo cxP 644 cxt149 = true := fq_chk1 (fq_jn_eq _) rfl (by decide +kernel)   -- X3_esteemFor
theorem cxo149 : con_ok PT bB 198 cxF cxQ cxt149 := con_chk_ok (fun _ _ h => h) cxpp (kl_ok (fun _ h => (by cases h))) nw_class (fun _ => by decide) cxk149
def cxt150 : con := (38, [(2, 5, 1), (2, 19, 1)], [], [some (0, 0, 999)], [], 10, 800, true)
theorem cxk150 : con_chk (kl bB cxF [cxt149]) PT bB 198 cxF cxJ cxjo cxP 488 cxt150 = true := fq_chk1 (fq_jn_eq _) rfl (by decide +kernel)   -- X3_allEsteem
theorem cxo150 : con_ok PT bB 198 cxF cxQ cxt150 := con_chk_ok (fun _ _ h => h) cxpp (kl_ok (List.forall_mem_cons.mpr ⟨cxo149, fun _ h => (by cases h)⟩)) nw_class (fun _ => by decide) cxk150
def cxt151 : con := (41, [(2, 5, 1), (2, 19, 1), (0, 0, 7)], [], [some (0, 0, 1)], [], 5, 400, true)
theorem cxk151 : con_chk (kl bB cxF []) PT bB 198 cxF cxJ cxjo cxP 431 cxt151 = true := fq_chk1 (fq_jn_eq _) rfl (by decide +kernel)   -- X3_isEater
theorem cxo151 : con_ok PT bB 198 cxF cxQ cxt151 := con_chk_ok (fun _ _ h => h) cxpp (kl_ok (fun _ h => (by cases h))) nw_class (fun _ => by decide) cxk151
def cxt152 : con := (43, [(2, 5, 1), (2, 19, 1), (0, 0, 5)], [], [none], [], 10, 800, false)
theorem cxk152 : con_chk (kl bB cxF [cxt151]) PT bB 198 cxF cxJ cxjo cxP 754 cxt152 = true := fq_chk1 (fq_jn_eq _) rfl (by decide +kernel)   -- X3_passMonthAt
theorem cxo152 : con_ok PT bB 198 cxF cxQ cxt152 := con_chk_ok (fun _ _ h => h) cxpp (kl_ok (List.forall_mem_cons.mpr ⟨cxo151, fun _ h => (by cases h)⟩)) nw_class (fun h => by cases h) cxk152
def cxt153 : con := (42, [(2, 5, 1), (2, 19, 1)], [], [none], [], 15, 1200, false)
theorem cxk153 : con_chk (kl bB cxF [cxt152]) PT bB 198 cxF cxJ cxjo cxP 473 cxt153 = true := fq_chk1 (fq_jn_eq _) rfl (by decide +kernel)   -- X3_passMonth
theorem cxo153 : con_ok PT bB 198 cxF cxQ cxt153 := con_chk_ok (fun _ _ h => h) cxpp (kl_ok (List.forall_mem_cons.mpr ⟨cxo152, fun _ h => (by cases h)⟩)) nw_class (fun h => by cases h) cxk153
def cxt154 : con := (44, [(2, 5, 1), (2, 19, 1), (0, 0, 5)], [], [some (0, 1, 100)], [], 15, 1200, false)
theorem cxk154 : con_chk (kl bB cxF [cxt152]) PT bB 198 cxF cxJ cxjo cxP 1895 cxt154 = true := fq_chk1 (fq_jn_eq _) rfl (by decide +kernel)   -- X3_firstDeath
theorem cxo154 : con_ok PT bB 198 cxF cxQ cxt154 := con_chk_ok (fun _ _ h => h) cxpp (kl_ok (List.forall_mem_cons.mpr ⟨cxo152, fun _ h => (by cases h)⟩)) nw_class (fun h => by cases h) cxk154
def cxt155 : con := (47, [(2, 148, 1), (0, 0, 5)], [], [none], [], 5, 400, false)
theorem cxk155 : con_chk (kl bB cxF []) PT bB 198 cxF cxJ cxjo cxP 648 cxt155 = true := fq_chk1 (fq_jn_eq _) rfl (by decide +kernel)   -- X4_shorten
theorem cxo155 : con_ok PT bB 198 cxF cxQ cxt155 := con_chk_ok (fun _ _ h => h) cxpp (kl_ok (fun _ h => (by cases h))) nw_class (fun h => by cases h) cxk155
def cxt156 : con := (46, [(2, 148, 1), (0, 0, 5), (0, 0, 5)], [], [some (0, (-1), 1000)], [], 10, 800, false)
theorem cxk156 : con_chk (kl bB cxF [cxt155]) PT bB 198 cxF cxJ cxjo cxP 989 cxt156 = true := fq_chk1 (fq_jn_eq _) rfl (by decide +kernel)   -- X4_fewestMonths
theorem cxo156 : con_ok PT bB 198 cxF cxQ cxt156 := con_chk_ok (fun _ _ h => h) cxpp (kl_ok (List.forall_mem_cons.mpr ⟨cxo155, fun _ h => (by cases h)⟩)) nw_class (fun h => by cases h) cxk156
def cxt157 : con := (49, [(2, 148, 1), (0, 0, 5)], [], [some (0, 0, 5)], [], 5, 400, true)
theorem cxk157 : con_chk (kl bB cxF []) PT bB 198 cxF cxJ cxjo cxP 637 cxt157 = true := fq_chk1 (fq_jn_eq _) rfl (by decide +kernel)   -- X4_firstNext
theorem cxo157 : con_ok PT bB 198 cxF cxQ cxt157 := con_chk_ok (fun _ _ h => h) cxpp (kl_ok (fun _ h => (by cases h))) nw_class (fun _ => by decide) cxk157
def cxt158 : con := (48, [(2, 148, 1), (0, 0, 5), (2, 3, 1)], [], [none], [], 10, 800, false)
theorem cxk158 : con_chk (kl bB cxF [cxt96, cxt157]) PT bB 198 cxF cxJ cxjo cxP 526 cxt158 = true := fq_chk1 (fq_jn_eq _) rfl (by decide +kernel)   -- X4_tellWay
theorem cxo158 : con_ok PT bB 198 cxF cxQ cxt158 := con_chk_ok (fun _ _ h => h) cxpp (kl_ok (List.forall_mem_cons.mpr ⟨cxo96, List.forall_mem_cons.mpr ⟨cxo157, fun _ h => (by cases h)⟩⟩)) nw_class (fun h => by cases h) cxk158
def cxt159 : con := (51, [(2, 148, 1), (0, 91, 91), (0, 0, 5), (0, (-2147483648), 2147483647), (0, (-2147483648), 2147483647)], [], [none], [], 5, 400, false)
theorem cxk159 : con_chk (kl bB cxF []) PT bB 198 cxF cxJ cxjo cxP 1016 cxt159 = true := fq_chk1 (fq_jn_eq _) rfl (by decide +kernel)   -- X4_goOn
theorem cxo159 : con_ok PT bB 198 cxF cxQ cxt159 := con_chk_ok (fun _ _ h => h) cxpp (kl_ok (fun _ h => (by cases h))) nw_class (fun h => by cases h) cxk159
def cxt160 : con := (51, [(2, 148, 1), (0, 92, 92), (0, 0, 5), (0, (-2147483648), 2147483647), (0, (-2147483648), 2147483647)], [], [none], [], 5, 400, false)
theorem cxk160 : con_chk (kl bB cxF []) PT bB 198 cxF cxJ cxjo cxP 1016 cxt160 = true := fq_chk1 (fq_jn_eq _) rfl (by decide +kernel)   -- X4_goOn
theorem cxo160 : con_ok PT bB 198 cxF cxQ cxt160 := con_chk_ok (fun _ _ h => h) cxpp (kl_ok (fun _ h => (by cases h))) nw_class (fun h => by cases h) cxk160
def cxt161 : con := (51, [(2, 148, 1), (0, 93, 93), (0, 0, 5), (0, (-2147483648), 2147483647), (0, (-2147483648), 2147483647)], [], [none], [], 5, 400, false)
theorem cxk161 : con_chk (kl bB cxF []) PT bB 198 cxF cxJ cxjo cxP 1016 cxt161 = true := fq_chk1 (fq_jn_eq _) rfl (by decide +kernel)   -- X4_goOn
theorem cxo161 : con_ok PT bB 198 cxF cxQ cxt161 := con_chk_ok (fun _ _ h => h) cxpp (kl_ok (fun _ h => (by cases h))) nw_class (fun h => by cases h) cxk161
def cxt162 : con := (51, [(2, 148, 1), (0, 94, 94), (0, 0, 5), (0, (-2147483648), 2147483647), (0, (-2147483648), 2147483647)], [], [none], [], 5, 400, false)
theorem cxk162 : con_chk (kl bB cxF []) PT bB 198 cxF cxJ cxjo cxP 1016 cxt162 = true := fq_chk1 (fq_jn_eq _) rfl (by decide +kernel)   -- X4_goOn
theorem cxo162 : con_ok PT bB 198 cxF cxQ cxt162 := con_chk_ok (fun _ _ h => h) cxpp (kl_ok (fun _ h => (by cases h))) nw_class (fun h => by cases h) cxk162
end MG47cx09x0
section MG47cx09x1
/-! contracts -/
def cxt163 : con := (51, [(2, 148, 1), (0, 95, 95), (0, 0, 5), (0, (-2147483648), 2147483647), (0, (-2147483648), 2147483647)], [], [none], [], 5, 400, false)
theorem cxk163 : con_chk (kl bB cxF []) PT bB 198 cxF cxJ cxjo cxP 1016 cxt163 = true := fq_chk1 (fq_jn_eq _) rfl (by decide +kernel)   -- X4_goOn
theorem cxo163 : con_ok PT bB 198 cxF cxQ cxt163 := con_chk_ok (fun _ _ h => h) cxpp (kl_ok (fun _ h => (by cases h))) nw_class (fun h => by cases h) cxk163
def cxt164 : con := (51, [(2, 148, 1), (0, 96, 96), (0, 0, 5), (0, (-2147483648), 2147483647), (0, (-2147483648), 2147483647)], [], [none], [], 5, 400, false)
theorem cxk164 : con_chk (kl bB cxF []) PT bB 198 cxF cxJ cxjo cxP 1016 cxt164 = true := fq_chk1 (fq_jn_eq _) rfl (by decide +kernel)   -- X4_goOn
theorem cxo164 : con_ok PT bB 198 cxF cxQ cxt164 := con_chk_ok (fun _ _ h => h) cxpp (kl_ok (fun _ h => (by cases h))) nw_class (fun h => by cases h) cxk164
def cxt165 : con := (51, [(2, 148, 1), (0, 97, 97), (0, 0, 5), (0, (-2147483648), 2147483647), (0, (-2147483648), 2147483647)], [], [none], [], 5, 400, false)
theorem cxk165 : con_chk (kl bB cxF []) PT bB 198 cxF cxJ cxjo cxP 1016 cxt165 = true := fq_chk1 (fq_jn_eq _) rfl (by decide +kernel)   -- X4_goOn
theorem cxo165 : con_ok PT bB 198 cxF cxQ cxt165 := con_chk_ok (fun _ _ h => h) cxpp (kl_ok (fun _ h => (by cases h))) nw_class (fun h => by cases h) cxk165
def cxt166 : con := (51, [(2, 148, 1), (0, 98, 98), (0, 0, 5), (0, (-2147483648), 2147483647), (0, (-2147483648), 2147483647)], [], [none], [], 5, 400, false)
theorem cxk166 : con_chk (kl bB cxF []) PT bB 198 cxF cxJ cxjo cxP 1016 cxt166 = true := fq_chk1 (fq_jn_eq _) rfl (by decide +kernel)   -- X4_goOn
theorem cxo166 : con_ok PT bB 198 cxF cxQ cxt166 := con_chk_ok (fun _ _ h => h) cxpp (kl_ok (fun _ h => (by cases h))) nw_class (fun h => by cases h) cxk166
def cxt167 : con := (51, [(2, 148, 1), (0, 99, 99), (0, 0, 5), (0, (-2147483648), 2147483647), (0, (-2147483648), 2147483647)], [], [none], [], 5, 400, false)
theorem cxk167 : con_chk (kl bB cxF []) PT bB 198 cxF cxJ cxjo cxP 842 cxt167 = true := fq_chk1 (fq_jn_eq _) rfl (by decide +kernel)   -- X4_goOn
theorem cxo167 : con_ok PT bB 198 cxF cxQ cxt167 := con_chk_ok (fun _ _ h => h) cxpp (kl_ok (fun _ h => (by cases h))) nw_class (fun h => by cases h) cxk167
def cxt168 : con := (51, [(2, 148, 1), (0, 0, 90), (0, 0, 5), (0, (-2147483648), 2147483647), (0, (-2147483648), 2147483647)], [], [none], [], 5, 400, false)
theorem cxk168 : con_chk (kl bB cxF []) PT bB 198 cxF cxJ cxjo cxP 1016 cxt168 = true := fq_chk1 (fq_jn_eq _) rfl (by decide +kernel)   -- X4_goOn
theorem cxo168 : con_ok PT bB 198 cxF cxQ cxt168 := con_chk_ok (fun _ _ h => h) cxpp (kl_ok (fun _ h => (by cases h))) nw_class (fun h => by cases h) cxk168
def cxt170 : con := (55, [(2, 3, 1), (1, 0, 2147483647)], [], [none], [], 10, 800, false)
theorem cxk170 : con_chk (kl bB cxF [cxt96]) PT bB 198 cxF cxJ cxjo cxP 410 cxt170 = true := fq_chk1 (fq_jn_eq _) rfl (by decide +kernel)   -- X5_tellOne
theorem cxo170 : con_ok PT bB 198 cxF cxQ cxt170 := con_chk_ok (fun _ _ h => h) cxpp (kl_ok (List.forall_mem_cons.mpr ⟨cxo96, fun _ h => (by cases h)⟩)) nw_class (fun h => by cases h) cxk170
def cxt171 : con := (60, [(2, 142, 1), (0, (-2147483648), 999)], [], [none], [], 5, 400, false)
theorem cxk171 : con_chk (kl bB cxF []) PT bB 198 cxF cxJ cxjo cxP 421 cxt171 = true := fq_chk1 (fq_jn_eq _) rfl (by decide +kernel)   -- X6_emit
theorem cxo171 : con_ok PT bB 198 cxF cxQ cxt171 := con_chk_ok (fun _ _ h => h) cxpp (kl_ok (fun _ h => (by cases h))) nw_class (fun h => by cases h) cxk171
def cxt172 : con := (59, [(2, 142, 1)], [], [none], [], 10, 800, false)
theorem cxk172 : con_chk (kl bB cxF [cxt171]) PT bB 198 cxF cxJ cxjo cxP 419 cxt172 = true := fq_chk1 (fq_jn_eq _) rfl (by decide +kernel)   -- X6_beFirstRule
theorem cxo172 : con_ok PT bB 198 cxF cxQ cxt172 := con_chk_ok (fun _ _ h => h) cxpp (kl_ok (List.forall_mem_cons.mpr ⟨cxo171, fun _ h => (by cases h)⟩)) nw_class (fun h => by cases h) cxk172
def cxt173 : con := (61, [(2, 142, 1)], [], [some (0, (-1), 65535)], [], 10, 800, true)
theorem cxk173 : con_chk (kl bB cxF [cxt33]) PT bB 198 cxF cxJ cxjo cxP 407 cxt173 = true := fq_chk1 (fq_jn_eq _) rfl (by decide +kernel)   -- X6_nextSign
theorem cxo173 : con_ok PT bB 198 cxF cxQ cxt173 := con_chk_ok (fun _ _ h => h) cxpp (kl_ok (List.forall_mem_cons.mpr ⟨cxo33, fun _ h => (by cases h)⟩)) nw_class (fun _ => by decide) cxk173
def cxt174 : con := (66, [(2, 142, 1)], [], [none], [], 15, 1200, false)
theorem cxk174 : con_chk (kl bB cxF [cxt34, cxt171]) PT bB 198 cxF cxJ cxjo cxP 502 cxt174 = true := fq_chk1 (fq_jn_eq _) rfl (by decide +kernel)   -- X6_readNumber
theorem cxo174 : con_ok PT bB 198 cxF cxQ cxt174 := con_chk_ok (fun _ _ h => h) cxpp (kl_ok (List.forall_mem_cons.mpr ⟨cxo34, List.forall_mem_cons.mpr ⟨cxo171, fun _ h => (by cases h)⟩⟩)) nw_class (fun h => by cases h) cxk174
def cxt175 : con := (65, [(2, 142, 1), (0, 4, 4)], [], [some (0, 0, 1)], [], 20, 1600, false)
theorem cxk175 : con_chk (kl bB cxF [cxt43, cxt171, cxt173, cxt174]) PT bB 198 cxF cxJ cxjo cxP 448 cxt175 = true := fq_chk1 (fq_jn_eq _) rfl (by decide +kernel)   -- X6_readThing
theorem cxo175 : con_ok PT bB 198 cxF cxQ cxt175 := con_chk_ok (fun _ _ h => h) cxpp (kl_ok (List.forall_mem_cons.mpr ⟨cxo43, List.forall_mem_cons.mpr ⟨cxo171, List.forall_mem_cons.mpr ⟨cxo173, List.forall_mem_cons.mpr ⟨cxo174, fun _ h => (by cases h)⟩⟩⟩⟩)) nw_class (fun h => by cases h) cxk175
def cxt176 : con := (64, [(2, 142, 1), (0, 4, 4)], [], [some (0, 0, 1)], [], 25, 2000, false)
theorem cxk176 : con_chk (kl bB cxF [cxt171, cxt173, cxt175]) PT bB 198 cxF cxJ cxjo cxP 1202 cxt176 = true := fq_chk1 (fq_jn_eq _) rfl (by decide +kernel)   -- X6_readSigned
theorem cxo176 : con_ok PT bB 198 cxF cxQ cxt176 := con_chk_ok (fun _ _ h => h) cxpp (kl_ok (List.forall_mem_cons.mpr ⟨cxo171, List.forall_mem_cons.mpr ⟨cxo173, List.forall_mem_cons.mpr ⟨cxo175, fun _ h => (by cases h)⟩⟩⟩)) nw_class (fun h => by cases h) cxk176
def cxt177 : con := (62, [(2, 142, 1), (0, 3, 3), (0, 4, 4)], [], [some (0, 0, 1)], [], 30, 2400, false)
theorem cxk177 : con_chk (kl bB cxF [cxt176]) PT bB 198 cxF cxJ cxjo cxP 407 cxt177 = true := fq_chk1 (fq_jn_eq _) rfl (by decide +kernel)   -- X6_readLevel
theorem cxo177 : con_ok PT bB 198 cxF cxQ cxt177 := con_chk_ok (fun _ _ h => h) cxpp (kl_ok (List.forall_mem_cons.mpr ⟨cxo176, fun _ h => (by cases h)⟩)) nw_class (fun h => by cases h) cxk177
def cxt178 : con := (62, [(2, 142, 1), (0, 2, 2), (0, 4, 4)], [], [some (0, 0, 1)], [], 35, 2800, false)
theorem cxk178 : con_chk (kl bB cxF [cxt171, cxt173, cxt177]) PT bB 198 cxF cxJ cxjo cxP 2103 cxt178 = true := fq_chk1 (fq_jn_eq _) rfl (by decide +kernel)   -- X6_readLevel
theorem cxo178 : con_ok PT bB 198 cxF cxQ cxt178 := con_chk_ok (fun _ _ h => h) cxpp (kl_ok (List.forall_mem_cons.mpr ⟨cxo171, List.forall_mem_cons.mpr ⟨cxo173, List.forall_mem_cons.mpr ⟨cxo177, fun _ h => (by cases h)⟩⟩⟩)) nw_class (fun h => by cases h) cxk178
end MG47cx09x1
section MG47cx09x2
/-! contracts -/
def cxt179 : con := (62, [(2, 142, 1), (0, 1, 1), (0, 4, 4)], [], [some (0, 0, 1)], [], 40, 3200, false)
theorem cxk179 : con_chk (kl bB cxF [cxt171, cxt173, cxt178]) PT bB 198 cxF cxJ cxjo cxP 2103 cxt179 = true := fq_chk1 (fq_jn_eq _) rfl (by decide +kernel)   -- X6_readLevel
theorem cxo179 : con_ok PT bB 198 cxF cxQ cxt179 := con_chk_ok (fun _ _ h => h) cxpp (kl_ok (List.forall_mem_cons.mpr ⟨cxo171, List.forall_mem_cons.mpr ⟨cxo173, List.forall_mem_cons.mpr ⟨cxo178, fun _ h => (by cases h)⟩⟩⟩)) nw_class (fun h => by cases h) cxk179
def cxt180 : con := (62, [(2, 142, 1), (0, 0, 0), (0, 4, 4)], [], [some (0, 0, 1)], [], 45, 3600, false)
theorem cxk180 : con_chk (kl bB cxF [cxt171, cxt173, cxt179]) PT bB 198 cxF cxJ cxjo cxP 466 cxt180 = true := fq_chk1 (fq_jn_eq _) rfl (by decide +kernel)   -- X6_readLevel
theorem cxo180 : con_ok PT bB 198 cxF cxQ cxt180 := con_chk_ok (fun _ _ h => h) cxpp (kl_ok (List.forall_mem_cons.mpr ⟨cxo171, List.forall_mem_cons.mpr ⟨cxo173, List.forall_mem_cons.mpr ⟨cxo179, fun _ h => (by cases h)⟩⟩⟩)) nw_class (fun h => by cases h) cxk180
def cxt181 : con := (65, [(2, 142, 1), (0, 3, 3)], [], [some (0, 0, 1)], [], 50, 4000, false)
theorem cxk181 : con_chk (kl bB cxF [cxt43, cxt171, cxt173, cxt174, cxt180]) PT bB 198 cxF cxJ cxjo cxP 475 cxt181 = true := fq_chk1 (fq_jn_eq _) rfl (by decide +kernel)   -- X6_readThing
theorem cxo181 : con_ok PT bB 198 cxF cxQ cxt181 := con_chk_ok (fun _ _ h => h) cxpp (kl_ok (List.forall_mem_cons.mpr ⟨cxo43, List.forall_mem_cons.mpr ⟨cxo171, List.forall_mem_cons.mpr ⟨cxo173, List.forall_mem_cons.mpr ⟨cxo174, List.forall_mem_cons.mpr ⟨cxo180, fun _ h => (by cases h)⟩⟩⟩⟩⟩)) nw_class (fun h => by cases h) cxk181
def cxt182 : con := (64, [(2, 142, 1), (0, 3, 3)], [], [some (0, 0, 1)], [], 55, 4400, false)
theorem cxk182 : con_chk (kl bB cxF [cxt171, cxt173, cxt181]) PT bB 198 cxF cxJ cxjo cxP 1202 cxt182 = true := fq_chk1 (fq_jn_eq _) rfl (by decide +kernel)   -- X6_readSigned
theorem cxo182 : con_ok PT bB 198 cxF cxQ cxt182 := con_chk_ok (fun _ _ h => h) cxpp (kl_ok (List.forall_mem_cons.mpr ⟨cxo171, List.forall_mem_cons.mpr ⟨cxo173, List.forall_mem_cons.mpr ⟨cxo181, fun _ h => (by cases h)⟩⟩⟩)) nw_class (fun h => by cases h) cxk182
def cxt183 : con := (62, [(2, 142, 1), (0, 3, 3), (0, 3, 3)], [], [some (0, 0, 1)], [], 60, 4800, false)
theorem cxk183 : con_chk (kl bB cxF [cxt182]) PT bB 198 cxF cxJ cxjo cxP 407 cxt183 = true := fq_chk1 (fq_jn_eq _) rfl (by decide +kernel)   -- X6_readLevel
theorem cxo183 : con_ok PT bB 198 cxF cxQ cxt183 := con_chk_ok (fun _ _ h => h) cxpp (kl_ok (List.forall_mem_cons.mpr ⟨cxo182, fun _ h => (by cases h)⟩)) nw_class (fun h => by cases h) cxk183
def cxt184 : con := (62, [(2, 142, 1), (0, 2, 2), (0, 3, 3)], [], [some (0, 0, 1)], [], 65, 5200, false)
theorem cxk184 : con_chk (kl bB cxF [cxt171, cxt173, cxt183]) PT bB 198 cxF cxJ cxjo cxP 2103 cxt184 = true := fq_chk1 (fq_jn_eq _) rfl (by decide +kernel)   -- X6_readLevel
theorem cxo184 : con_ok PT bB 198 cxF cxQ cxt184 := con_chk_ok (fun _ _ h => h) cxpp (kl_ok (List.forall_mem_cons.mpr ⟨cxo171, List.forall_mem_cons.mpr ⟨cxo173, List.forall_mem_cons.mpr ⟨cxo183, fun _ h => (by cases h)⟩⟩⟩)) nw_class (fun h => by cases h) cxk184
def cxt185 : con := (62, [(2, 142, 1), (0, 1, 1), (0, 3, 3)], [], [some (0, 0, 1)], [], 70, 5600, false)
theorem cxk185 : con_chk (kl bB cxF [cxt171, cxt173, cxt184]) PT bB 198 cxF cxJ cxjo cxP 2103 cxt185 = true := fq_chk1 (fq_jn_eq _) rfl (by decide +kernel)   -- X6_readLevel
theorem cxo185 : con_ok PT bB 198 cxF cxQ cxt185 := con_chk_ok (fun _ _ h => h) cxpp (kl_ok (List.forall_mem_cons.mpr ⟨cxo171, List.forall_mem_cons.mpr ⟨cxo173, List.forall_mem_cons.mpr ⟨cxo184, fun _ h => (by cases h)⟩⟩⟩)) nw_class (fun h => by cases h) cxk185
def cxt186 : con := (62, [(2, 142, 1), (0, 0, 0), (0, 3, 3)], [], [some (0, 0, 1)], [], 75, 6000, false)
theorem cxk186 : con_chk (kl bB cxF [cxt171, cxt173, cxt185]) PT bB 198 cxF cxJ cxjo cxP 466 cxt186 = true := fq_chk1 (fq_jn_eq _) rfl (by decide +kernel)   -- X6_readLevel
theorem cxo186 : con_ok PT bB 198 cxF cxQ cxt186 := con_chk_ok (fun _ _ h => h) cxpp (kl_ok (List.forall_mem_cons.mpr ⟨cxo171, List.forall_mem_cons.mpr ⟨cxo173, List.forall_mem_cons.mpr ⟨cxo185, fun _ h => (by cases h)⟩⟩⟩)) nw_class (fun h => by cases h) cxk186
def cxt187 : con := (65, [(2, 142, 1), (0, 2, 2)], [], [some (0, 0, 1)], [], 80, 6400, false)
theorem cxk187 : con_chk (kl bB cxF [cxt43, cxt171, cxt173, cxt174, cxt186]) PT bB 198 cxF cxJ cxjo cxP 475 cxt187 = true := fq_chk1 (fq_jn_eq _) rfl (by decide +kernel)   -- X6_readThing
theorem cxo187 : con_ok PT bB 198 cxF cxQ cxt187 := con_chk_ok (fun _ _ h => h) cxpp (kl_ok (List.forall_mem_cons.mpr ⟨cxo43, List.forall_mem_cons.mpr ⟨cxo171, List.forall_mem_cons.mpr ⟨cxo173, List.forall_mem_cons.mpr ⟨cxo174, List.forall_mem_cons.mpr ⟨cxo186, fun _ h => (by cases h)⟩⟩⟩⟩⟩)) nw_class (fun h => by cases h) cxk187
end MG47cx09x2
section MG47cx09x3
/-! contracts -/
def cxt188 : con := (64, [(2, 142, 1), (0, 2, 2)], [], [some (0, 0, 1)], [], 85, 6800, false)
theorem cxk188 : con_chk (kl bB cxF [cxt171, cxt173, cxt187]) PT bB 198 cxF cxJ cxjo cxP 1202 cxt188 = true := fq_chk1 (fq_jn_eq _) rfl (by decide +kernel)   -- X6_readSigned
theorem cxo188 : con_ok PT bB 198 cxF cxQ cxt188 := con_chk_ok (fun _ _ h => h) cxpp (kl_ok (List.forall_mem_cons.mpr ⟨cxo171, List.forall_mem_cons.mpr ⟨cxo173, List.forall_mem_cons.mpr ⟨cxo187, fun _ h => (by cases h)⟩⟩⟩)) nw_class (fun h => by cases h) cxk188
def cxt189 : con := (62, [(2, 142, 1), (0, 3, 3), (0, 2, 2)], [], [some (0, 0, 1)], [], 90, 7200, false)
theorem cxk189 : con_chk (kl bB cxF [cxt188]) PT bB 198 cxF cxJ cxjo cxP 407 cxt189 = true := fq_chk1 (fq_jn_eq _) rfl (by decide +kernel)   -- X6_readLevel
theorem cxo189 : con_ok PT bB 198 cxF cxQ cxt189 := con_chk_ok (fun _ _ h => h) cxpp (kl_ok (List.forall_mem_cons.mpr ⟨cxo188, fun _ h => (by cases h)⟩)) nw_class (fun h => by cases h) cxk189
def cxt190 : con := (62, [(2, 142, 1), (0, 2, 2), (0, 2, 2)], [], [some (0, 0, 1)], [], 95, 7600, false)
theorem cxk190 : con_chk (kl bB cxF [cxt171, cxt173, cxt189]) PT bB 198 cxF cxJ cxjo cxP 2103 cxt190 = true := fq_chk1 (fq_jn_eq _) rfl (by decide +kernel)   -- X6_readLevel
theorem cxo190 : con_ok PT bB 198 cxF cxQ cxt190 := con_chk_ok (fun _ _ h => h) cxpp (kl_ok (List.forall_mem_cons.mpr ⟨cxo171, List.forall_mem_cons.mpr ⟨cxo173, List.forall_mem_cons.mpr ⟨cxo189, fun _ h => (by cases h)⟩⟩⟩)) nw_class (fun h => by cases h) cxk190
def cxt191 : con := (62, [(2, 142, 1), (0, 1, 1), (0, 2, 2)], [], [some (0, 0, 1)], [], 100, 8000, false)
theorem cxk191 : con_chk (kl bB cxF [cxt171, cxt173, cxt190]) PT bB 198 cxF cxJ cxjo cxP 2103 cxt191 = true := fq_chk1 (fq_jn_eq _) rfl (by decide +kernel)   -- X6_readLevel
theorem cxo191 : con_ok PT bB 198 cxF cxQ cxt191 := con_chk_ok (fun _ _ h => h) cxpp (kl_ok (List.forall_mem_cons.mpr ⟨cxo171, List.forall_mem_cons.mpr ⟨cxo173, List.forall_mem_cons.mpr ⟨cxo190, fun _ h => (by cases h)⟩⟩⟩)) nw_class (fun h => by cases h) cxk191
def cxt192 : con := (62, [(2, 142, 1), (0, 0, 0), (0, 2, 2)], [], [some (0, 0, 1)], [], 105, 8400, false)
theorem cxk192 : con_chk (kl bB cxF [cxt171, cxt173, cxt191]) PT bB 198 cxF cxJ cxjo cxP 466 cxt192 = true := fq_chk1 (fq_jn_eq _) rfl (by decide +kernel)   -- X6_readLevel
theorem cxo192 : con_ok PT bB 198 cxF cxQ cxt192 := con_chk_ok (fun _ _ h => h) cxpp (kl_ok (List.forall_mem_cons.mpr ⟨cxo171, List.forall_mem_cons.mpr ⟨cxo173, List.forall_mem_cons.mpr ⟨cxo191, fun _ h => (by cases h)⟩⟩⟩)) nw_class (fun h => by cases h) cxk192
def cxt193 : con := (65, [(2, 142, 1), (0, 1, 1)], [], [some (0, 0, 1)], [], 110, 8800, false)
theorem cxk193 : con_chk (kl bB cxF [cxt43, cxt171, cxt173, cxt174, cxt192]) PT bB 198 cxF cxJ cxjo cxP 475 cxt193 = true := fq_chk1 (fq_jn_eq _) rfl (by decide +kernel)   -- X6_readThing
theorem cxo193 : con_ok PT bB 198 cxF cxQ cxt193 := con_chk_ok (fun _ _ h => h) cxpp (kl_ok (List.forall_mem_cons.mpr ⟨cxo43, List.forall_mem_cons.mpr ⟨cxo171, List.forall_mem_cons.mpr ⟨cxo173, List.forall_mem_cons.mpr ⟨cxo174, List.forall_mem_cons.mpr ⟨cxo192, fun _ h => (by cases h)⟩⟩⟩⟩⟩)) nw_class (fun h => by cases h) cxk193
def cxt194 : con := (64, [(2, 142, 1), (0, 1, 1)], [], [some (0, 0, 1)], [], 115, 9200, false)
theorem cxk194 : con_chk (kl bB cxF [cxt171, cxt173, cxt193]) PT bB 198 cxF cxJ cxjo cxP 1202 cxt194 = true := fq_chk1 (fq_jn_eq _) rfl (by decide +kernel)   -- X6_readSigned
theorem cxo194 : con_ok PT bB 198 cxF cxQ cxt194 := con_chk_ok (fun _ _ h => h) cxpp (kl_ok (List.forall_mem_cons.mpr ⟨cxo171, List.forall_mem_cons.mpr ⟨cxo173, List.forall_mem_cons.mpr ⟨cxo193, fun _ h => (by cases h)⟩⟩⟩)) nw_class (fun h => by cases h) cxk194
def cxt195 : con := (62, [(2, 142, 1), (0, 3, 3), (0, 1, 1)], [], [some (0, 0, 1)], [], 120, 9600, false)
theorem cxk195 : con_chk (kl bB cxF [cxt194]) PT bB 198 cxF cxJ cxjo cxP 407 cxt195 = true := fq_chk1 (fq_jn_eq _) rfl (by decide +kernel)   -- X6_readLevel
theorem cxo195 : con_ok PT bB 198 cxF cxQ cxt195 := con_chk_ok (fun _ _ h => h) cxpp (kl_ok (List.forall_mem_cons.mpr ⟨cxo194, fun _ h => (by cases h)⟩)) nw_class (fun h => by cases h) cxk195
def cxt196 : con := (62, [(2, 142, 1), (0, 2, 2), (0, 1, 1)], [], [some (0, 0, 1)], [], 125, 10000, false)
theorem cxk196 : con_chk (kl bB cxF [cxt171, cxt173, cxt195]) PT bB 198 cxF cxJ cxjo cxP 2103 cxt196 = true := fq_chk1 (fq_jn_eq _) rfl (by decide +kernel)   -- X6_readLevel
theorem cxo196 : con_ok PT bB 198 cxF cxQ cxt196 := con_chk_ok (fun _ _ h => h) cxpp (kl_ok (List.forall_mem_cons.mpr ⟨cxo171, List.forall_mem_cons.mpr ⟨cxo173, List.forall_mem_cons.mpr ⟨cxo195, fun _ h => (by cases h)⟩⟩⟩)) nw_class (fun h => by cases h) cxk196
end MG47cx09x3
section MG47cx09x4
/-! contracts -/
def cxt197 : con := (62, [(2, 142, 1), (0, 1, 1), (0, 1, 1)], [], [some (0, 0, 1)], [], 130, 10400, false)
theorem cxk197 : con_chk (kl bB cxF [cxt171, cxt173, cxt196]) PT bB 198 cxF cxJ cxjo cxP 2103 cxt197 = true := fq_chk1 (fq_jn_eq _) rfl (by decide +kernel)   -- X6_readLevel
theorem cxo197 : con_ok PT bB 198 cxF cxQ cxt197 := con_chk_ok (fun _ _ h => h) cxpp (kl_ok (List.forall_mem_cons.mpr ⟨cxo171, List.forall_mem_cons.mpr ⟨cxo173, List.forall_mem_cons.mpr ⟨cxo196, fun _ h => (by cases h)⟩⟩⟩)) nw_class (fun h => by cases h) cxk197
def cxt198 : con := (62, [(2, 142, 1), (0, 0, 0), (0, 1, 1)], [], [some (0, 0, 1)], [], 135, 10800, false)
theorem cxk198 : con_chk (kl bB cxF [cxt171, cxt173, cxt197]) PT bB 198 cxF cxJ cxjo cxP 466 cxt198 = true := fq_chk1 (fq_jn_eq _) rfl (by decide +kernel)   -- X6_readLevel
theorem cxo198 : con_ok PT bB 198 cxF cxQ cxt198 := con_chk_ok (fun _ _ h => h) cxpp (kl_ok (List.forall_mem_cons.mpr ⟨cxo171, List.forall_mem_cons.mpr ⟨cxo173, List.forall_mem_cons.mpr ⟨cxo197, fun _ h => (by cases h)⟩⟩⟩)) nw_class (fun h => by cases h) cxk198
def cxt199 : con := (65, [(2, 142, 1), (0, 0, 0)], [], [some (0, 0, 1)], [], 140, 11200, false)
theorem cxk199 : con_chk (kl bB cxF [cxt43, cxt171, cxt173, cxt174, cxt198]) PT bB 198 cxF cxJ cxjo cxP 475 cxt199 = true := fq_chk1 (fq_jn_eq _) rfl (by decide +kernel)   -- X6_readThing
theorem cxo199 : con_ok PT bB 198 cxF cxQ cxt199 := con_chk_ok (fun _ _ h => h) cxpp (kl_ok (List.forall_mem_cons.mpr ⟨cxo43, List.forall_mem_cons.mpr ⟨cxo171, List.forall_mem_cons.mpr ⟨cxo173, List.forall_mem_cons.mpr ⟨cxo174, List.forall_mem_cons.mpr ⟨cxo198, fun _ h => (by cases h)⟩⟩⟩⟩⟩)) nw_class (fun h => by cases h) cxk199
def cxt200 : con := (64, [(2, 142, 1), (0, 0, 0)], [], [some (0, 0, 1)], [], 145, 11600, false)
theorem cxk200 : con_chk (kl bB cxF [cxt171, cxt173, cxt199]) PT bB 198 cxF cxJ cxjo cxP 1202 cxt200 = true := fq_chk1 (fq_jn_eq _) rfl (by decide +kernel)   -- X6_readSigned
theorem cxo200 : con_ok PT bB 198 cxF cxQ cxt200 := con_chk_ok (fun _ _ h => h) cxpp (kl_ok (List.forall_mem_cons.mpr ⟨cxo171, List.forall_mem_cons.mpr ⟨cxo173, List.forall_mem_cons.mpr ⟨cxo199, fun _ h => (by cases h)⟩⟩⟩)) nw_class (fun h => by cases h) cxk200
def cxt201 : con := (62, [(2, 142, 1), (0, 3, 3), (0, 0, 0)], [], [some (0, 0, 1)], [], 150, 12000, false)
theorem cxk201 : con_chk (kl bB cxF [cxt200]) PT bB 198 cxF cxJ cxjo cxP 407 cxt201 = true := fq_chk1 (fq_jn_eq _) rfl (by decide +kernel)   -- X6_readLevel
theorem cxo201 : con_ok PT bB 198 cxF cxQ cxt201 := con_chk_ok (fun _ _ h => h) cxpp (kl_ok (List.forall_mem_cons.mpr ⟨cxo200, fun _ h => (by cases h)⟩)) nw_class (fun h => by cases h) cxk201
def cxt202 : con := (62, [(2, 142, 1), (0, 2, 2), (0, 0, 0)], [], [some (0, 0, 1)], [], 155, 12400, false)
theorem cxk202 : con_chk (kl bB cxF [cxt171, cxt173, cxt201]) PT bB 198 cxF cxJ cxjo cxP 2103 cxt202 = true := fq_chk1 (fq_jn_eq _) rfl (by decide +kernel)   -- X6_readLevel
theorem cxo202 : con_ok PT bB 198 cxF cxQ cxt202 := con_chk_ok (fun _ _ h => h) cxpp (kl_ok (List.forall_mem_cons.mpr ⟨cxo171, List.forall_mem_cons.mpr ⟨cxo173, List.forall_mem_cons.mpr ⟨cxo201, fun _ h => (by cases h)⟩⟩⟩)) nw_class (fun h => by cases h) cxk202
def cxt203 : con := (62, [(2, 142, 1), (0, 1, 1), (0, 0, 0)], [], [some (0, 0, 1)], [], 160, 12800, false)
theorem cxk203 : con_chk (kl bB cxF [cxt171, cxt173, cxt202]) PT bB 198 cxF cxJ cxjo cxP 2103 cxt203 = true := fq_chk1 (fq_jn_eq _) rfl (by decide +kernel)   -- X6_readLevel
theorem cxo203 : con_ok PT bB 198 cxF cxQ cxt203 := con_chk_ok (fun _ _ h => h) cxpp (kl_ok (List.forall_mem_cons.mpr ⟨cxo171, List.forall_mem_cons.mpr ⟨cxo173, List.forall_mem_cons.mpr ⟨cxo202, fun _ h => (by cases h)⟩⟩⟩)) nw_class (fun h => by cases h) cxk203
def cxt204 : con := (62, [(2, 142, 1), (0, 0, 0), (0, 0, 0)], [], [some (0, 0, 1)], [], 165, 13200, false)
theorem cxk204 : con_chk (kl bB cxF [cxt171, cxt173, cxt203]) PT bB 198 cxF cxJ cxjo cxP 466 cxt204 = true := fq_chk1 (fq_jn_eq _) rfl (by decide +kernel)   -- X6_readLevel
theorem cxo204 : con_ok PT bB 198 cxF cxQ cxt204 := con_chk_ok (fun _ _ h => h) cxpp (kl_ok (List.forall_mem_cons.mpr ⟨cxo171, List.forall_mem_cons.mpr ⟨cxo173, List.forall_mem_cons.mpr ⟨cxo203, fun _ h => (by cases h)⟩⟩⟩)) nw_class (fun h => by cases h) cxk204
def cxt205 : con := (58, [(2, 142, 1)], [], [some (0, (-2147483648), 2147483647)], [], 170, 13600, false)
theorem cxk205 : con_chk (kl bB cxF [cxt172, cxt204]) PT bB 198 cxF cxJ cxjo cxP 442 cxt205 = true := fq_chk1 (fq_jn_eq _) rfl (by decide +kernel)   -- X6_read
theorem cxo205 : con_ok PT bB 198 cxF cxQ cxt205 := con_chk_ok (fun _ _ h => h) cxpp (kl_ok (List.forall_mem_cons.mpr ⟨cxo172, List.forall_mem_cons.mpr ⟨cxo204, fun _ h => (by cases h)⟩⟩)) nw_class (fun h => by cases h) cxk205
def cxt206 : con := (60, [(2, 145, 1), (0, (-2147483648), 999)], [], [none], [], 5, 400, false)
theorem cxk206 : con_chk (kl bB cxF []) PT bB 198 cxF cxJ cxjo cxP 421 cxt206 = true := fq_chk1 (fq_jn_eq _) rfl (by decide +kernel)   -- X6_emit
theorem cxo206 : con_ok PT bB 198 cxF cxQ cxt206 := con_chk_ok (fun _ _ h => h) cxpp (kl_ok (fun _ h => (by cases h))) nw_class (fun h => by cases h) cxk206
def cxt207 : con := (59, [(2, 145, 1)], [], [none], [], 10, 800, false)
theorem cxk207 : con_chk (kl bB cxF [cxt206]) PT bB 198 cxF cxJ cxjo cxP 419 cxt207 = true := fq_chk1 (fq_jn_eq _) rfl (by decide +kernel)   -- X6_beFirstRule
theorem cxo207 : con_ok PT bB 198 cxF cxQ cxt207 := con_chk_ok (fun _ _ h => h) cxpp (kl_ok (List.forall_mem_cons.mpr ⟨cxo206, fun _ h => (by cases h)⟩)) nw_class (fun h => by cases h) cxk207
def cxt208 : con := (61, [(2, 145, 1)], [], [some (0, (-1), 65535)], [], 10, 800, true)
theorem cxk208 : con_chk (kl bB cxF [cxt33]) PT bB 198 cxF cxJ cxjo cxP 407 cxt208 = true := fq_chk1 (fq_jn_eq _) rfl (by decide +kernel)   -- X6_nextSign
theorem cxo208 : con_ok PT bB 198 cxF cxQ cxt208 := con_chk_ok (fun _ _ h => h) cxpp (kl_ok (List.forall_mem_cons.mpr ⟨cxo33, fun _ h => (by cases h)⟩)) nw_class (fun _ => by decide) cxk208
def cxt209 : con := (66, [(2, 145, 1)], [], [none], [], 15, 1200, false)
theorem cxk209 : con_chk (kl bB cxF [cxt34, cxt206]) PT bB 198 cxF cxJ cxjo cxP 502 cxt209 = true := fq_chk1 (fq_jn_eq _) rfl (by decide +kernel)   -- X6_readNumber
theorem cxo209 : con_ok PT bB 198 cxF cxQ cxt209 := con_chk_ok (fun _ _ h => h) cxpp (kl_ok (List.forall_mem_cons.mpr ⟨cxo34, List.forall_mem_cons.mpr ⟨cxo206, fun _ h => (by cases h)⟩⟩)) nw_class (fun h => by cases h) cxk209
def cxt210 : con := (65, [(2, 145, 1), (0, 4, 4)], [], [some (0, 0, 1)], [], 20, 1600, false)
theorem cxk210 : con_chk (kl bB cxF [cxt43, cxt206, cxt208, cxt209]) PT bB 198 cxF cxJ cxjo cxP 448 cxt210 = true := fq_chk1 (fq_jn_eq _) rfl (by decide +kernel)   -- X6_readThing
theorem cxo210 : con_ok PT bB 198 cxF cxQ cxt210 := con_chk_ok (fun _ _ h => h) cxpp (kl_ok (List.forall_mem_cons.mpr ⟨cxo43, List.forall_mem_cons.mpr ⟨cxo206, List.forall_mem_cons.mpr ⟨cxo208, List.forall_mem_cons.mpr ⟨cxo209, fun _ h => (by cases h)⟩⟩⟩⟩)) nw_class (fun h => by cases h) cxk210
end MG47cx09x4
section MG47cx09x5
/-! contracts -/
def cxt211 : con := (64, [(2, 145, 1), (0, 4, 4)], [], [some (0, 0, 1)], [], 25, 2000, false)
theorem cxk211 : con_chk (kl bB cxF [cxt206, cxt208, cxt210]) PT bB 198 cxF cxJ cxjo cxP 1202 cxt211 = true := fq_chk1 (fq_jn_eq _) rfl (by decide +kernel)   -- X6_readSigned
theorem cxo211 : con_ok PT bB 198 cxF cxQ cxt211 := con_chk_ok (fun _ _ h => h) cxpp (kl_ok (List.forall_mem_cons.mpr ⟨cxo206, List.forall_mem_cons.mpr ⟨cxo208, List.forall_mem_cons.mpr ⟨cxo210, fun _ h => (by cases h)⟩⟩⟩)) nw_class (fun h => by cases h) cxk211
def cxt212 : con := (62, [(2, 145, 1), (0, 3, 3), (0, 4, 4)], [], [some (0, 0, 1)], [], 30, 2400, false)
theorem cxk212 : con_chk (kl bB cxF [cxt211]) PT bB 198 cxF cxJ cxjo cxP 407 cxt212 = true := fq_chk1 (fq_jn_eq _) rfl (by decide +kernel)   -- X6_readLevel
theorem cxo212 : con_ok PT bB 198 cxF cxQ cxt212 := con_chk_ok (fun _ _ h => h) cxpp (kl_ok (List.forall_mem_cons.mpr ⟨cxo211, fun _ h => (by cases h)⟩)) nw_class (fun h => by cases h) cxk212
def cxt213 : con := (62, [(2, 145, 1), (0, 2, 2), (0, 4, 4)], [], [some (0, 0, 1)], [], 35, 2800, false)
theorem cxk213 : con_chk (kl bB cxF [cxt206, cxt208, cxt212]) PT bB 198 cxF cxJ cxjo cxP 2103 cxt213 = true := fq_chk1 (fq_jn_eq _) rfl (by decide +kernel)   -- X6_readLevel
theorem cxo213 : con_ok PT bB 198 cxF cxQ cxt213 := con_chk_ok (fun _ _ h => h) cxpp (kl_ok (List.forall_mem_cons.mpr ⟨cxo206, List.forall_mem_cons.mpr ⟨cxo208, List.forall_mem_cons.mpr ⟨cxo212, fun _ h => (by cases h)⟩⟩⟩)) nw_class (fun h => by cases h) cxk213
def cxt214 : con := (62, [(2, 145, 1), (0, 1, 1), (0, 4, 4)], [], [some (0, 0, 1)], [], 40, 3200, false)
theorem cxk214 : con_chk (kl bB cxF [cxt206, cxt208, cxt213]) PT bB 198 cxF cxJ cxjo cxP 2103 cxt214 = true := fq_chk1 (fq_jn_eq _) rfl (by decide +kernel)   -- X6_readLevel
theorem cxo214 : con_ok PT bB 198 cxF cxQ cxt214 := con_chk_ok (fun _ _ h => h) cxpp (kl_ok (List.forall_mem_cons.mpr ⟨cxo206, List.forall_mem_cons.mpr ⟨cxo208, List.forall_mem_cons.mpr ⟨cxo213, fun _ h => (by cases h)⟩⟩⟩)) nw_class (fun h => by cases h) cxk214
def cxt215 : con := (62, [(2, 145, 1), (0, 0, 0), (0, 4, 4)], [], [some (0, 0, 1)], [], 45, 3600, false)
theorem cxk215 : con_chk (kl bB cxF [cxt206, cxt208, cxt214]) PT bB 198 cxF cxJ cxjo cxP 466 cxt215 = true := fq_chk1 (fq_jn_eq _) rfl (by decide +kernel)   -- X6_readLevel
theorem cxo215 : con_ok PT bB 198 cxF cxQ cxt215 := con_chk_ok (fun _ _ h => h) cxpp (kl_ok (List.forall_mem_cons.mpr ⟨cxo206, List.forall_mem_cons.mpr ⟨cxo208, List.forall_mem_cons.mpr ⟨cxo214, fun _ h => (by cases h)⟩⟩⟩)) nw_class (fun h => by cases h) cxk215
def cxt216 : con := (65, [(2, 145, 1), (0, 3, 3)], [], [some (0, 0, 1)], [], 50, 4000, false)
theorem cxk216 : con_chk (kl bB cxF [cxt43, cxt206, cxt208, cxt209, cxt215]) PT bB 198 cxF cxJ cxjo cxP 475 cxt216 = true := fq_chk1 (fq_jn_eq _) rfl (by decide +kernel)   -- X6_readThing
theorem cxo216 : con_ok PT bB 198 cxF cxQ cxt216 := con_chk_ok (fun _ _ h => h) cxpp (kl_ok (List.forall_mem_cons.mpr ⟨cxo43, List.forall_mem_cons.mpr ⟨cxo206, List.forall_mem_cons.mpr ⟨cxo208, List.forall_mem_cons.mpr ⟨cxo209, List.forall_mem_cons.mpr ⟨cxo215, fun _ h => (by cases h)⟩⟩⟩⟩⟩)) nw_class (fun h => by cases h) cxk216
def cxt217 : con := (64, [(2, 145, 1), (0, 3, 3)], [], [some (0, 0, 1)], [], 55, 4400, false)
theorem cxk217 : con_chk (kl bB cxF [cxt206, cxt208, cxt216]) PT bB 198 cxF cxJ cxjo cxP 1202 cxt217 = true := fq_chk1 (fq_jn_eq _) rfl (by decide +kernel)   -- X6_readSigned
theorem cxo217 : con_ok PT bB 198 cxF cxQ cxt217 := con_chk_ok (fun _ _ h => h) cxpp (kl_ok (List.forall_mem_cons.mpr ⟨cxo206, List.forall_mem_cons.mpr ⟨cxo208, List.forall_mem_cons.mpr ⟨cxo216, fun _ h => (by cases h)⟩⟩⟩)) nw_class (fun h => by cases h) cxk217
def cxt218 : con := (62, [(2, 145, 1), (0, 3, 3), (0, 3, 3)], [], [some (0, 0, 1)], [], 60, 4800, false)
theorem cxk218 : con_chk (kl bB cxF [cxt217]) PT bB 198 cxF cxJ cxjo cxP 407 cxt218 = true := fq_chk1 (fq_jn_eq _) rfl (by decide +kernel)   -- X6_readLevel
theorem cxo218 : con_ok PT bB 198 cxF cxQ cxt218 := con_chk_ok (fun _ _ h => h) cxpp (kl_ok (List.forall_mem_cons.mpr ⟨cxo217, fun _ h => (by cases h)⟩)) nw_class (fun h => by cases h) cxk218
def cxt219 : con := (62, [(2, 145, 1), (0, 2, 2), (0, 3, 3)], [], [some (0, 0, 1)], [], 65, 5200, false)
theorem cxk219 : con_chk (kl bB cxF [cxt206, cxt208, cxt218]) PT bB 198 cxF cxJ cxjo cxP 2103 cxt219 = true := fq_chk1 (fq_jn_eq _) rfl (by decide +kernel)   -- X6_readLevel
theorem cxo219 : con_ok PT bB 198 cxF cxQ cxt219 := con_chk_ok (fun _ _ h => h) cxpp (kl_ok (List.forall_mem_cons.mpr ⟨cxo206, List.forall_mem_cons.mpr ⟨cxo208, List.forall_mem_cons.mpr ⟨cxo218, fun _ h => (by cases h)⟩⟩⟩)) nw_class (fun h => by cases h) cxk219
end MG47cx09x5
section MG47cx09x6
/-! contracts -/
def cxt220 : con := (62, [(2, 145, 1), (0, 1, 1), (0, 3, 3)], [], [some (0, 0, 1)], [], 70, 5600, false)
theorem cxk220 : con_chk (kl bB cxF [cxt206, cxt208, cxt219]) PT bB 198 cxF cxJ cxjo cxP 2103 cxt220 = true := fq_chk1 (fq_jn_eq _) rfl (by decide +kernel)   -- X6_readLevel
theorem cxo220 : con_ok PT bB 198 cxF cxQ cxt220 := con_chk_ok (fun _ _ h => h) cxpp (kl_ok (List.forall_mem_cons.mpr ⟨cxo206, List.forall_mem_cons.mpr ⟨cxo208, List.forall_mem_cons.mpr ⟨cxo219, fun _ h => (by cases h)⟩⟩⟩)) nw_class (fun h => by cases h) cxk220
def cxt221 : con := (62, [(2, 145, 1), (0, 0, 0), (0, 3, 3)], [], [some (0, 0, 1)], [], 75, 6000, false)
theorem cxk221 : con_chk (kl bB cxF [cxt206, cxt208, cxt220]) PT bB 198 cxF cxJ cxjo cxP 466 cxt221 = true := fq_chk1 (fq_jn_eq _) rfl (by decide +kernel)   -- X6_readLevel
theorem cxo221 : con_ok PT bB 198 cxF cxQ cxt221 := con_chk_ok (fun _ _ h => h) cxpp (kl_ok (List.forall_mem_cons.mpr ⟨cxo206, List.forall_mem_cons.mpr ⟨cxo208, List.forall_mem_cons.mpr ⟨cxo220, fun _ h => (by cases h)⟩⟩⟩)) nw_class (fun h => by cases h) cxk221
def cxt222 : con := (65, [(2, 145, 1), (0, 2, 2)], [], [some (0, 0, 1)], [], 80, 6400, false)
theorem cxk222 : con_chk (kl bB cxF [cxt43, cxt206, cxt208, cxt209, cxt221]) PT bB 198 cxF cxJ cxjo cxP 475 cxt222 = true := fq_chk1 (fq_jn_eq _) rfl (by decide +kernel)   -- X6_readThing
theorem cxo222 : con_ok PT bB 198 cxF cxQ cxt222 := con_chk_ok (fun _ _ h => h) cxpp (kl_ok (List.forall_mem_cons.mpr ⟨cxo43, List.forall_mem_cons.mpr ⟨cxo206, List.forall_mem_cons.mpr ⟨cxo208, List.forall_mem_cons.mpr ⟨cxo209, List.forall_mem_cons.mpr ⟨cxo221, fun _ h => (by cases h)⟩⟩⟩⟩⟩)) nw_class (fun h => by cases h) cxk222
def cxt223 : con := (64, [(2, 145, 1), (0, 2, 2)], [], [some (0, 0, 1)], [], 85, 6800, false)
theorem cxk223 : con_chk (kl bB cxF [cxt206, cxt208, cxt222]) PT bB 198 cxF cxJ cxjo cxP 1202 cxt223 = true := fq_chk1 (fq_jn_eq _) rfl (by decide +kernel)   -- X6_readSigned
theorem cxo223 : con_ok PT bB 198 cxF cxQ cxt223 := con_chk_ok (fun _ _ h => h) cxpp (kl_ok (List.forall_mem_cons.mpr ⟨cxo206, List.forall_mem_cons.mpr ⟨cxo208, List.forall_mem_cons.mpr ⟨cxo222, fun _ h => (by cases h)⟩⟩⟩)) nw_class (fun h => by cases h) cxk223
def cxt224 : con := (62, [(2, 145, 1), (0, 3, 3), (0, 2, 2)], [], [some (0, 0, 1)], [], 90, 7200, false)
theorem cxk224 : con_chk (kl bB cxF [cxt223]) PT bB 198 cxF cxJ cxjo cxP 407 cxt224 = true := fq_chk1 (fq_jn_eq _) rfl (by decide +kernel)   -- X6_readLevel
theorem cxo224 : con_ok PT bB 198 cxF cxQ cxt224 := con_chk_ok (fun _ _ h => h) cxpp (kl_ok (List.forall_mem_cons.mpr ⟨cxo223, fun _ h => (by cases h)⟩)) nw_class (fun h => by cases h) cxk224
def cxt225 : con := (62, [(2, 145, 1), (0, 2, 2), (0, 2, 2)], [], [some (0, 0, 1)], [], 95, 7600, false)
theorem cxk225 : con_chk (kl bB cxF [cxt206, cxt208, cxt224]) PT bB 198 cxF cxJ cxjo cxP 2103 cxt225 = true := fq_chk1 (fq_jn_eq _) rfl (by decide +kernel)   -- X6_readLevel
theorem cxo225 : con_ok PT bB 198 cxF cxQ cxt225 := con_chk_ok (fun _ _ h => h) cxpp (kl_ok (List.forall_mem_cons.mpr ⟨cxo206, List.forall_mem_cons.mpr ⟨cxo208, List.forall_mem_cons.mpr ⟨cxo224, fun _ h => (by cases h)⟩⟩⟩)) nw_class (fun h => by cases h) cxk225
def cxt226 : con := (62, [(2, 145, 1), (0, 1, 1), (0, 2, 2)], [], [some (0, 0, 1)], [], 100, 8000, false)
theorem cxk226 : con_chk (kl bB cxF [cxt206, cxt208, cxt225]) PT bB 198 cxF cxJ cxjo cxP 2103 cxt226 = true := fq_chk1 (fq_jn_eq _) rfl (by decide +kernel)   -- X6_readLevel
theorem cxo226 : con_ok PT bB 198 cxF cxQ cxt226 := con_chk_ok (fun _ _ h => h) cxpp (kl_ok (List.forall_mem_cons.mpr ⟨cxo206, List.forall_mem_cons.mpr ⟨cxo208, List.forall_mem_cons.mpr ⟨cxo225, fun _ h => (by cases h)⟩⟩⟩)) nw_class (fun h => by cases h) cxk226
def cxt227 : con := (62, [(2, 145, 1), (0, 0, 0), (0, 2, 2)], [], [some (0, 0, 1)], [], 105, 8400, false)
theorem cxk227 : con_chk (kl bB cxF [cxt206, cxt208, cxt226]) PT bB 198 cxF cxJ cxjo cxP 466 cxt227 = true := fq_chk1 (fq_jn_eq _) rfl (by decide +kernel)   -- X6_readLevel
theorem cxo227 : con_ok PT bB 198 cxF cxQ cxt227 := con_chk_ok (fun _ _ h => h) cxpp (kl_ok (List.forall_mem_cons.mpr ⟨cxo206, List.forall_mem_cons.mpr ⟨cxo208, List.forall_mem_cons.mpr ⟨cxo226, fun _ h => (by cases h)⟩⟩⟩)) nw_class (fun h => by cases h) cxk227
def cxt228 : con := (65, [(2, 145, 1), (0, 1, 1)], [], [some (0, 0, 1)], [], 110, 8800, false)
theorem cxk228 : con_chk (kl bB cxF [cxt43, cxt206, cxt208, cxt209, cxt227]) PT bB 198 cxF cxJ cxjo cxP 475 cxt228 = true := fq_chk1 (fq_jn_eq _) rfl (by decide +kernel)   -- X6_readThing
theorem cxo228 : con_ok PT bB 198 cxF cxQ cxt228 := con_chk_ok (fun _ _ h => h) cxpp (kl_ok (List.forall_mem_cons.mpr ⟨cxo43, List.forall_mem_cons.mpr ⟨cxo206, List.forall_mem_cons.mpr ⟨cxo208, List.forall_mem_cons.mpr ⟨cxo209, List.forall_mem_cons.mpr ⟨cxo227, fun _ h => (by cases h)⟩⟩⟩⟩⟩)) nw_class (fun h => by cases h) cxk228
end MG47cx09x6
section MG47cx09x7
/-! contracts -/
def cxt229 : con := (64, [(2, 145, 1), (0, 1, 1)], [], [some (0, 0, 1)], [], 115, 9200, false)
theorem cxk229 : con_chk (kl bB cxF [cxt206, cxt208, cxt228]) PT bB 198 cxF cxJ cxjo cxP 1202 cxt229 = true := fq_chk1 (fq_jn_eq _) rfl (by decide +kernel)   -- X6_readSigned
theorem cxo229 : con_ok PT bB 198 cxF cxQ cxt229 := con_chk_ok (fun _ _ h => h) cxpp (kl_ok (List.forall_mem_cons.mpr ⟨cxo206, List.forall_mem_cons.mpr ⟨cxo208, List.forall_mem_cons.mpr ⟨cxo228, fun _ h => (by cases h)⟩⟩⟩)) nw_class (fun h => by cases h) cxk229
def cxt230 : con := (62, [(2, 145, 1), (0, 3, 3), (0, 1, 1)], [], [some (0, 0, 1)], [], 120, 9600, false)
theorem cxk230 : con_chk (kl bB cxF [cxt229]) PT bB 198 cxF cxJ cxjo cxP 407 cxt230 = true := fq_chk1 (fq_jn_eq _) rfl (by decide +kernel)   -- X6_readLevel
theorem cxo230 : con_ok PT bB 198 cxF cxQ cxt230 := con_chk_ok (fun _ _ h => h) cxpp (kl_ok (List.forall_mem_cons.mpr ⟨cxo229, fun _ h => (by cases h)⟩)) nw_class (fun h => by cases h) cxk230
def cxt231 : con := (62, [(2, 145, 1), (0, 2, 2), (0, 1, 1)], [], [some (0, 0, 1)], [], 125, 10000, false)
theorem cxk231 : con_chk (kl bB cxF [cxt206, cxt208, cxt230]) PT bB 198 cxF cxJ cxjo cxP 2103 cxt231 = true := fq_chk1 (fq_jn_eq _) rfl (by decide +kernel)   -- X6_readLevel
theorem cxo231 : con_ok PT bB 198 cxF cxQ cxt231 := con_chk_ok (fun _ _ h => h) cxpp (kl_ok (List.forall_mem_cons.mpr ⟨cxo206, List.forall_mem_cons.mpr ⟨cxo208, List.forall_mem_cons.mpr ⟨cxo230, fun _ h => (by cases h)⟩⟩⟩)) nw_class (fun h => by cases h) cxk231
def cxt232 : con := (62, [(2, 145, 1), (0, 1, 1), (0, 1, 1)], [], [some (0, 0, 1)], [], 130, 10400, false)
theorem cxk232 : con_chk (kl bB cxF [cxt206, cxt208, cxt231]) PT bB 198 cxF cxJ cxjo cxP 2103 cxt232 = true := fq_chk1 (fq_jn_eq _) rfl (by decide +kernel)   -- X6_readLevel
theorem cxo232 : con_ok PT bB 198 cxF cxQ cxt232 := con_chk_ok (fun _ _ h => h) cxpp (kl_ok (List.forall_mem_cons.mpr ⟨cxo206, List.forall_mem_cons.mpr ⟨cxo208, List.forall_mem_cons.mpr ⟨cxo231, fun _ h => (by cases h)⟩⟩⟩)) nw_class (fun h => by cases h) cxk232
def cxt233 : con := (62, [(2, 145, 1), (0, 0, 0), (0, 1, 1)], [], [some (0, 0, 1)], [], 135, 10800, false)
theorem cxk233 : con_chk (kl bB cxF [cxt206, cxt208, cxt232]) PT bB 198 cxF cxJ cxjo cxP 466 cxt233 = true := fq_chk1 (fq_jn_eq _) rfl (by decide +kernel)   -- X6_readLevel
theorem cxo233 : con_ok PT bB 198 cxF cxQ cxt233 := con_chk_ok (fun _ _ h => h) cxpp (kl_ok (List.forall_mem_cons.mpr ⟨cxo206, List.forall_mem_cons.mpr ⟨cxo208, List.forall_mem_cons.mpr ⟨cxo232, fun _ h => (by cases h)⟩⟩⟩)) nw_class (fun h => by cases h) cxk233
def cxt234 : con := (65, [(2, 145, 1), (0, 0, 0)], [], [some (0, 0, 1)], [], 140, 11200, false)
theorem cxk234 : con_chk (kl bB cxF [cxt43, cxt206, cxt208, cxt209, cxt233]) PT bB 198 cxF cxJ cxjo cxP 475 cxt234 = true := fq_chk1 (fq_jn_eq _) rfl (by decide +kernel)   -- X6_readThing
theorem cxo234 : con_ok PT bB 198 cxF cxQ cxt234 := con_chk_ok (fun _ _ h => h) cxpp (kl_ok (List.forall_mem_cons.mpr ⟨cxo43, List.forall_mem_cons.mpr ⟨cxo206, List.forall_mem_cons.mpr ⟨cxo208, List.forall_mem_cons.mpr ⟨cxo209, List.forall_mem_cons.mpr ⟨cxo233, fun _ h => (by cases h)⟩⟩⟩⟩⟩)) nw_class (fun h => by cases h) cxk234
def cxt235 : con := (64, [(2, 145, 1), (0, 0, 0)], [], [some (0, 0, 1)], [], 145, 11600, false)
theorem cxk235 : con_chk (kl bB cxF [cxt206, cxt208, cxt234]) PT bB 198 cxF cxJ cxjo cxP 1202 cxt235 = true := fq_chk1 (fq_jn_eq _) rfl (by decide +kernel)   -- X6_readSigned
theorem cxo235 : con_ok PT bB 198 cxF cxQ cxt235 := con_chk_ok (fun _ _ h => h) cxpp (kl_ok (List.forall_mem_cons.mpr ⟨cxo206, List.forall_mem_cons.mpr ⟨cxo208, List.forall_mem_cons.mpr ⟨cxo234, fun _ h => (by cases h)⟩⟩⟩)) nw_class (fun h => by cases h) cxk235
def cxt236 : con := (62, [(2, 145, 1), (0, 3, 3), (0, 0, 0)], [], [some (0, 0, 1)], [], 150, 12000, false)
theorem cxk236 : con_chk (kl bB cxF [cxt235]) PT bB 198 cxF cxJ cxjo cxP 407 cxt236 = true := fq_chk1 (fq_jn_eq _) rfl (by decide +kernel)   -- X6_readLevel
theorem cxo236 : con_ok PT bB 198 cxF cxQ cxt236 := con_chk_ok (fun _ _ h => h) cxpp (kl_ok (List.forall_mem_cons.mpr ⟨cxo235, fun _ h => (by cases h)⟩)) nw_class (fun h => by cases h) cxk236
def cxt237 : con := (62, [(2, 145, 1), (0, 2, 2), (0, 0, 0)], [], [some (0, 0, 1)], [], 155, 12400, false)
theorem cxk237 : con_chk (kl bB cxF [cxt206, cxt208, cxt236]) PT bB 198 cxF cxJ cxjo cxP 2103 cxt237 = true := fq_chk1 (fq_jn_eq _) rfl (by decide +kernel)   -- X6_readLevel
theorem cxo237 : con_ok PT bB 198 cxF cxQ cxt237 := con_chk_ok (fun _ _ h => h) cxpp (kl_ok (List.forall_mem_cons.mpr ⟨cxo206, List.forall_mem_cons.mpr ⟨cxo208, List.forall_mem_cons.mpr ⟨cxo236, fun _ h => (by cases h)⟩⟩⟩)) nw_class (fun h => by cases h) cxk237
end MG47cx09x7
