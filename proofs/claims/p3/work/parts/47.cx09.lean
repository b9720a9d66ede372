section MH47cx09x0
section MG47cx09x0
/-! contracts -/
def cxt147 : con := (35, [(2, 5, 1)], [], [some (0, 0, 15)], [], 5, 400, true)
theorem cxk147 : con_chk (kl bB cxF []) PT bB 198 cxF cxJ cxjo cxP 794 cxt147 = true := fq_chk1 (fq_jn_eq _) rfl (by decide +kernel)   -- X3_roadsThere
theorem cxo147 : con_ok PT bB 198 cxF cxQ cxt147 := con_chk_ok (fun _ _ h => h) cxpp (kl_ok (fun _ h => (by cases h))) nw_class (fun _ => by decide) cxk147
def cxt148 : con := (36, [(2, 5, 1), (2, 13, 1)], [], [some (0, (-2147483648), 2147483647)], [], 5, 400, true)
theorem cxk148 : con_chk (kl bB cxF []) PT bB 198 cxF cxJ cxjo cxP 488 cxt148 = true := fq_chk1 (fq_jn_eq _) rfl (by decide +kernel)   -- X3_allGrain
theorem cxo148 : con_ok PT bB 198 cxF cxQ cxt148 := con_chk_ok (fun _ _ h => h) cxpp (kl_ok (fun _ h => (by cases h))) nw_class (fun _ => by decide) cxk148
def cxt149 : con := (37, [(2, 5, 1), (2, 19, 1), (0, 0, 5)], [], [some (0, 0, 127)], [], 5, 400, true)
theorem cxk149 : con_chk (kl bB cxF []) PT bB 198 cxF cxJ cxjo cxP 644 cxt149 = true := fq_chk1 (fq_jn_eq _) rfl (by decide +kernel)   -- X3_esteemFor
theorem cxo149 : con_ok PT bB 198 cxF cxQ cxt149 := con_chk_ok (fun _ _ h => h) cxpp (kl_ok (fun _ h => (by cases h))) nw_class (fun _ => by decide) cxk149
def cxt150 : con := (38, [(2, 5, 1), (2, 19, 1)], [], [some (0, 0, 999)], [], 10, 800, true)
theorem cxk150 : con_chk (kl bB cxF [cxt149]) PT bB 198 cxF cxJ cxjo cxP 488 cxt150 = true := fq_chk1 (fq_jn_eq _) rfl (by decide +kernel)   -- X3_allEsteem
theorem cxo150 : con_ok PT bB 198 cxF cxQ cxt150 := con_chk_ok (fun _ _ h => h) cxpp (kl_ok (List.forall_mem_cons.mpr ⟨cxo149, fun _ h => (by cases h)⟩)) nw_class (fun _ => by decide) cxk150
def cxt151 : con := (41, [(2, 5, 1), (2, 19, 1), (0, 0, 7)], [], [some (0, 0, 1)], [], 5, 400, true)
theorem cxk151 : con_chk (kl bB cxF []) PT bB 198 cxF cxJ cxjo cxP 431 cxt151 = true := fq_chk1 (fq_jn_eq _) rfl (by decide +kernel)   -- X3_isEater
theorem cxo151 : con_ok PT bB 198 cxF cxQ cxt151 := con_chk_ok (fun _ _ h => h) cxpp (kl_ok (fun _ h => (by cases h))) nw_class (fun _ => by decide) cxk151
def cxt152 : con := (43, [(2, 5, 1), (2, 19, 1), (0, 0, 5)], [], [none], [], 10, 800, false)
theorem cxk152 : con_chk (kl bB cxF [cxt151]) PT bB 198 cxF cxJ cxjo cxP 754 cxt152 = true := fq_chk1 (fq_jn_eq _) rfl (by decide +kernel)   -- X3_passMonthAt
theorem cxo152 : con_ok PT bB 198 cxF cxQ cxt152 := con_chk_ok (fun _ _ h => h) cxpp (kl_ok (List.forall_mem_cons.mpr ⟨cxo151, fun _ h => (by cases h)⟩)) nw_class (fun h => by cases h) cxk152
def cxt153 : con := (42, [(2, 5, 1), (2, 19, 1)], [], [none], [], 15, 1200, false)
theorem cxk153 : con_chk (kl bB cxF [cxt152]) PT bB 198 cxF cxJ cxjo cxP 473 cxt153 = true := fq_chk1 (fq_jn_eq _) rfl (by decide +kernel)   -- X3_passMonth
theorem cxo153 : con_ok PT bB 198 cxF cxQ cxt153 := con_chk_ok (fun _ _ h => h) cxpp (kl_ok (List.forall_mem_cons.mpr ⟨cxo152, fun _ h => (by cases h)⟩)) nw_class (fun h => by cases h) cxk153
def cxt154 : con := (44, [(2, 5, 1), (2, 19, 1), (0, 0, 5)], [], [some (0, 1, 100)], [], 15, 1200, false)
theorem cxk154 : con_chk (kl bB cxF [cxt152]) PT bB 198 cxF cxJ cxjo cxP 1895 cxt154 = true := fq_chk1 (fq_jn_eq _) rfl (by decide +kernel)   -- X3_firstDeath
theorem cxo154 : con_ok PT bB 198 cxF cxQ cxt154 := con_chk_ok (fun _ _ h => h) cxpp (kl_ok (List.forall_mem_cons.mpr ⟨cxo152, fun _ h => (by cases h)⟩)) nw_class (fun h => by cases h) cxk154
def cxt155 : con := (47, [(2, 148, 1), (0, 0, 5)], [], [none], [], 5, 400, false)
theorem cxk155 : con_chk (kl bB cxF []) PT bB 198 cxF cxJ cxjo cxP 648 cxt155 = true := fq_chk1 (fq_jn_eq _) rfl (by decide +kernel)   -- X4_shorten
theorem cxo155 : con_ok PT bB 198 cxF cxQ cxt155 := con_chk_ok (fun _ _ h => h) cxpp (kl_ok (fun _ h => (by cases h))) nw_class (fun h => by cases h) cxk155
def cxt156 : con := (46, [(2, 148, 1), (0, 0, 5), (0, 0, 5)], [], [some (0, (-1), 1000)], [], 10, 800, false)
theorem cxk156 : con_chk (kl bB cxF [cxt155]) PT bB 198 cxF cxJ cxjo cxP 989 cxt156 = true := fq_chk1 (fq_jn_eq _) rfl (by decide +kernel)   -- X4_fewestMonths
theorem cxo156 : con_ok PT bB 198 cxF cxQ cxt156 := con_chk_ok (fun _ _ h => h) cxpp (kl_ok (List.forall_mem_cons.mpr ⟨cxo155, fun _ h => (by cases h)⟩)) nw_class (fun h => by cases h) cxk156
def cxt157 : con := (49, [(2, 148, 1), (0, 0, 5)], [], [some (0, 0, 5)], [], 5, 400, true)
theorem cxk157 : con_chk (kl bB cxF []) PT bB 198 cxF cxJ cxjo cxP 637 cxt157 = true := fq_chk1 (fq_jn_eq _) rfl (by decide +kernel)   -- X4_firstNext
theorem cxo157 : con_ok PT bB 198 cxF cxQ cxt157 := con_chk_ok (fun _ _ h => h) cxpp (kl_ok (fun _ h => (by cases h))) nw_class (fun _ => by decide) cxk157
def cxt158 : con := (48, [(2, 148, 1), (0, 0, 5), (2, 3, 1)], [], [none], [], 10, 800, false)
theorem cxk158 : con_chk (kl bB cxF [cxt96, cxt157]) PT bB 198 cxF cxJ cxjo cxP 526 cxt158 = true := fq_chk1 (fq_jn_eq _) rfl (by decide +kernel)   -- X4_tellWay
theorem cxo158 : con_ok PT bB 198 cxF cxQ cxt158 := con_chk_ok (fun _ _ h => h) cxpp (kl_ok (List.forall_mem_cons.mpr ⟨cxo96, List.forall_mem_cons.mpr ⟨cxo157, fun _ h => (by cases h)⟩⟩)) nw_class (fun h => by cases h) cxk158
def cxt159 : con := (51, [(2, 148, 1), (0, 91, 91), (0, 0, 5), (0, (-2147483648), 2147483647), (0, (-2147483648), 2147483647)], [], [none], [], 5, 400, false)
theorem cxk159 : con_chk (kl bB cxF []) PT bB 198 cxF cxJ cxjo cxP 1016 cxt159 = true := fq_chk1 (fq_jn_eq _) rfl (by decide +kernel)   -- X4_goOn
theorem cxo159 : con_ok PT bB 198 cxF cxQ cxt159 := con_chk_ok (fun _ _ h => h) cxpp (kl_ok (fun _ h => (by cases h))) nw_class (fun h => by cases h) cxk159
def cxt160 : con := (51, [(2, 148, 1), (0, 92, 92), (0, 0, 5), (0, (-2147483648), 2147483647), (0, (-2147483648), 2147483647)], [], [none], [], 5, 400, false)
theorem cxk160 : con_chk (kl bB cxF []) PT bB 198 cxF cxJ cxjo cxP 1016 cxt160 = true := fq_chk1 (fq_jn_eq _) rfl (by decide +kernel)   -- X4_goOn
theorem cxo160 : con_ok PT bB 198 cxF cxQ cxt160 := con_chk_ok (fun _ _ h => h) cxpp (kl_ok (fun _ h => (by cases h))) nw_class (fun h => by cases h) cxk160
def cxt161 : con := (51, [(2, 148, 1), (0, 93, 93), (0, 0, 5), (0, (-2147483648), 2147483647), (0, (-2147483648), 2147483647)], [], [none], [], 5, 400, false)
theorem cxk161 : con_chk (kl bB cxF []) PT bB 198 cxF cxJ cxjo cxP 1016 cxt161 = true := fq_chk1 (fq_jn_eq _) rfl (by decide +kernel)   -- X4_goOn
theorem cxo161 : con_ok PT bB 198 cxF cxQ cxt161 := con_chk_ok (fun _ _ h => h) cxpp (kl_ok (fun _ h => (by cases h))) nw_class (fun h => by cases h) cxk161
def cxt162 : con := (51, [(2, 148, 1), (0, 94, 94), (0, 0, 5), (0, (-2147483648), 2147483647), (0, (-2147483648), 2147483647)], [], [none], [], 5, 400, false)
theorem cxk162 : con_chk (kl bB cxF []) PT bB 198 cxF cxJ cxjo cxP 1016 cxt162 = true := fq_chk1 (fq_jn_eq _) rfl (by decide +kernel)   -- X4_goOn
theorem cxo162 : con_ok PT bB 198 cxF cxQ cxt162 := con_chk_ok (fun _ _ h => h) cxpp (kl_ok (fun _ h => (by cases h))) nw_class (fun h => by cases h) cxk162
end MG47cx09x0
section MG47cx09x1
/-! contracts -/
def cxt163 : con := (51, [(2, 148, 1), (0, 95, 95), (0, 0, 5), (0, (-2147483648), 2147483647), (0, (-2147483648), 2147483647)], [], [none], [], 5, 400, false)
theorem cxk163 : con_chk (kl bB cxF []) PT bB 198 cxF cxJ cxjo cxP 1016 cxt163 = true := fq_chk1 (fq_jn_eq _) rfl (by decide +kernel)   -- X4_goOn
theorem cxo163 : con_ok PT bB 198 cxF cxQ cxt163 := con_chk_ok (fun _ _ h => h) cxpp (kl_ok (fun _ h => (by cases h))) nw_class (fun h => by cases h) cxk163
def cxt164 : con := (51, [(2, 148, 1), (0, 96, 96), (0, 0, 5), (0, (-2147483648), 2147483647), (0, (-2147483648), 2147483647)], [], [none], [], 5, 400, false)
theorem cxk164 : con_chk (kl bB cxF []) PT bB 198 cxF cxJ cxjo cxP 1016 cxt164 = true := fq_chk1 (fq_jn_eq _) rfl (by decide +kernel)   -- X4_goOn
theorem cxo164 : con_ok PT bB 198 cxF cxQ cxt164 := con_chk_ok (fun _ _ h => h) cxpp (kl_ok (fun _ h => (by cases h))) nw_class (fun h => by cases h) cxk164
def cxt165 : con := (51, [(2, 148, 1), (0, 97, 97), (0, 0, 5), (0, (-2147483648), 2147483647), (0, (-2147483648), 2147483647)], [], [none], [], 5, 400, false)
theorem cxk165 : con_chk (kl bB cxF []) PT bB 198 cxF cxJ cxjo cxP 1016 cxt165 = true := fq_chk1 (fq_jn_eq _) rfl (by decide +kernel)   -- X4_goOn
theorem cxo165 : con_ok PT bB 198 cxF cxQ cxt165 := con_chk_ok (fun _ _ h => h) cxpp (kl_ok (fun _ h => (by cases h))) nw_class (fun h => by cases h) cxk165
def cxt166 : con := (51, [(2, 148, 1), (0, 98, 98), (0, 0, 5), (0, (-2147483648), 2147483647), (0, (-2147483648), 2147483647)], [], [none], [], 5, 400, false)
theorem cxk166 : con_chk (kl bB cxF []) PT bB 198 cxF cxJ cxjo cxP 1016 cxt166 = true := fq_chk1 (fq_jn_eq _) rfl (by decide +kernel)   -- X4_goOn
theorem cxo166 : con_ok PT bB 198 cxF cxQ cxt166 := con_chk_ok (fun _ _ h => h) cxpp (kl_ok (fun _ h => (by cases h))) nw_class (fun h => by cases h) cxk166
def cxt167 : con := (51, [(2, 148, 1), (0, 99, 99), (0, 0, 5), (0, (-2147483648), 2147483647), (0, (-2147483648), 2147483647)], [], [none], [], 5, 400, false)
theorem cxk167 : con_chk (kl bB cxF []) PT bB 198 cxF cxJ cxjo cxP 842 cxt167 = true := fq_chk1 (fq_jn_eq _) rfl (by decide +kernel)   -- X4_goOn
theorem cxo167 : con_ok PT bB 198 cxF cxQ cxt167 := con_chk_ok (fun _ _ h => h) cxpp (kl_ok (fun _ h => (by cases h))) nw_class (fun h => by cases h) cxk167
def cxt168 : con := (51, [(2, 148, 1), (0, 0, 90), (0, 0, 5), (0, (-2147483648), 2147483647), (0, (-2147483648), 2147483647)], [], [none], [], 5, 400, false)
theorem cxk168 : con_chk (kl bB cxF []) PT bB 198 cxF cxJ cxjo cxP 1016 cxt168 = true := fq_chk1 (fq_jn_eq _) rfl (by decide +kernel)   -- X4_goOn
theorem cxo168 : con_ok PT bB 198 cxF cxQ cxt168 := con_chk_ok (fun _ _ h => h) cxpp (kl_ok (fun _ h => (by cases h))) nw_class (fun h => by cases h) cxk168
def cxt170 : con := (55, [(2, 3, 1), (1, 0, 2147483647)], [], [none], [], 10, 800, false)
theorem cxk170 : con_chk (kl bB cxF [cxt96]) PT bB 198 cxF cxJ cxjo cxP 410 cxt170 = true := fq_chk1 (fq_jn_eq _) rfl (by decide +kernel)   -- X5_tellOne
theorem cxo170 : con_ok PT bB 198 cxF cxQ cxt170 := con_chk_ok (fun _ _ h => h) cxpp (kl_ok (List.forall_mem_cons.mpr ⟨cxo96, fun _ h => (by cases h)⟩)) nw_class (fun h => by cases h) cxk170
def cxt171 : con := (60, [(2, 142, 1), (0, (-2147483648), 999)], [], [none], [], 5, 400, false)
theorem cxk171 : con_chk (kl bB cxF []) PT bB 198 cxF cxJ cxjo cxP 421 cxt171 = true := fq_chk1 (fq_jn_eq _) rfl (by decide +kernel)   -- X6_emit
theorem cxo171 : con_ok PT bB 198 cxF cxQ cxt171 := con_chk_ok (fun _ _ h => h) cxpp (kl_ok (fun _ h => (by cases h))) nw_class (fun h => by cases h) cxk171
def cxt172 : con := (59, [(2, 142, 1)], [], [none], [], 10, 800, false)
theorem cxk172 : con_chk (kl bB cxF [cxt171]) PT bB 198 cxF cxJ cxjo cxP 419 cxt172 = true := fq_chk1 (fq_jn_eq _) rfl (by decide +kernel)   -- X6_beFirstRule
theorem cxo172 : con_ok PT bB 198 cxF cxQ cxt172 := con_chk_ok (fun _ _ h => h) cxpp (kl_ok (List.forall_mem_cons.mpr ⟨cxo171, fun _ h => (by cases h)⟩)) nw_class (fun h => by cases h) cxk172
def cxt173 : con := (61, [(2, 142, 1)], [], [some (0, (-1), 65535)], [], 10, 800, true)
theorem cxk173 : con_chk (kl bB cxF [cxt33]) PT bB 198 cxF cxJ cxjo cxP 407 cxt173 = true := fq_chk1 (fq_jn_eq _) rfl (by decide +kernel)   -- X6_nextSign
theorem cxo173 : con_ok PT bB 198 cxF cxQ cxt173 := con_chk_ok (fun _ _ h => h) cxpp (kl_ok (List.forall_mem_cons.mpr ⟨cxo33, fun _ h => (by cases h)⟩)) nw_class (fun _ => by decide) cxk173
def cxt174 : con := (66, [(2, 142, 1)], [], [none], [], 15, 1200, false)
theorem cxk174 : con_chk (kl bB cxF [cxt34, cxt171]) PT bB 198 cxF cxJ cxjo cxP 502 cxt174 = true := fq_chk1 (fq_jn_eq _) rfl (by decide +kernel)   -- X6_readNumber
theorem cxo174 : con_ok PT bB 198 cxF cxQ cxt174 := con_chk_ok (fun _ _ h => h) cxpp (kl_ok (List.forall_mem_cons.mpr ⟨cxo34, List.forall_mem_cons.mpr ⟨cxo171, fun _ h => (by cases h)⟩⟩)) nw_class (fun h => by cases h) cxk174
def cxt175 : con := (65, [(2, 142, 1), (0, 4, 4)], [], [some (0, 0, 1)], [], 20, 1600, false)
theorem cxk175 : con_chk (kl bB cxF [cxt43, cxt171, cxt173, cxt174]) PT bB 198 cxF cxJ cxjo cxP 448 cxt175 = true := fq_chk1 (fq_jn_eq _) rfl (by decide +kernel)   -- X6_readThing
theorem cxo175 : con_ok PT bB 198 cxF cxQ cxt175 := con_chk_ok (fun _ _ h => h) cxpp (kl_ok (List.forall_mem_cons.mpr ⟨cxo43, List.forall_mem_cons.mpr ⟨cxo171, List.forall_mem_cons.mpr ⟨cxo173, List.forall_mem_cons.mpr ⟨cxo174, fun _ h => (by cases h)⟩⟩⟩⟩)) nw_class (fun h => by cases h) cxk175
def cxt176 : con := (64, [(2, 142, 1), (0, 4, 4)], [], [some (0, 0, 1)], [], 25, 2000, false)
theorem cxk176 : con_chk (kl bB cxF [cxt171, cxt173, cxt175]) PT bB 198 cxF cxJ cxjo cxP 1202 cxt176 = true := fq_chk1 (fq_jn_eq _) rfl (by decide +kernel)   -- X6_readSigned
theorem cxo176 : con_ok PT bB 198 cxF cxQ cxt176 := con_chk_ok (fun _ _ h => h) cxpp (kl_ok (List.forall_mem_cons.mpr ⟨cxo171, List.forall_mem_cons.mpr ⟨cxo173, List.forall_mem_cons.mpr ⟨cxo175, fun _ h => (by cases h)⟩⟩⟩)) nw_class (fun h => by cases h) cxk176
def cxt177 : con := (62, [(2, 142, 1), (0, 3, 3), (0, 4, 4)], [], [some (0, 0, 1)], [], 30, 2400, false)
theorem cxk177 : con_chk (kl bB cxF [cxt176]) PT bB 198 cxF cxJ cxjo cxP 407 cxt177 = true := fq_chk1 (fq_jn_eq _) rfl (by decide +kernel)   -- X6_readLevel
theorem cxo177 : con_ok PT bB 198 cxF cxQ cxt177 := con_chk_ok (fun _ _ h => h) cxpp (kl_ok (List.forall_mem_cons.mpr ⟨cxo176, fun _ h => (by cases h)⟩)) nw_class (fun h => by cases h) cxk177
def cxt178 : con := (62, [(2, 142, 1), (0, 2, 2), (0, 4, 4)], [], [some (0, 0, 1)], [], 35, 2800, false)
theorem cxk178 : con_chk (kl bB cxF [cxt171, cxt173, cxt177]) PT bB 198 cxF cxJ cxjo cxP 2103 cxt178 = true := fq_chk1 (fq_jn_eq _) rfl (by decide +kernel)   -- X6_readLevel
theorem cxo178 : con_ok PT bB 198 cxF cxQ cxt178 := con_chk_ok (fun _ _ h => h) cxpp (kl_ok (List.forall_mem_cons.mpr ⟨cxo171, List.forall_mem_cons.mpr ⟨cxo173, List.forall_mem_cons.mpr ⟨cxo177, fun _ h => (by cases h)⟩⟩⟩)) nw_class (fun h => by cases h) cxk178
end MG47cx09x1
section MG47cx09x2
/-! contracts -/
def cxt179 : con := (62, [(2, 142, 1), (0, 1, 1), (0, 4, 4)], [], [some (0, 0, 1)], [], 40, 3200, false)
theorem cxk179 : con_chk (kl bB cxF [cxt171, cxt173, cxt178]) PT bB 198 cxF cxJ cxjo cxP 2103 cxt179 = true := fq_chk1 (fq_jn_eq _) rfl (by decide +kernel)   -- X6_readLevel
theorem cxo179 : con_ok PT bB 198 cxF cxQ cxt179 := con_chk_ok (fun _ _ h => h) cxpp (kl_ok (List.forall_mem_cons.mpr ⟨cxo171, List.forall_mem_cons.mpr ⟨cxo173, List.forall_mem_cons.mpr ⟨cxo178, fun _ h => (by cases h)⟩⟩⟩)) nw_class (fun h => by cases h) cxk179
def cxt180 : con := (62, [(2, 142, 1), (0, 0, 0), (0, 4, 4)], [], [some (0, 0, 1)], [], 45, 3600, false)
theorem cxk180 : con_chk (kl bB cxF [cxt171, cxt173, cxt179]) PT bB 198 cxF cxJ cxjo cxP 466 cxt180 = true := fq_chk1 (fq_jn_eq _) rfl (by decide +kernel)   -- X6_readLevel
theorem cxo180 : con_ok PT bB 198 cxF cxQ cxt180 := con_chk_ok (fun _ _ h => h) cxpp (kl_ok (List.forall_mem_cons.mpr ⟨cxo171, List.forall_mem_cons.mpr ⟨cxo173, List.forall_mem_cons.mpr ⟨cxo179, fun _ h => (by cases h)⟩⟩⟩)) nw_class (fun h => by cases h) cxk180
def cxt181 : con := (65, [(2, 142, 1), (0, 3, 3)], [], [some (0, 0, 1)], [], 50, 4000, false)
theorem cxk181 : con_chk (kl bB cxF [cxt43, cxt171, cxt173, cxt174, cxt180]) PT bB 198 cxF cxJ cxjo cxP 475 cxt181 = true := fq_chk1 (fq_jn_eq _) rfl (by decide +kernel)   -- X6_readThing
theorem cxo181 : con_ok PT bB 198 cxF cxQ cxt181 := con_chk_ok (fun _ _ h => h) cxpp (kl_ok (List.forall_mem_cons.mpr ⟨cxo43, List.forall_mem_cons.mpr ⟨cxo171, List.forall_mem_cons.mpr ⟨cxo173, List.forall_mem_cons.mpr ⟨cxo174, List.forall_mem_cons.mpr ⟨cxo180, fun _ h => (by cases h)⟩⟩⟩⟩⟩)) nw_class (fun h => by cases h) cxk181
def cxt182 : con := (64, [(2, 142, 1), (0, 3, 3)], [], [some (0, 0, 1)], [], 55, 4400, false)
theorem cxk182 : con_chk (kl bB cxF [cxt171, cxt173, cxt181]) PT bB 198 cxF cxJ cxjo cxP 1202 cxt182 = true := fq_chk1 (fq_jn_eq _) rfl (by decide +kernel)   -- X6_readSigned
theorem cxo182 : con_ok PT bB 198 cxF cxQ cxt182 := con_chk_ok (fun _ _ h => h) cxpp (kl_ok (List.forall_mem_cons.mpr ⟨cxo171, List.forall_mem_cons.mpr ⟨cxo173, List.forall_mem_cons.mpr ⟨cxo181, fun _ h => (by cases h)⟩⟩⟩)) nw_class (fun h => by cases h) cxk182
def cxt183 : con := (62, [(2, 142, 1), (0, 3, 3), (0, 3, 3)], [], [some (0, 0, 1)], [], 60, 4800, false)
theorem cxk183 : con_chk (kl bB cxF [cxt182]) PT bB 198 cxF cxJ cxjo cxP 407 cxt183 = true := fq_chk1 (fq_jn_eq _) rfl (by decide +kernel)   -- X6_readLevel
theorem cxo183 : con_ok PT bB 198 cxF cxQ cxt183 := con_chk_ok (fun _ _ h => h) cxpp (kl_ok (List.forall_mem_cons.mpr ⟨cxo182, fun _ h => (by cases h)⟩)) nw_class (fun h => by cases h) cxk183
def cxt184 : con := (62, [(2, 142, 1), (0, 2, 2), (0, 3, 3)], [], [some (0, 0, 1)], [], 65, 5200, false)
theorem cxk184 : con_chk (kl bB cxF [cxt171, cxt173, cxt183]) PT bB 198 cxF cxJ cxjo cxP 2103 cxt184 = true := fq_chk1 (fq_jn_eq _) rfl (by decide +kernel)   -- X6_readLevel
theorem cxo184 : con_ok PT bB 198 cxF cxQ cxt184 := con_chk_ok (fun _ _ h => h) cxpp (kl_ok (List.forall_mem_cons.mpr ⟨cxo171, List.forall_mem_cons.mpr ⟨cxo173, List.forall_mem_cons.mpr ⟨cxo183, fun _ h => (by cases h)⟩⟩⟩)) nw_class (fun h => by cases h) cxk184
def cxt185 : con := (62, [(2, 142, 1), (0, 1, 1), (0, 3, 3)], [], [some (0, 0, 1)], [], 70, 5600, false)
theorem cxk185 : con_chk (kl bB cxF [cxt171, cxt173, cxt184]) PT bB 198 cxF cxJ cxjo cxP 2103 cxt185 = true := fq_chk1 (fq_jn_eq _) rfl (by decide +kernel)   -- X6_readLevel
theorem cxo185 : con_ok PT bB 198 cxF cxQ cxt185 := con_chk_ok (fun _ _ h => h) cxpp (kl_ok (List.forall_mem_cons.mpr ⟨cxo171, List.forall_mem_cons.mpr ⟨cxo173, List.forall_mem_cons.mpr ⟨cxo184, fun _ h => (by cases h)⟩⟩⟩)) nw_class (fun h => by cases h) cxk185
def cxt186 : con := (62, [(2, 142, 1), (0, 0, 0), (0, 3, 3)], [], [some (0, 0, 1)], [], 75, 6000, false)
theorem cxk186 : con_chk (kl bB cxF [cxt171, cxt173, cxt185]) PT bB 198 cxF cxJ cxjo cxP 466 cxt186 = true := fq_chk1 (fq_jn_eq _) rfl (by decide +kernel)   -- X6_readLevel
theorem cxo186 : con_ok PT bB 198 cxF cxQ cxt186 := con_chk_ok (fun _ _ h => h) cxpp (kl_ok (List.forall_mem_cons.mpr ⟨cxo171, List.forall_mem_cons.mpr ⟨cxo173, List.forall_mem_cons.mpr ⟨cxo185, fun _ h => (by cases h)⟩⟩⟩)) nw_class (fun h => by cases h) cxk186
def cxt187 : con := (65, [(2, 142, 1), (0, 2, 2)], [], [some (0, 0, 1)], [], 80, 6400, false)
theorem cxk187 : con_chk (kl bB cxF [cxt43, cxt171, cxt173, cxt174, cxt186]) PT bB 198 cxF cxJ cxjo cxP 475 cxt187 = true := fq_chk1 (fq_jn_eq _) rfl (by decide +kernel)   -- X6_readThing
theorem cxo187 : con_ok PT bB 198 cxF cxQ cxt187 := con_chk_ok (fun _ _ h => h) cxpp (kl_ok (List.forall_mem_cons.mpr ⟨cxo43, List.forall_mem_cons.mpr ⟨cxo171, List.forall_mem_cons.mpr ⟨cxo173, List.forall_mem_cons.mpr ⟨cxo174, List.forall_mem_cons.mpr ⟨cxo186, fun _ h => (by cases h)⟩⟩⟩⟩⟩)) nw_class (fun h => by cases h) cxk187
end MG47cx09x2
section MG47cx09x3
/-! contracts -/
def cxt188 : con := (64, [(2, 142, 1), (0, 2, 2)], [], [some (0, 0, 1)], [], 85, 6800, false)
theorem cxk188 : con_chk (kl bB cxF [cxt171, cxt173, cxt187]) PT bB 198 cxF cxJ cxjo cxP 1202 cxt188 = true := fq_chk1 (fq_jn_eq _) rfl (by decide +kernel)   -- X6_readSigned
theorem cxo188 : con_ok PT bB 198 cxF cxQ cxt188 := con_chk_ok (fun _ _ h => h) cxpp (kl_ok (List.forall_mem_cons.mpr ⟨cxo171, List.forall_mem_cons.mpr ⟨cxo173, List.forall_mem_cons.mpr ⟨cxo187, fun _ h => (by cases h)⟩⟩⟩)) nw_class (fun h => by cases h) cxk188
def cxt189 : con := (62, [(2, 142, 1), (0, 3, 3), (0, 2, 2)], [], [some (0, 0, 1)], [], 90, 7200, false)
theorem cxk189 : con_chk (kl bB cxF [cxt188]) PT bB 198 cxF cxJ cxjo cxP 407 cxt189 = true := fq_chk1 (fq_jn_eq _) rfl (by decide +kernel)   -- X6_readLevel
theorem cxo189 : con_ok PT bB 198 cxF cxQ cxt189 := con_chk_ok (fun _ _ h => h) cxpp (kl_ok (List.forall_mem_cons.mpr ⟨cxo188, fun _ h => (by cases h)⟩)) nw_class (fun h => by cases h) cxk189
def cxt190 : con := (62, [(2, 142, 1), (0, 2, 2), (0, 2, 2)], [], [some (0, 0, 1)], [], 95, 7600, false)
theorem cxk190 : con_chk (kl bB cxF [cxt171, cxt173, cxt189]) PT bB 198 cxF cxJ cxjo cxP 2103 cxt190 = true := fq_chk1 (fq_jn_eq _) rfl (by decide +kernel)   -- X6_readLevel
theorem cxo190 : con_ok PT bB 198 cxF cxQ cxt190 := con_chk_ok (fun _ _ h => h) cxpp (kl_ok (List.forall_mem_cons.mpr ⟨cxo171, List.forall_mem_cons.mpr ⟨cxo173, List.forall_mem_cons.mpr ⟨cxo189, fun _ h => (by cases h)⟩⟩⟩)) nw_class (fun h => by cases h) cxk190
def cxt191 : con := (62, [(2, 142, 1), (0, 1, 1), (0, 2, 2)], [], [some (0, 0, 1)], [], 100, 8000, false)
theorem cxk191 : con_chk (kl bB cxF [cxt171, cxt173, cxt190]) PT bB 198 cxF cxJ cxjo cxP 2103 cxt191 = true := fq_chk1 (fq_jn_eq _) rfl (by decide +kernel)   -- X6_readLevel
theorem cxo191 : con_ok PT bB 198 cxF cxQ cxt191 := con_chk_ok (fun _ _ h => h) cxpp (kl_ok (List.forall_mem_cons.mpr ⟨cxo171, List.forall_mem_cons.mpr ⟨cxo173, List.forall_mem_cons.mpr ⟨cxo190, fun _ h => (by cases h)⟩⟩⟩)) nw_class (fun h => by cases h) cxk191
def cxt192 : con := (62, [(2, 142, 1), (0, 0, 0), (0, 2, 2)], [], [some (0, 0, 1)], [], 105, 8400, false)
theorem cxk192 : con_chk (kl bB cxF [cxt171, cxt173, cxt191]) PT bB 198 cxF cxJ cxjo cxP 466 cxt192 = true := fq_chk1 (fq_jn_eq _) rfl (by decide +kernel)   -- X6_readLevel
theorem cxo192 : con_ok PT bB 198 cxF cxQ cxt192 := con_chk_ok (fun _ _ h => h) cxpp (kl_ok (List.forall_mem_cons.mpr ⟨cxo171, List.forall_mem_cons.mpr ⟨cxo173, List.forall_mem_cons.mpr ⟨cxo191, fun _ h => (by cases h)⟩⟩⟩)) nw_class (fun h => by cases h) cxk192
def cxt193 : con := (65, [(2, 142, 1), (0, 1, 1)], [], [some (0, 0, 1)], [], 110, 8800, false)
theorem cxk193 : con_chk (kl bB cxF [cxt43, cxt171, cxt173, cxt174, cxt192]) PT bB 198 cxF cxJ cxjo cxP 475 cxt193 = true := fq_chk1 (fq_jn_eq _) rfl (by decide +kernel)   -- X6_readThing
theorem cxo193 : con_ok PT bB 198 cxF cxQ cxt193 := con_chk_ok (fun _ _ h => h) cxpp (kl_ok (List.forall_mem_cons.mpr ⟨cxo43, List.forall_mem_cons.mpr ⟨cxo171, List.forall_mem_cons.mpr ⟨cxo173, List.forall_mem_cons.mpr ⟨cxo174, List.forall_mem_cons.mpr ⟨cxo192, fun _ h => (by cases h)⟩⟩⟩⟩⟩)) nw_class (fun h => by cases h) cxk193
def cxt194 : con := (64, [(2, 142, 1), (0, 1, 1)], [], [some (0, 0, 1)], [], 115, 9200, false)
theorem cxk194 : con_chk (kl bB cxF [cxt171, cxt173, cxt193]) PT bB 198 cxF cxJ cxjo cxP 1202 cxt194 = true := fq_chk1 (fq_jn_eq _) rfl (by decide +kernel)   -- X6_readSigned
theorem cxo194 : con_ok PT bB 198 cxF cxQ cxt194 := con_chk_ok (fun _ _ h => h) cxpp (kl_ok (List.forall_mem_cons.mpr ⟨cxo171, List.forall_mem_cons.mpr ⟨cxo173, List.forall_mem_cons.mpr ⟨cxo193, fun _ h => (by cases h)⟩⟩⟩)) nw_class (fun h => by cases h) cxk194
def cxt195 : con := (62, [(2, 142, 1), (0, 3, 3), (0, 1, 1)], [], [some (0, 0, 1)], [], 120, 9600, false)
theorem cxk195 : con_chk (kl bB cxF [cxt194]) PT bB 198 cxF cxJ cxjo cxP 407 cxt195 = true := fq_chk1 (fq_jn_eq _) rfl (by decide +kernel)   -- X6_readLevel
theorem cxo195 : con_ok PT bB 198 cxF cxQ cxt195 := con_chk_ok (fun _ _ h => h) cxpp (kl_ok (List.forall_mem_cons.mpr ⟨cxo194, fun _ h => (by cases h)⟩)) nw_class (fun h => by cases h) cxk195
def cxt196 : con := (62, [(2, 142, 1), (0, 2, 2), (0, 1, 1)], [], [some (0, 0, 1)], [], 125, 10000, false)
theorem cxk196 : con_chk (kl bB cxF [cxt171, cxt173, cxt195]) PT bB 198 cxF cxJ cxjo cxP 2103 cxt196 = true := fq_chk1 (fq_jn_eq _) rfl (by decide +kernel)   -- X6_readLevel
theorem cxo196 : con_ok PT bB 198 cxF cxQ cxt196 := con_chk_ok (fun _ _ h => h) cxpp (kl_ok (List.forall_mem_cons.mpr ⟨cxo171, List.forall_mem_cons.mpr ⟨cxo173, List.forall_mem_cons.mpr ⟨cxo195, fun _ h => (by cases h)⟩⟩⟩)) nw_class (fun h => by cases h) cxk196
end MG47cx09x3
section MG47cx09x4
/-! contracts -/
def cxt197 : con := (62, [(2, 142, 1), (0, 1, 1), (0, 1, 1)], [], [some (0, 0, 1)], [], 130, 10400, false)
theorem cxk197 : con_chk (kl bB cxF [cxt171, cxt173, cxt196]) PT bB 198 cxF cxJ cxjo cxP 2103 cxt197 = true := fq_chk1 (fq_jn_eq _) rfl (by decide +kernel)   -- X6_readLevel
theorem cxo197 : con_ok PT bB 198 cxF cxQ cxt197 := con_chk_ok (fun _ _ h => h) cxpp (kl_ok (List.forall_mem_cons.mpr ⟨cxo171, List.forall_mem_cons.mpr ⟨cxo173, List.forall_mem_cons.mpr ⟨cxo196, fun _ h => (by cases h)⟩⟩⟩)) nw_class (fun h => by cases h) cxk197
def cxt198 : con := (62, [(2, 142, 1), (0, 0, 0), (0, 1, 1)], [], [some (0, 0, 1)], [], 135, 10800, false)
theorem cxk198 : con_chk (kl bB cxF [cxt171, cxt173, cxt197]) PT bB 198 cxF cxJ cxjo cxP 466 cxt198 = true := fq_chk1 (fq_jn_eq _) rfl (by decide +kernel)   -- X6_readLevel
theorem cxo198 : con_ok PT bB 198 cxF cxQ cxt198 := con_chk_ok (fun _ _ h => h) cxpp (kl_ok (List.forall_mem_cons.mpr ⟨cxo171, List.forall_mem_cons.mpr ⟨cxo173, List.forall_mem_cons.mpr ⟨cxo197, fun _ h => (by cases h)⟩⟩⟩)) nw_class (fun h => by cases h) cxk198
def cxt199 : con := (65, [(2, 142, 1), (0, 0, 0)], [], [some (0, 0, 1)], [], 140, 11200, false)
theorem cxk199 : con_chk (kl bB cxF [cxt43, cxt171, cxt173, cxt174, cxt198]) PT bB 198 cxF cxJ cxjo cxP 475 cxt199 = true := fq_chk1 (fq_jn_eq _) rfl (by decide +kernel)   -- X6_readThing
theorem cxo199 : con_ok PT bB 198 cxF cxQ cxt199 := con_chk_ok (fun _ _ h => h) cxpp (kl_ok (List.forall_mem_cons.mpr ⟨cxo43, List.forall_mem_cons.mpr ⟨cxo171, List.forall_mem_cons.mpr ⟨cxo173, List.forall_mem_cons.mpr ⟨cxo174, List.forall_mem_cons.mpr ⟨cxo198, fun _ h => (by cases h)⟩⟩⟩⟩⟩)) nw_class (fun h => by cases h) cxk199
def cxt200 : con := (64, [(2, 142, 1), (0, 0, 0)], [], [some (0, 0, 1)], [], 145, 11600, false)
theorem cxk200 : con_chk (kl bB cxF [cxt171, cxt173, cxt199]) PT bB 198 cxF cxJ cxjo cxP 1202 cxt200 = true := fq_chk1 (fq_jn_eq _) rfl (by decide +kernel)   -- X6_readSigned
theorem cxo200 : con_ok PT bB 198 cxF cxQ cxt200 := con_chk_ok (fun _ _ h => h) cxpp (kl_ok (List.forall_mem_cons.mpr ⟨cxo171, List.forall_mem_cons.mpr ⟨cxo173, List.forall_mem_cons.mpr ⟨cxo199, fun _ h => (by cases h)⟩⟩⟩)) nw_class (fun h => by cases h) cxk200
def cxt201 : con := (62, [(2, 142, 1), (0, 3, 3), (0, 0, 0)], [], [some (0, 0, 1)], [], 150, 12000, false)
theorem cxk201 : con_chk (kl bB cxF [cxt200]) PT bB 198 cxF cxJ cxjo cxP 407 cxt201 = true := fq_chk1 (fq_jn_eq _) rfl (by decide +kernel)   -- X6_readLevel
theorem cxo201 : con_ok PT bB 198 cxF cxQ cxt201 := con_chk_ok (fun _ _ h => h) cxpp (kl_ok (List.forall_mem_cons.mpr ⟨cxo200, fun _ h => (by cases h)⟩)) nw_class (fun h => by cases h) cxk201
def cxt202 : con := (62, [(2, 142, 1), (0, 2, 2), (0, 0, 0)], [], [some (0, 0, 1)], [], 155, 12400, false)
theorem cxk202 : con_chk (kl bB cxF [cxt171, cxt173, cxt201]) PT bB 198 cxF cxJ cxjo cxP 2103 cxt202 = true := fq_chk1 (fq_jn_eq _) rfl (by decide +kernel)   -- X6_readLevel
theorem cxo202 : con_ok PT bB 198 cxF cxQ cxt202 := con_chk_ok (fun _ _ h => h) cxpp (kl_ok (List.forall_mem_cons.mpr ⟨cxo171, List.forall_mem_cons.mpr ⟨cxo173, List.forall_mem_cons.mpr ⟨cxo201, fun _ h => (by cases h)⟩⟩⟩)) nw_class (fun h => by cases h) cxk202
def cxt203 : con := (62, [(2, 142, 1), (0, 1, 1), (0, 0, 0)], [], [some (0, 0, 1)], [], 160, 12800, false)
theorem cxk203 : con_chk (kl bB cxF [cxt171, cxt173, cxt202]) PT bB 198 cxF cxJ cxjo cxP 2103 cxt203 = true := fq_chk1 (fq_jn_eq _) rfl (by decide +kernel)   -- X6_readLevel
theorem cxo203 : con_ok PT bB 198 cxF cxQ cxt203 := con_chk_ok (fun _ _ h => h) cxpp (kl_ok (List.forall_mem_cons.mpr ⟨cxo171, List.forall_mem_cons.mpr ⟨cxo173, List.forall_mem_cons.mpr ⟨cxo202, fun _ h => (by cases h)⟩⟩⟩)) nw_class (fun h => by cases h) cxk203
def cxt204 : con := (62, [(2, 142, 1), (0, 0, 0), (0, 0, 0)], [], [some (0, 0, 1)], [], 165, 13200, false)
theorem cxk204 : con_chk (kl bB cxF [cxt171, cxt173, cxt203]) PT bB 198 cxF cxJ cxjo cxP 466 cxt204 = true := fq_chk1 (fq_jn_eq _) rfl (by decide +kernel)   -- X6_readLevel
theorem cxo204 : con_ok PT bB 198 cxF cxQ cxt204 := con_chk_ok (fun _ _ h => h) cxpp (kl_ok (List.forall_mem_cons.mpr ⟨cxo171, List.forall_mem_cons.mpr ⟨cxo173, List.forall_mem_cons.mpr ⟨cxo203, fun _ h => (by cases h)⟩⟩⟩)) nw_class (fun h => by cases h) cxk204
def cxt205 : con := (58, [(2, 142, 1)], [], [some (0, (-2147483648), 2147483647)], [], 170, 13600, false)
theorem cxk205 : con_chk (kl bB cxF [cxt172, cxt204]) PT bB 198 cxF cxJ cxjo cxP 442 cxt205 = true := fq_chk1 (fq_jn_eq _) rfl (by decide +kernel)   -- X6_read
theorem cxo205 : con_ok PT bB 198 cxF cxQ cxt205 := con_chk_ok (fun _ _ h => h) cxpp (kl_ok (List.forall_mem_cons.mpr ⟨cxo172, List.forall_mem_cons.mpr ⟨cxo204, fun _ h => (by cases h)⟩⟩)) nw_class (fun h => by cases h) cxk205
def cxt206 : con := (60, [(2, 145, 1), (0, (-2147483648), 999)], [], [none], [], 5, 400, false)
theorem cxk206 : con_chk (kl bB cxF []) PT bB 198 cxF cxJ cxjo cxP 421 cxt206 = true := fq_chk1 (fq_jn_eq _) rfl (by decide +kernel)   -- X6_emit
theorem cxo206 : con_ok PT bB 198 cxF cxQ cxt206 := con_chk_ok (fun _ _ h => h) cxpp (kl_ok (fun _ h => (by cases h))) nw_class (fun h => by cases h) cxk206
def cxt207 : con := (59, [(2, 145, 1)], [], [none], [], 10, 800, false)
theorem cxk207 : con_chk (kl bB cxF [cxt206]) PT bB 198 cxF cxJ cxjo cxP 419 cxt207 = true := fq_chk1 (fq_jn_eq _) rfl (by decide +kernel)   -- X6_beFirstRule
theorem cxo207 : con_ok PT bB 198 cxF cxQ cxt207 := con_chk_ok (fun _ _ h => h) cxpp (kl_ok (List.forall_mem_cons.mpr ⟨cxo206, fun _ h => (by cases h)⟩)) nw_class (fun h => by cases h) cxk207
def cxt208 : con := (61, [(2, 145, 1)], [], [some (0, (-1), 65535)], [], 10, 800, true)
theorem cxk208 : con_chk (kl bB cxF [cxt33]) PT bB 198 cxF cxJ cxjo cxP 407 cxt208 = true := fq_chk1 (fq_jn_eq _) rfl (by decide +kernel)   -- X6_nextSign
theorem cxo208 : con_ok PT bB 198 cxF cxQ cxt208 := con_chk_ok (fun _ _ h => h) cxpp (kl_ok (List.forall_mem_cons.mpr ⟨cxo33, fun _ h => (by cases h)⟩)) nw_class (fun _ => by decide) cxk208
def cxt209 : con := (66, [(2, 145, 1)], [], [none], [], 15, 1200, false)
theorem cxk209 : con_chk (kl bB cxF [cxt34, cxt206]) PT bB 198 cxF cxJ cxjo cxP 502 cxt209 = true := fq_chk1 (fq_jn_eq _) rfl (by decide +kernel)   -- X6_readNumber
theorem cxo209 : con_ok PT bB 198 cxF cxQ cxt209 := con_chk_ok (fun _ _ h => h) cxpp (kl_ok (List.forall_mem_cons.mpr ⟨cxo34, List.forall_mem_cons.mpr ⟨cxo206, fun _ h => (by cases h)⟩⟩)) nw_class (fun h => by cases h) cxk209
def cxt210 : con := (65, [(2, 145, 1), (0, 4, 4)], [], [some (0, 0, 1)], [], 20, 1600, false)
theorem cxk210 : con_chk (kl bB cxF [cxt43, cxt206, cxt208, cxt209]) PT bB 198 cxF cxJ cxjo cxP 448 cxt210 = true := fq_chk1 (fq_jn_eq _) rfl (by decide +kernel)   -- X6_readThing
theorem cxo210 : con_ok PT bB 198 cxF cxQ cxt210 := con_chk_ok (fun _ _ h => h) cxpp (kl_ok (List.forall_mem_cons.mpr ⟨cxo43, List.forall_mem_cons.mpr ⟨cxo206, List.forall_mem_cons.mpr ⟨cxo208, List.forall_mem_cons.mpr ⟨cxo209, fun _ h => (by cases h)⟩⟩⟩⟩)) nw_class (fun h => by cases h) cxk210
end MG47cx09x4
section MG47cx09x5
/-! contracts -/
def cxt211 : con := (64, [(2, 145, 1), (0, 4, 4)], [], [some (0, 0, 1)], [], 25, 2000, false)
theorem cxk211 : con_chk (kl bB cxF [cxt206, cxt208, cxt210]) PT bB 198 cxF cxJ cxjo cxP 1202 cxt211 = true := fq_chk1 (fq_jn_eq _) rfl (by decide +kernel)   -- X6_readSigned
theorem cxo211 : con_ok PT bB 198 cxF cxQ cxt211 := con_chk_ok (fun _ _ h => h) cxpp (kl_ok (List.forall_mem_cons.mpr ⟨cxo206, List.forall_mem_cons.mpr ⟨cxo208, List.forall_mem_cons.mpr ⟨cxo210, fun _ h => (by cases h)⟩⟩⟩)) nw_class (fun h => by cases h) cxk211
def cxt212 : con := (62, [(2, 145, 1), (0, 3, 3), (0, 4, 4)], [], [some (0, 0, 1)], [], 30, 2400, false)
theorem cxk212 : con_chk (kl bB cxF [cxt211]) PT bB 198 cxF cxJ cxjo cxP 407 cxt212 = true := fq_chk1 (fq_jn_eq _) rfl (by decide +kernel)   -- X6_readLevel
theorem cxo212 : con_ok PT bB 198 cxF cxQ cxt212 := con_chk_ok (fun _ _ h => h) cxpp (kl_ok (List.forall_mem_cons.mpr ⟨cxo211, fun _ h => (by cases h)⟩)) nw_class (fun h => by cases h) cxk212
def cxt213 : con := (62, [(2, 145, 1), (0, 2, 2), (0, 4, 4)], [], [some (0, 0, 1)], [], 35, 2800, false)
theorem cxk213 : con_chk (kl bB cxF [cxt206, cxt208, cxt212]) PT bB 198 cxF cxJ cxjo cxP 2103 cxt213 = true := fq_chk1 (fq_jn_eq _) rfl (by decide +kernel)   -- X6_readLevel
theorem cxo213 : con_ok PT bB 198 cxF cxQ cxt213 := con_chk_ok (fun _ _ h => h) cxpp (kl_ok (List.forall_mem_cons.mpr ⟨cxo206, List.forall_mem_cons.mpr ⟨cxo208, List.forall_mem_cons.mpr ⟨cxo212, fun _ h => (by cases h)⟩⟩⟩)) nw_class (fun h => by cases h) cxk213
def cxt214 : con := (62, [(2, 145, 1), (0, 1, 1), (0, 4, 4)], [], [some (0, 0, 1)], [], 40, 3200, false)
theorem cxk214 : con_chk (kl bB cxF [cxt206, cxt208, cxt213]) PT bB 198 cxF cxJ cxjo cxP 2103 cxt214 = true := fq_chk1 (fq_jn_eq _) rfl (by decide +kernel)   -- X6_readLevel
theorem cxo214 : con_ok PT bB 198 cxF cxQ cxt214 := con_chk_ok (fun _ _ h => h) cxpp (kl_ok (List.forall_mem_cons.mpr ⟨cxo206, List.forall_mem_cons.mpr ⟨cxo208, List.forall_mem_cons.mpr ⟨cxo213, fun _ h => (by cases h)⟩⟩⟩)) nw_class (fun h => by cases h) cxk214
def cxt215 : con := (62, [(2, 145, 1), (0, 0, 0), (0, 4, 4)], [], [some (0, 0, 1)], [], 45, 3600, false)
theorem cxk215 : con_chk (kl bB cxF [cxt206, cxt208, cxt214]) PT bB 198 cxF cxJ cxjo cxP 466 cxt215 = true := fq_chk1 (fq_jn_eq _) rfl (by decide +kernel)   -- X6_readLevel
theorem cxo215 : con_ok PT bB 198 cxF cxQ cxt215 := con_chk_ok (fun _ _ h => h) cxpp (kl_ok (List.forall_mem_cons.mpr ⟨cxo206, List.forall_mem_cons.mpr ⟨cxo208, List.forall_mem_cons.mpr ⟨cxo214, fun _ h => (by cases h)⟩⟩⟩)) nw_class (fun h => by cases h) cxk215
def cxt216 : con := (65, [(2, 145, 1), (0, 3, 3)], [], [some (0, 0, 1)], [], 50, 4000, false)
theorem cxk216 : con_chk (kl bB cxF [cxt43, cxt206, cxt208, cxt209, cxt215]) PT bB 198 cxF cxJ cxjo cxP 475 cxt216 = true := fq_chk1 (fq_jn_eq _) rfl (by decide +kernel)   -- X6_readThing
theorem cxo216 : con_ok PT bB 198 cxF cxQ cxt216 := con_chk_ok (fun _ _ h => h) cxpp (kl_ok (List.forall_mem_cons.mpr ⟨cxo43, List.forall_mem_cons.mpr ⟨cxo206, List.forall_mem_cons.mpr ⟨cxo208, List.forall_mem_cons.mpr ⟨cxo209, List.forall_mem_cons.mpr ⟨cxo215, fun _ h => (by cases h)⟩⟩⟩⟩⟩)) nw_class (fun h => by cases h) cxk216
def cxt217 : con := (64, [(2, 145, 1), (0, 3, 3)], [], [some (0, 0, 1)], [], 55, 4400, false)
theorem cxk217 : con_chk (kl bB cxF [cxt206, cxt208, cxt216]) PT bB 198 cxF cxJ cxjo cxP 1202 cxt217 = true := fq_chk1 (fq_jn_eq _) rfl (by decide +kernel)   -- X6_readSigned
theorem cxo217 : con_ok PT bB 198 cxF cxQ cxt217 := con_chk_ok (fun _ _ h => h) cxpp (kl_ok (List.forall_mem_cons.mpr ⟨cxo206, List.forall_mem_cons.mpr ⟨cxo208, List.forall_mem_cons.mpr ⟨cxo216, fun _ h => (by cases h)⟩⟩⟩)) nw_class (fun h => by cases h) cxk217
def cxt218 : con := (62, [(2, 145, 1), (0, 3, 3), (0, 3, 3)], [], [some (0, 0, 1)], [], 60, 4800, false)
theorem cxk218 : con_chk (kl bB cxF [cxt217]) PT bB 198 cxF cxJ cxjo cxP 407 cxt218 = true := fq_chk1 (fq_jn_eq _) rfl (by decide +kernel)   -- X6_readLevel
theorem cxo218 : con_ok PT bB 198 cxF cxQ cxt218 := con_chk_ok (fun _ _ h => h) cxpp (kl_ok (List.forall_mem_cons.mpr ⟨cxo217, fun _ h => (by cases h)⟩)) nw_class (fun h => by cases h) cxk218
def cxt219 : con := (62, [(2, 145, 1), (0, 2, 2), (0, 3, 3)], [], [some (0, 0, 1)], [], 65, 5200, false)
theorem cxk219 : con_chk (kl bB cxF [cxt206, cxt208, cxt218]) PT bB 198 cxF cxJ cxjo cxP 2103 cxt219 = true := fq_chk1 (fq_jn_eq _) rfl (by decide +kernel)   -- X6_readLevel
theorem cxo219 : con_ok PT bB 198 cxF cxQ cxt219 := con_chk_ok (fun _ _ h => h) cxpp (kl_ok (List.forall_mem_cons.mpr ⟨cxo206, List.forall_mem_cons.mpr ⟨cxo208, List.forall_mem_cons.mpr ⟨cxo218, fun _ h => (by cases h)⟩⟩⟩)) nw_class (fun h => by cases h) cxk219
end MG47cx09x5
section MG47cx09x6
/-! contracts -/
def cxt220 : con := (62, [(2, 145, 1), (0, 1, 1), (0, 3, 3)], [], [some (0, 0, 1)], [], 70, 5600, false)
theorem cxk220 : con_chk (kl bB cxF [cxt206, cxt208, cxt219]) PT bB 198 cxF cxJ cxjo cxP 2103 cxt220 = true := fq_chk1 (fq_jn_eq _) rfl (by decide +kernel)   -- X6_readLevel
theorem cxo220 : con_ok PT bB 198 cxF cxQ cxt220 := con_chk_ok (fun _ _ h => h) cxpp (kl_ok (List.forall_mem_cons.mpr ⟨cxo206, List.forall_mem_cons.mpr ⟨cxo208, List.forall_mem_cons.mpr ⟨cxo219, fun _ h => (by cases h)⟩⟩⟩)) nw_class (fun h => by cases h) cxk220
def cxt221 : con := (62, [(2, 145, 1), (0, 0, 0), (0, 3, 3)], [], [some (0, 0, 1)], [], 75, 6000, false)
theorem cxk221 : con_chk (kl bB cxF [cxt206, cxt208, cxt220]) PT bB 198 cxF cxJ cxjo cxP 466 cxt221 = true := fq_chk1 (fq_jn_eq _) rfl (by decide +kernel)   -- X6_readLevel
theorem cxo221 : con_ok PT bB 198 cxF cxQ cxt221 := con_chk_ok (fun _ _ h => h) cxpp (kl_ok (List.forall_mem_cons.mpr ⟨cxo206, List.forall_mem_cons.mpr ⟨cxo208, List.forall_mem_cons.mpr ⟨cxo220, fun _ h => (by cases h)⟩⟩⟩)) nw_class (fun h => by cases h) cxk221
def cxt222 : con := (65, [(2, 145, 1), (0, 2, 2)], [], [some (0, 0, 1)], [], 80, 6400, false)
theorem cxk222 : con_chk (kl bB cxF [cxt43, cxt206, cxt208, cxt209, cxt221]) PT bB 198 cxF cxJ cxjo cxP 475 cxt222 = true := fq_chk1 (fq_jn_eq _) rfl (by decide +kernel)   -- X6_readThing
theorem cxo222 : con_ok PT bB 198 cxF cxQ cxt222 := con_chk_ok (fun _ _ h => h) cxpp (kl_ok (List.forall_mem_cons.mpr ⟨cxo43, List.forall_mem_cons.mpr ⟨cxo206, List.forall_mem_cons.mpr ⟨cxo208, List.forall_mem_cons.mpr ⟨cxo209, List.forall_mem_cons.mpr ⟨cxo221, fun _ h => (by cases h)⟩⟩⟩⟩⟩)) nw_class (fun h => by cases h) cxk222
def cxt223 : con := (64, [(2, 145, 1), (0, 2, 2)], [], [some (0, 0, 1)], [], 85, 6800, false)
theorem cxk223 : con_chk (kl bB cxF [cxt206, cxt208, cxt222]) PT bB 198 cxF cxJ cxjo cxP 1202 cxt223 = true := fq_chk1 (fq_jn_eq _) rfl (by decide +kernel)   -- X6_readSigned
theorem cxo223 : con_ok PT bB 198 cxF cxQ cxt223 := con_chk_ok (fun _ _ h => h) cxpp (kl_ok (List.forall_mem_cons.mpr ⟨cxo206, List.forall_mem_cons.mpr ⟨cxo208, List.forall_mem_cons.mpr ⟨cxo222, fun _ h => (by cases h)⟩⟩⟩)) nw_class (fun h => by cases h) cxk223
def cxt224 : con := (62, [(2, 145, 1), (0, 3, 3), (0, 2, 2)], [], [some (0, 0, 1)], [], 90, 7200, false)
theorem cxk224 : con_chk (kl bB cxF [cxt223]) PT bB 198 cxF cxJ cxjo cxP 407 cxt224 = true := fq_chk1 (fq_jn_eq _) rfl (by decide +kernel)   -- X6_readLevel
theorem cxo224 : con_ok PT bB 198 cxF cxQ cxt224 := con_chk_ok (fun _ _ h => h) cxpp (kl_ok (List.forall_mem_cons.mpr ⟨cxo223, fun _ h => (by cases h)⟩)) nw_class (fun h => by cases h) cxk224
def cxt225 : con := (62, [(2, 145, 1), (0, 2, 2), (0, 2, 2)], [], [some (0, 0, 1)], [], 95, 7600, false)
theorem cxk225 : con_chk (kl bB cxF [cxt206, cxt208, cxt224]) PT bB 198 cxF cxJ cxjo cxP 2103 cxt225 = true := fq_chk1 (fq_jn_eq _) rfl (by decide +kernel)   -- X6_readLevel
theorem cxo225 : con_ok PT bB 198 cxF cxQ cxt225 := con_chk_ok (fun _ _ h => h) cxpp (kl_ok (List.forall_mem_cons.mpr ⟨cxo206, List.forall_mem_cons.mpr ⟨cxo208, List.forall_mem_cons.mpr ⟨cxo224, fun _ h => (by cases h)⟩⟩⟩)) nw_class (fun h => by cases h) cxk225
def cxt226 : con := (62, [(2, 145, 1), (0, 1, 1), (0, 2, 2)], [], [some (0, 0, 1)], [], 100, 8000, false)
theorem cxk226 : con_chk (kl bB cxF [cxt206, cxt208, cxt225]) PT bB 198 cxF cxJ cxjo cxP 2103 cxt226 = true := fq_chk1 (fq_jn_eq _) rfl (by decide +kernel)   -- X6_readLevel
theorem cxo226 : con_ok PT bB 198 cxF cxQ cxt226 := con_chk_ok (fun _ _ h => h) cxpp (kl_ok (List.forall_mem_cons.mpr ⟨cxo206, List.forall_mem_cons.mpr ⟨cxo208, List.forall_mem_cons.mpr ⟨cxo225, fun _ h => (by cases h)⟩⟩⟩)) nw_class (fun h => by cases h) cxk226
def cxt227 : con := (62, [(2, 145, 1), (0, 0, 0), (0, 2, 2)], [], [some (0, 0, 1)], [], 105, 8400, false)
theorem cxk227 : con_chk (kl bB cxF [cxt206, cxt208, cxt226]) PT bB 198 cxF cxJ cxjo cxP 466 cxt227 = true := fq_chk1 (fq_jn_eq _) rfl (by decide +kernel)   -- X6_readLevel
theorem cxo227 : con_ok PT bB 198 cxF cxQ cxt227 := con_chk_ok (fun _ _ h => h) cxpp (kl_ok (List.forall_mem_cons.mpr ⟨cxo206, List.forall_mem_cons.mpr ⟨cxo208, List.forall_mem_cons.mpr ⟨cxo226, fun _ h => (by cases h)⟩⟩⟩)) nw_class (fun h => by cases h) cxk227
def cxt228 : con := (65, [(2, 145, 1), (0, 1, 1)], [], [some (0, 0, 1)], [], 110, 8800, false)
theorem cxk228 : con_chk (kl bB cxF [cxt43, cxt206, cxt208, cxt209, cxt227]) PT bB 198 cxF cxJ cxjo cxP 475 cxt228 = true := fq_chk1 (fq_jn_eq _) rfl (by decide +kernel)   -- X6_readThing
theorem cxo228 : con_ok PT bB 198 cxF cxQ cxt228 := con_chk_ok (fun _ _ h => h) cxpp (kl_ok (List.forall_mem_cons.mpr ⟨cxo43, List.forall_mem_cons.mpr ⟨cxo206, List.forall_mem_cons.mpr ⟨cxo208, List.forall_mem_cons.mpr ⟨cxo209, List.forall_mem_cons.mpr ⟨cxo227, fun _ h => (by cases h)⟩⟩⟩⟩⟩)) nw_class (fun h => by cases h) cxk228
end MG47cx09x6
section MG47cx09x7
/-! contracts -/
def cxt229 : con := (64, [(2, 145, 1), (0, 1, 1)], [], [some (0, 0, 1)], [], 115, 9200, false)
theorem cxk229 : con_chk (kl bB cxF [cxt206, cxt208, cxt228]) PT bB 198 cxF cxJ cxjo cxP 1202 cxt229 = true := fq_chk1 (fq_jn_eq _) rfl (by decide +kernel)   -- X6_readSigned
theorem cxo229 : con_ok PT bB 198 cxF cxQ cxt229 := con_chk_ok (fun _ _ h => h) cxpp (kl_ok (List.forall_mem_cons.mpr ⟨cxo206, List.forall_mem_cons.mpr ⟨cxo208, List.forall_mem_cons.mpr ⟨cxo228, fun _ h => (by cases h)⟩⟩⟩)) nw_class (fun h => by cases h) cxk229
def cxt230 : con := (62, [(2, 145, 1), (0, 3, 3), (0, 1, 1)], [], [some (0, 0, 1)], [], 120, 9600, false)
theorem cxk230 : con_chk (kl bB cxF [cxt229]) PT bB 198 cxF cxJ cxjo cxP 407 cxt230 = true := fq_chk1 (fq_jn_eq _) rfl (by decide +kernel)   -- X6_readLevel
theorem cxo230 : con_ok PT bB 198 cxF cxQ cxt230 := con_chk_ok (fun _ _ h => h) cxpp (kl_ok (List.forall_mem_cons.mpr ⟨cxo229, fun _ h => (by cases h)⟩)) nw_class (fun h => by cases h) cxk230
def cxt231 : con := (62, [(2, 145, 1), (0, 2, 2), (0, 1, 1)], [], [some (0, 0, 1)], [], 125, 10000, false)
theorem cxk231 : con_chk (kl bB cxF [cxt206, cxt208, cxt230]) PT bB 198 cxF cxJ cxjo cxP 2103 cxt231 = true := fq_chk1 (fq_jn_eq _) rfl (by decide +kernel)   -- X6_readLevel
theorem cxo231 : con_ok PT bB 198 cxF cxQ cxt231 := con_chk_ok (fun _ _ h => h) cxpp (kl_ok (List.forall_mem_cons.mpr ⟨cxo206, List.forall_mem_cons.mpr ⟨cxo208, List.forall_mem_cons.mpr ⟨cxo230, fun _ h => (by cases h)⟩⟩⟩)) nw_class (fun h => by cases h) cxk231
def cxt232 : con := (62, [(2, 145, 1), (0, 1, 1), (0, 1, 1)], [], [some (0, 0, 1)], [], 130, 10400, false)
theorem cxk232 : con_chk (kl bB cxF [cxt206, cxt208, cxt231]) PT bB 198 cxF cxJ cxjo cxP 2103 cxt232 = true := fq_chk1 (fq_jn_eq _) rfl (by decide +kernel)   -- X6_readLevel
theorem cxo232 : con_ok PT bB 198 cxF cxQ cxt232 := con_chk_ok (fun _ _ h => h) cxpp (kl_ok (List.forall_mem_cons.mpr ⟨cxo206, List.forall_mem_cons.mpr ⟨cxo208, List.forall_mem_cons.mpr ⟨cxo231, fun _ h => (by cases h)⟩⟩⟩)) nw_class (fun h => by cases h) cxk232
def cxt233 : con := (62, [(2, 145, 1), (0, 0, 0), (0, 1, 1)], [], [some (0, 0, 1)], [], 135, 10800, false)
theorem cxk233 : con_chk (kl bB cxF [cxt206, cxt208, cxt232]) PT bB 198 cxF cxJ cxjo cxP 466 cxt233 = true := fq_chk1 (fq_jn_eq _) rfl (by decide +kernel)   -- X6_readLevel
theorem cxo233 : con_ok PT bB 198 cxF cxQ cxt233 := con_chk_ok (fun _ _ h => h) cxpp (kl_ok (List.forall_mem_cons.mpr ⟨cxo206, List.forall_mem_cons.mpr ⟨cxo208, List.forall_mem_cons.mpr ⟨cxo232, fun _ h => (by cases h)⟩⟩⟩)) nw_class (fun h => by cases h) cxk233
def cxt234 : con := (65, [(2, 145, 1), (0, 0, 0)], [], [some (0, 0, 1)], [], 140, 11200, false)
theorem cxk234 : con_chk (kl bB cxF [cxt43, cxt206, cxt208, cxt209, cxt233]) PT bB 198 cxF cxJ cxjo cxP 475 cxt234 = true := fq_chk1 (fq_jn_eq _) rfl (by decide +kernel)   -- X6_readThing
theorem cxo234 : con_ok PT bB 198 cxF cxQ cxt234 := con_chk_ok (fun _ _ h => h) cxpp (kl_ok (List.forall_mem_cons.mpr ⟨cxo43, List.forall_mem_cons.mpr ⟨cxo206, List.forall_mem_cons.mpr ⟨cxo208, List.forall_mem_cons.mpr ⟨cxo209, List.forall_mem_cons.mpr ⟨cxo233, fun _ h => (by cases h)⟩⟩⟩⟩⟩)) nw_class (fun h => by cases h) cxk234
def cxt235 : con := (64, [(2, 145, 1), (0, 0, 0)], [], [some (0, 0, 1)], [], 145, 11600, false)
theorem cxk235 : con_chk (kl bB cxF [cxt206, cxt208, cxt234]) PT bB 198 cxF cxJ cxjo cxP 1202 cxt235 = true := fq_chk1 (fq_jn_eq _) rfl (by decide +kernel)   -- X6_readSigned
theorem cxo235 : con_ok PT bB 198 cxF cxQ cxt235 := con_chk_ok (fun _ _ h => h) cxpp (kl_ok (List.forall_mem_cons.mpr ⟨cxo206, List.forall_mem_cons.mpr ⟨cxo208, List.forall_mem_cons.mpr ⟨cxo234, fun _ h => (by cases h)⟩⟩⟩)) nw_class (fun h => by cases h) cxk235
def cxt236 : con := (62, [(2, 145, 1), (0, 3, 3), (0, 0, 0)], [], [some (0, 0, 1)], [], 150, 12000, false)
theorem cxk236 : con_chk (kl bB cxF [cxt235]) PT bB 198 cxF cxJ cxjo cxP 407 cxt236 = true := fq_chk1 (fq_jn_eq _) rfl (by decide +kernel)   -- X6_readLevel
theorem cxo236 : con_ok PT bB 198 cxF cxQ cxt236 := con_chk_ok (fun _ _ h => h) cxpp (kl_ok (List.forall_mem_cons.mpr ⟨cxo235, fun _ h => (by cases h)⟩)) nw_class (fun h => by cases h) cxk236
def cxt237 : con := (62, [(2, 145, 1), (0, 2, 2), (0, 0, 0)], [], [some (0, 0, 1)], [], 155, 12400, false)
theorem cxk237 : con_chk (kl bB cxF [cxt206, cxt208, cxt236]) PT bB 198 cxF cxJ cxjo cxP 2103 cxt237 = true := fq_chk1 (fq_jn_eq _) rfl (by decide +kernel)   -- X6_readLevel
theorem cxo237 : con_ok PT bB 198 cxF cxQ cxt237 := con_chk_ok (fun _ _ h => h) cxpp (kl_ok (List.forall_mem_cons.mpr ⟨cxo206, List.forall_mem_cons.mpr ⟨cxo208, List.forall_mem_cons.mpr ⟨cxo236, fun _ h => (by cases h)⟩⟩⟩)) nw_class (fun h => by cases h) cxk237
end MG47cx09x7
end MH47cx09x0
section MH47cx09x1
/-! contracts -/
def cxt238 : con := (62, [(2, 145, 1), (0, 1, 1), (0, 0, 0)], [], [some (0, 0, 1)], [], 160, 12800, false)
theorem cxk238 : con_chk (kl bB cxF [cxt206, cxt208, cxt237]) PT bB 198 cxF cxJ cxjo cxP 2103 cxt238 = true := fq_chk1 (fq_jn_eq _) rfl (by decide +kernel)   -- X6_readLevel
theorem cxo238 : con_ok PT bB 198 cxF cxQ cxt238 := con_chk_ok (fun _ _ h => h) cxpp (kl_ok (List.forall_mem_cons.mpr ⟨cxo206, List.forall_mem_cons.mpr ⟨cxo208, List.forall_mem_cons.mpr ⟨cxo237, fun _ h => (by cases h)⟩⟩⟩)) nw_class (fun h => by cases h) cxk238
def cxt239 : con := (62, [(2, 145, 1), (0, 0, 0), (0, 0, 0)], [], [some (0, 0, 1)], [], 165, 13200, false)
theorem cxk239 : con_chk (kl bB cxF [cxt206, cxt208, cxt238]) PT bB 198 cxF cxJ cxjo cxP 466 cxt239 = true := fq_chk1 (fq_jn_eq _) rfl (by decide +kernel)   -- X6_readLevel
theorem cxo239 : con_ok PT bB 198 cxF cxQ cxt239 := con_chk_ok (fun _ _ h => h) cxpp (kl_ok (List.forall_mem_cons.mpr ⟨cxo206, List.forall_mem_cons.mpr ⟨cxo208, List.forall_mem_cons.mpr ⟨cxo238, fun _ h => (by cases h)⟩⟩⟩)) nw_class (fun h => by cases h) cxk239
def cxt240 : con := (58, [(2, 145, 1)], [], [some (0, (-2147483648), 2147483647)], [], 170, 13600, false)
theorem cxk240 : con_chk (kl bB cxF [cxt207, cxt239]) PT bB 198 cxF cxJ cxjo cxP 442 cxt240 = true := fq_chk1 (fq_jn_eq _) rfl (by decide +kernel)   -- X6_read
theorem cxo240 : con_ok PT bB 198 cxF cxQ cxt240 := con_chk_ok (fun _ _ h => h) cxpp (kl_ok (List.forall_mem_cons.mpr ⟨cxo207, List.forall_mem_cons.mpr ⟨cxo239, fun _ h => (by cases h)⟩⟩)) nw_class (fun h => by cases h) cxk240
def cxt241 : con := (73, [(2, 124, 1), (2, 13, 1)], [], [none], [], 5, 400, false)
theorem cxk241 : con_chk (kl bB cxF []) PT bB 198 cxF cxJ cxjo cxP 449 cxt241 = true := fq_chk1 (fq_jn_eq _) rfl (by decide +kernel)   -- X7_copyFrom
theorem cxo241 : con_ok PT bB 198 cxF cxQ cxt241 := con_chk_ok (fun _ _ h => h) cxpp (kl_ok (fun _ h => (by cases h))) nw_class (fun h => by cases h) cxk241
def cxt242 : con := (73, [(2, 13, 1), (2, 124, 1)], [], [none], [], 5, 400, false)
theorem cxk242 : con_chk (kl bB cxF []) PT bB 198 cxF cxJ cxjo cxP 449 cxt242 = true := fq_chk1 (fq_jn_eq _) rfl (by decide +kernel)   -- X7_copyFrom
theorem cxo242 : con_ok PT bB 198 cxF cxQ cxt242 := con_chk_ok (fun _ _ h => h) cxpp (kl_ok (fun _ h => (by cases h))) nw_class (fun h => by cases h) cxk242
def cxt243 : con := (73, [(2, 13, 1), (2, 130, 1)], [], [none], [], 5, 400, false)
theorem cxk243 : con_chk (kl bB cxF []) PT bB 198 cxF cxJ cxjo cxP 449 cxt243 = true := fq_chk1 (fq_jn_eq _) rfl (by decide +kernel)   -- X7_copyFrom
theorem cxo243 : con_ok PT bB 198 cxF cxQ cxt243 := con_chk_ok (fun _ _ h => h) cxpp (kl_ok (fun _ h => (by cases h))) nw_class (fun h => by cases h) cxk243
def cxt244 : con := (73, [(2, 13, 1), (2, 136, 1)], [], [none], [], 5, 400, false)
theorem cxk244 : con_chk (kl bB cxF []) PT bB 198 cxF cxJ cxjo cxP 449 cxt244 = true := fq_chk1 (fq_jn_eq _) rfl (by decide +kernel)   -- X7_copyFrom
theorem cxo244 : con_ok PT bB 198 cxF cxQ cxt244 := con_chk_ok (fun _ _ h => h) cxpp (kl_ok (fun _ h => (by cases h))) nw_class (fun h => by cases h) cxk244
def cxt245 : con := (73, [(2, 130, 1), (2, 13, 1)], [], [none], [], 5, 400, false)
theorem cxk245 : con_chk (kl bB cxF []) PT bB 198 cxF cxJ cxjo cxP 449 cxt245 = true := fq_chk1 (fq_jn_eq _) rfl (by decide +kernel)   -- X7_copyFrom
theorem cxo245 : con_ok PT bB 198 cxF cxQ cxt245 := con_chk_ok (fun _ _ h => h) cxpp (kl_ok (fun _ h => (by cases h))) nw_class (fun h => by cases h) cxk245
def cxt246 : con := (73, [(2, 136, 1), (2, 13, 1)], [], [none], [], 5, 400, false)
theorem cxk246 : con_chk (kl bB cxF []) PT bB 198 cxF cxJ cxjo cxP 449 cxt246 = true := fq_chk1 (fq_jn_eq _) rfl (by decide +kernel)   -- X7_copyFrom
theorem cxo246 : con_ok PT bB 198 cxF cxQ cxt246 := con_chk_ok (fun _ _ h => h) cxpp (kl_ok (fun _ h => (by cases h))) nw_class (fun h => by cases h) cxk246
def cxt247 : con := (73, [(2, 19, 1), (2, 13, 1)], [], [none], [], 5, 400, false)
theorem cxk247 : con_chk (kl bB cxF []) PT bB 198 cxF cxJ cxjo cxP 449 cxt247 = true := fq_chk1 (fq_jn_eq _) rfl (by decide +kernel)   -- X7_copyFrom
theorem cxo247 : con_ok PT bB 198 cxF cxQ cxt247 := con_chk_ok (fun _ _ h => h) cxpp (kl_ok (fun _ h => (by cases h))) nw_class (fun h => by cases h) cxk247
def cxt248 : con := (79, [(2, 1, 1), (0, (-2147483648), 2147483647)], [], [some (0, 0, 1)], [], 5, 400, false)
theorem cxk248 : con_chk (kl bB cxF []) PT bB 198 cxF cxJ cxjo cxP 504 cxt248 = true := fq_chk1 (fq_jn_eq _) rfl (by decide +kernel)   -- X8_addFour
theorem cxo248 : con_ok PT bB 198 cxF cxQ cxt248 := con_chk_ok (fun _ _ h => h) cxpp (kl_ok (fun _ h => (by cases h))) nw_class (fun h => by cases h) cxk248
def cxt249 : con := (84, [(2, 155, 1), (0, 4, 4), (0, 0, 255), (0, 0, 20), (0, 0, 9999), (0, 0, 396)], [], [none], [], 5, 400, false)
theorem cxk249 : con_chk (kl bB cxF []) PT bB 198 cxF cxJ cxjo cxP 440 cxt249 = true := fq_chk1 (fq_jn_eq _) rfl (by decide +kernel)   -- X9_goOn
theorem cxo249 : con_ok PT bB 198 cxF cxQ cxt249 := con_chk_ok (fun _ _ h => h) cxpp (kl_ok (fun _ h => (by cases h))) nw_class (fun h => by cases h) cxk249
def cxt250 : con := (84, [(2, 155, 1), (0, 3, 3), (0, 0, 255), (0, 0, 20), (0, 0, 9999), (0, 0, 297)], [], [none], [], 10, 800, false)
theorem cxk250 : con_chk (kl bB cxF [cxt53, cxt249]) PT bB 198 cxF cxJ cxjo cxP 1323 cxt250 = true := fq_chk1 (fq_jn_eq _) rfl (by decide +kernel)   -- X9_goOn
theorem cxo250 : con_ok PT bB 198 cxF cxQ cxt250 := con_chk_ok (fun _ _ h => h) cxpp (kl_ok (List.forall_mem_cons.mpr ⟨cxo53, List.forall_mem_cons.mpr ⟨cxo249, fun _ h => (by cases h)⟩⟩)) nw_class (fun h => by cases h) cxk250
def cxt251 : con := (84, [(2, 155, 1), (0, 2, 2), (0, 0, 255), (0, 0, 20), (0, 0, 9999), (0, 0, 198)], [], [none], [], 15, 1200, false)
theorem cxk251 : con_chk (kl bB cxF [cxt53, cxt250]) PT bB 198 cxF cxJ cxjo cxP 1323 cxt251 = true := fq_chk1 (fq_jn_eq _) rfl (by decide +kernel)   -- X9_goOn
theorem cxo251 : con_ok PT bB 198 cxF cxQ cxt251 := con_chk_ok (fun _ _ h => h) cxpp (kl_ok (List.forall_mem_cons.mpr ⟨cxo53, List.forall_mem_cons.mpr ⟨cxo250, fun _ h => (by cases h)⟩⟩)) nw_class (fun h => by cases h) cxk251
def cxt252 : con := (84, [(2, 155, 1), (0, 1, 1), (0, 0, 255), (0, 0, 20), (0, 0, 9999), (0, 0, 99)], [], [none], [], 20, 1600, false)
theorem cxk252 : con_chk (kl bB cxF [cxt53, cxt251]) PT bB 198 cxF cxJ cxjo cxP 1323 cxt252 = true := fq_chk1 (fq_jn_eq _) rfl (by decide +kernel)   -- X9_goOn
theorem cxo252 : con_ok PT bB 198 cxF cxQ cxt252 := con_chk_ok (fun _ _ h => h) cxpp (kl_ok (List.forall_mem_cons.mpr ⟨cxo53, List.forall_mem_cons.mpr ⟨cxo251, fun _ h => (by cases h)⟩⟩)) nw_class (fun h => by cases h) cxk252
def cxt253 : con := (84, [(2, 155, 1), (0, 0, 0), (0, 0, 255), (0, 0, 20), (0, 0, 9999), (0, 0, 0)], [], [none], [], 25, 2000, false)
theorem cxk253 : con_chk (kl bB cxF [cxt53, cxt252]) PT bB 198 cxF cxJ cxjo cxP 1323 cxt253 = true := fq_chk1 (fq_jn_eq _) rfl (by decide +kernel)   -- X9_goOn
theorem cxo253 : con_ok PT bB 198 cxF cxQ cxt253 := con_chk_ok (fun _ _ h => h) cxpp (kl_ok (List.forall_mem_cons.mpr ⟨cxo53, List.forall_mem_cons.mpr ⟨cxo252, fun _ h => (by cases h)⟩⟩)) nw_class (fun h => by cases h) cxk253
def cxt254 : con := (83, [(2, 155, 1), (2, 142, 1), (0, 0, 5), (0, 0, 5)], [], [some (0, (-2), 4)], [], 30, 2400, false)
theorem cxk254 : con_chk (kl bB cxF [cxt48, cxt139, cxt253]) PT bB 198 cxF cxJ cxjo cxP 826 cxt254 = true := fq_chk1 (fq_jn_eq _) rfl (by decide +kernel)   -- X9_fewestGifts
theorem cxo254 : con_ok PT bB 198 cxF cxQ cxt254 := con_chk_ok (fun _ _ h => h) cxpp (kl_ok (List.forall_mem_cons.mpr ⟨cxo48, List.forall_mem_cons.mpr ⟨cxo139, List.forall_mem_cons.mpr ⟨cxo253, fun _ h => (by cases h)⟩⟩⟩)) nw_class (fun h => by cases h) cxk254
def cxt255 : con := (83, [(2, 155, 1), (2, 145, 1), (0, 0, 5), (0, 0, 5)], [], [some (0, (-2), 4)], [], 30, 2400, false)
theorem cxk255 : con_chk (kl bB cxF [cxt52, cxt139, cxt253]) PT bB 198 cxF cxJ cxjo cxP 826 cxt255 = true := fq_chk1 (fq_jn_eq _) rfl (by decide +kernel)   -- X9_fewestGifts
theorem cxo255 : con_ok PT bB 198 cxF cxQ cxt255 := con_chk_ok (fun _ _ h => h) cxpp (kl_ok (List.forall_mem_cons.mpr ⟨cxo52, List.forall_mem_cons.mpr ⟨cxo139, List.forall_mem_cons.mpr ⟨cxo253, fun _ h => (by cases h)⟩⟩⟩)) nw_class (fun h => by cases h) cxk255
def cxt256 : con := (9, [(2, 151, 1), (2, 13, 1)], [], [some (0, 0, 1000000)], [], 10, 800, true)
theorem cxk256 : con_chk (kl bB cxF [cxt2]) PT bB 198 cxF cxJ cxjo cxP 495 cxt256 = true := fq_chk1 (fq_jn_eq _) rfl (by decide +kernel)   -- X1_allDues
theorem cxo256 : con_ok PT bB 198 cxF cxQ cxt256 := con_chk_ok (fun _ _ h => h) cxpp (kl_ok (List.forall_mem_cons.mpr ⟨cxo2, fun _ h => (by cases h)⟩)) nw_class (fun _ => by decide) cxk256
end MH47cx09x1
section MH47cx09x2
section MG48segx0
/-! long runs in pieces: a run stops at states that the next piece covers -/
section SEG
variable {T : pm_Tab} {B : Nat → ac} {sz sl : Nat}
def aL_le : List (Option av) → List (Option av) → Bool
  | [], [] => true
  | a :: r, b :: t => (match a, b with
    | _, none => true
    | some a, some b => av_le a b
    | none, some _ => false) && aL_le r t
  | _, _ => false
theorem aL_le_get : ∀ {A A' : List (Option av)}, aL_le A A' = true → A.length = A'.length ∧ ∀ (i : Nat) (b : av), A'[i]? = some (some b) → ∃ a, A[i]? = some (some a) ∧ av_le a b = true
  | [], [], _ => ⟨rfl, fun i b h => by simp at h⟩
  | a :: r, b :: t, e => by
    unfold aL_le at e
    rw [Bool.and_eq_true] at e
    obtain ⟨h1, h2⟩ := aL_le_get e.2
    refine ⟨by simp [h1], fun i c hc => ?_⟩
    match i, hc with
    | 0, hc =>
      have hc : some b = some (some c) := hc
      cases hc
      have e1 := e.1
      cases a with
      | none => cases e1
      | some a => exact ⟨a, rfl, e1⟩
    | i + 1, hc => exact h2 i c hc
  | [], _ :: _, e => by cases e
  | _ :: _, [], e => by cases e
def ast_le (B : Nat → ac) (s t : ast) : Bool := Nat.beq s.1 t.1 && (aL_le s.2.1 t.2.1 && (al_le s.2.2.1 t.2.2.1 && ah_le B s.2.2.2 t.2.2.2))
theorem ast_le_ok {s t : ast} {st : pm_St} (e : ast_le B s t = true) (h : ast_ok B sz sl s st) : ast_ok B sz sl t st := by
  unfold ast_le at e
  rw [Bool.and_eq_true, Bool.and_eq_true, Bool.and_eq_true] at e
  obtain ⟨e1, e2, e3, e4⟩ := e
  obtain ⟨h1, h2, h3, h4, h5⟩ := h
  obtain ⟨l1, l2⟩ := aL_le_get e2
  refine ⟨h1.trans (Nat.eq_of_beq_eq_true e1), ⟨h2.1.trans l1, fun i b hb => ?_⟩, al_le_ok e3 h3, ah_le_ok e4 h4, h5⟩
  obtain ⟨a, ha, hle⟩ := l2 i b hb
  obtain ⟨v, hv, hok⟩ := h2.2 i a ha
  exact ⟨v, hv, av_le_ok hle hok⟩
/-- runs that stop at the states of Z -/
def sg_run (Z : List ast) (K : kn) (T : pm_Tab) (B : Nat → ac) (sz : Nat) (F : fr_F) (J : Nat → ast → ast → Bool) (jo : Nat → ar → ar → Bool) (P : Nat → Nat → List sp) : Nat → Nat → Nat → Nat → List ast → List ar → Option (List ar)
  | 0, _, _, _, _, _ => none
  | n + 1, fr, lo, k, W, R => match W with
    | [] => some R
    | s :: W => cond (Z.any (fun z => ast_le B s z)) (sg_run Z K T B sz F J jo P n fr lo k W R) (match cx_each (cx_one T B sz F (fun fr lo t as o => match K t as o with
        | some (Rc, Fr, Lo) => if Fr ≤ fr ∧ Lo ≤ lo then some Rc else none
        | none => cx_run K T B sz F J jo P n fr lo t [(0, aa_l0 as (pm_max T t), [], o)] []) fr lo k) (sp_all B sz (P k s.1) [s]) with
      | some (A, ss) => sg_run Z K T B sz F J jo P n fr lo k (cx_all B (J k) ss W) (cx_outs B (jo k) A R)
      | none => none)
theorem sg_run_ok {Z : List ast} {F F0 : fr_F} {PP : pm_H → Prop} (hF0 : ∀ h h', fm F0 h h' → fm F h h') (hPP : pp_ok F0 PP) {K : kn} (hK : kn_ok K T B sz F PP) {J : Nat → ast → ast → Bool} {jo : Nat → ar → ar → Bool} {P : Nat → Nat → List sp} : ∀ (n fr lo k : Nat) (W : List ast) (R R' : List ar), sg_run Z K T B sz F0 J jo P n fr lo k W R = some R' → (∀ x, (∃ r, r ∈ R ∧ ar_ok B sz sl r x) → ∃ r, r ∈ R' ∧ ar_ok B sz sl r x) ∧ ∀ st, (∃ s, s ∈ W ∧ ast_ok B sz sl s st) → PP st.2.2.2.1 → ∀ Q : pm_Rs → Prop, (∀ x, (∃ r, r ∈ R' ∧ ar_ok B sz sl r x) → fm F st.2.2.2.1 x.2.1 → PP x.2.1 → Q x) → (∀ st', (∃ z, z ∈ Z ∧ ast_ok B sz sl z st') → fm F st.2.2.2.1 st'.2.2.2.1 → PP st'.2.2.2.1 → pm_WP T fr lo k st' Q) → pm_WP T fr lo k st Q
  | 0, _, _, _, _, _, _, e => by cases e
  | n + 1, fr, lo, k, W, R, R', e => by
    unfold sg_run at e
    match W, e with
    | [], e =>
      cases (Option.some.inj e : R = R')
      exact ⟨fun x h => h, fun st h => by obtain ⟨s, hs, _⟩ := h; cases hs⟩
    | s :: W, e =>
      dsimp only at e
      cases hz : Z.any (fun z => ast_le B s z) with
      | true =>
        rw [hz] at e
        dsimp only [cond] at e
        obtain ⟨i1, i2⟩ := sg_run_ok hF0 hPP hK n fr lo k _ _ R' e
        refine ⟨i1, fun st h hp Q hQ hS => ?_⟩
        obtain ⟨s', hs', hok⟩ := h
        rcases List.mem_cons.mp hs' with rfl | hs'
        · obtain ⟨z, hzm, hzl⟩ := List.any_eq_true.mp hz
          exact hS st ⟨z, hzm, ast_le_ok hzl hok⟩ (fm_rf _) hp
        · exact i2 st ⟨s', hs', hok⟩ hp Q hQ hS
      | false =>
        rw [hz] at e
        dsimp only [cond] at e
        split at e
        · rename_i A ss es
          obtain ⟨i1, i2⟩ := sg_run_ok hF0 hPP hK n fr lo k _ _ R' e
          refine ⟨fun x h => i1 x (cx_outs_ok (Or.inr h)), fun st h hp Q hQ hS => ?_⟩
          obtain ⟨s', hs', hok⟩ := h
          rcases List.mem_cons.mp hs' with rfl | hs'
          · obtain ⟨t, ht, htok⟩ := sp_all_ok (P k s'.1) [s'] ⟨s', List.mem_singleton_self _, hok⟩
            rcases cx_each_mem es t ht with ⟨a, h1, h2⟩ | ⟨st2, h1, h2⟩
            · unfold cx_one at h1
              split at h1
              · rename_i r ee
                cases h1
                obtain ⟨q, e1, e2⟩ := aE_end_ok ee htok
                have hh : q.2.1 = st.2.2.2.1 := by
                  unfold pm_end at e1
                  split at e1
                  · cases e1
                  · split at e1
                    · split at e1
                      · cases e1; rfl
                      · cases e1
                    · cases e1
                refine wp_end e1 (hQ q (i1 q (cx_outs_ok (Or.inl ⟨_, h2, e2⟩))) ?_ ?_)
                · rw [hh]; exact fm_rf _
                · rw [hh]; exact hp
              · split at h1
                · cases h1
                · cases h1
            · unfold cx_one at h1
              split at h1
              · cases h1
              · split at h1
                · rename_i ss2 ee
                  cases h1
                  refine cx_step_ok hF0 hPP ?_ ee htok hp (fun st' hst' hf' hp' => ?_)
                  · intro fr lo t as o Rc ego As h hAs hh hph
                    split at ego
                    · rename_i Rc' Fr Lo ek
                      split at ego
                      · rename_i hfl
                        cases ego
                        exact hK t as o Rc Fr Lo ek As h fr lo sl hAs hh hph hfl.1 hfl.2
                      · cases ego
                    · exact (cx_run_ok hF0 hPP hK n fr lo t _ [] Rc ego).2 _ ⟨_, List.mem_singleton_self _, rfl, al_l0 hAs _, trivial, hh, rfl, rfl⟩ hph
                  · obtain ⟨u, hu, huok⟩ := hst'
                    exact i2 st' (cx_all_ok (Or.inl ⟨u, h2 u hu, huok⟩)) hp' Q (fun x hx hfx => hQ x hx (fm_tr hf' hfx)) (fun st2 hz2 hf2 => hS st2 hz2 (fm_tr hf' hf2))
                · cases h1
          · exact i2 st (cx_all_ok (Or.inr ⟨s', hs', hok⟩)) hp Q hQ hS
        · cases e
/-- from the states of W the method ends as the contract says -/
def seg_ok (T : pm_Tab) (B : Nat → ac) (sz : Nat) (F : fr_F) (PP : pm_H → Prop) (c : con) (W : List ast) : Prop := ∀ (st : pm_St) (fr lo sl : Nat), (∃ s, s ∈ W ∧ ast_ok B sz sl s st) → PP st.2.2.2.1 → c.2.2.2.2.2.1 ≤ fr → c.2.2.2.2.2.2.1 ≤ lo → pm_WP T fr lo c.1 st (fun x => (∃ a, a ∈ c.2.2.2.1 ∧ ao_ok x.1 a) ∧ x.2.2 = (sz, sl) ∧ (fm F st.2.2.2.1 x.2.1 ∧ PP x.2.1) ∧ ah_ok B sz c.2.2.2.2.1 x.2.1)
def seg_chk (Z : List ast) (K : kn) (T : pm_Tab) (B : Nat → ac) (sz : Nat) (F : fr_F) (J : Nat → ast → ast → Bool) (jo : Nat → ar → ar → Bool) (P : Nat → Nat → List sp) (n : Nat) (c : con) (W : List ast) : Bool := match sg_run Z K T B sz F J jo P n c.2.2.2.2.2.1 c.2.2.2.2.2.2.1 c.1 W [] with
  | some R => R.all (fun r => c.2.2.2.1.any (fun a => ao_le r.1 a) && ah_le B r.2 c.2.2.2.2.1)
  | none => false
theorem seg_nil {F : fr_F} {PP : pm_H → Prop} {c : con} : seg_ok T B sz F PP c [] := fun st fr lo sl h => by obtain ⟨s, hs, _⟩ := h; cases hs
theorem seg_chk_ok {F F0 : fr_F} {PP : pm_H → Prop} (hF0 : ∀ h h', fm F0 h h' → fm F h h') (hPP : pp_ok F0 PP) {K : kn} (hK : kn_ok K T B sz F PP) {J : Nat → ast → ast → Bool} {jo : Nat → ar → ar → Bool} {P : Nat → Nat → List sp} {n : Nat} {c : con} {Z W : List ast} (hZ : seg_ok T B sz F PP c Z) (e : seg_chk Z K T B sz F0 J jo P n c W = true) : seg_ok T B sz F PP c W := by
  intro st fr lo sl hst hp hF hL
  unfold seg_chk at e
  split at e
  · rename_i R eR
    refine wp_room hF hL ?_
    refine (sg_run_ok (sl := sl) hF0 hPP hK n _ _ c.1 W [] R eR).2 st hst hp _ (fun x hx hfx hpx => ?_) (fun st' hz hf' hp' => ?_)
    · obtain ⟨r, hr, q1, q2, q3, q4⟩ := hx
      have er := List.all_eq_true.mp e r hr
      rw [Bool.and_eq_true] at er
      obtain ⟨a, ha, hle⟩ := List.any_eq_true.mp er.1
      exact ⟨⟨a, ha, ao_le_ok hle q1⟩, Prod.ext q3 q4, ⟨hfx, hpx⟩, ah_le_ok er.2 q2⟩
    · exact wp_mono (hZ st' _ _ sl hz hp' (Nat.le_refl _) (Nat.le_refl _)) (fun x hx => ⟨hx.1, hx.2.1, ⟨fm_tr hf' hx.2.2.1.1, hx.2.2.1.2⟩, hx.2.2.2⟩)
  · cases e
/-- the contract, out of the pieces -/
theorem seg_con {F : fr_F} {PP : pm_H → Prop} {c : con} (hk : c.2.2.2.2.2.2.2 = false) {ps : List sp} (h : seg_ok T B sz F PP c (sp_all B sz ps [(0, aa_l0 c.2.1 (pm_max T c.1), [], c.2.2.1)])) : con_ok T B sz F PP c := by
  intro As h' fr lo sl hAs hh hp hF hL
  obtain ⟨t, ht, htok⟩ := sp_all_ok (B := B) (sz := sz) (sl := sl) (st := (0, pm_l0 As (pm_max T c.1), [], h', sz, sl)) ps [(0, aa_l0 c.2.1 (pm_max T c.1), [], c.2.2.1)] ⟨_, List.mem_singleton_self _, rfl, al_l0 hAs _, trivial, hh, rfl, rfl⟩
  refine wp_mono (h _ fr lo sl ⟨t, ht, htok⟩ hp hF hL) (fun x hx => ⟨hx.1, hx.2.1, hx.2.2.1, ?_⟩)
  rw [hk]
  exact hx.2.2.2
theorem seg_split {F : fr_F} {PP : pm_H → Prop} {c : con} {l : List ast} (n : Nat) (h1 : seg_ok T B sz F PP c (l.take n)) (h2 : seg_ok T B sz F PP c (l.drop n)) : seg_ok T B sz F PP c l := by
  intro st fr lo sl hst hp hF hL
  obtain ⟨s, hs, hok⟩ := hst
  rw [← List.take_append_drop n l] at hs
  rcases List.mem_append.mp hs with hs | hs
  · exact h1 st fr lo sl ⟨s, hs, hok⟩ hp hF hL
  · exact h2 st fr lo sl ⟨s, hs, hok⟩ hp hF hL
theorem seg_sub {F : fr_F} {PP : pm_H → Prop} {c : con} {l l' : List ast} (h : seg_ok T B sz F PP c l') (hs : l.all (fun s => l'.any (fun t => ast_le B s t)) = true) : seg_ok T B sz F PP c l := by
  intro st fr lo sl hst hp hF hL
  obtain ⟨s, hs1, hok⟩ := hst
  obtain ⟨t, ht, hle⟩ := List.any_eq_true.mp (List.all_eq_true.mp hs s hs1)
  exact h st fr lo sl ⟨t, ht, ast_le_ok hle hok⟩ hp hF hL
end SEG
end MG48segx0
section MG48segx1
/-! long runs in pieces, quicker -/
section SGF
variable {T : pm_Tab} {B : Nat → ac} {sz : Nat} {F : fr_F}
noncomputable def fq_aLle (as bs : List (Option av)) : Bool := List.rec (motive := fun _ => List (Option av) → Bool) (fun bs => List.rec (motive := fun _ => Bool) true (fun _ _ _ => false) bs) (fun a _ ih bs => List.rec (motive := fun _ => Bool) false (fun b t _ => Bool.rec (motive := fun _ => Bool) false (ih t) (Option.rec (motive := fun _ => Bool) true (fun b => Option.rec (motive := fun _ => Bool) false (fun a => fq_avle a b) a) b)) bs) as bs
theorem fq_aLle_eq : ∀ as bs : List (Option av), fq_aLle as bs = aL_le as bs
  | [], [] => rfl
  | [], _ :: _ => rfl
  | _ :: _, [] => rfl
  | a :: r, b :: t => by
    have h := fq_aLle_eq r t
    unfold aL_le
    rw [← h]
    show Bool.rec (motive := fun _ => Bool) false (fq_aLle r t) (Option.rec (motive := fun _ => Bool) true (fun b => Option.rec (motive := fun _ => Bool) false (fun a => fq_avle a b) a) b) = _
    cases b with
    | none => cases a <;> rfl
    | some b =>
      cases a with
      | none => rfl
      | some a =>
        show Bool.rec (motive := fun _ => Bool) false (fq_aLle r t) (fq_avle a b) = (av_le a b && fq_aLle r t)
        rw [fq_avle_eq]
        cases av_le a b <;> rfl
noncomputable def fq_astle (B : Nat → ac) (s t : ast) : Bool := fq_and (Nat.beq s.1 t.1) (fq_and (fq_aLle s.2.1 t.2.1) (fq_and (fq_alle s.2.2.1 t.2.2.1) (fq_ahle B s.2.2.2 t.2.2.2)))
theorem fq_astle_eq (s t : ast) : fq_astle B s t = ast_le B s t := by
  unfold fq_astle ast_le
  rw [fq_and_eq, fq_and_eq, fq_and_eq, fq_aLle_eq, fq_alle_eq, fq_ahle_eq]
noncomputable def fq_sg (Z : List ast) (K : kn) (T : pm_Tab) (B : Nat → ac) (sz : Nat) (F : fr_F) (J : Nat → ast → ast → Bool) (jo : Nat → ar → ar → Bool) (P : Nat → Nat → List sp) (n : Nat) : Nat → Nat → Nat → List ast → List ar → Option (List ar) := Nat.rec (motive := fun _ => Nat → Nat → Nat → List ast → List ar → Option (List ar)) (fun _ _ _ _ _ => none) (fun n ih fr lo k W R => List.rec (motive := fun _ => Option (List ar)) (some R) (fun s W _ => Bool.rec (motive := fun _ => Option (List ar)) (Option.rec (motive := fun _ => Option (List ar)) none (fun p => fq_k B J jo ih fr lo k W R p) (fq_each (fq_one T B sz F (fq_go K T (fq_run K T B sz F J jo P n)) fr lo k) (fq_cut B sz s (fq_n s.1 (P k))))) (fq_t ih fr lo k W R) (fq_any (fun z => fq_astle B s z) Z)) W) n
theorem fq_sg_eq (Z : List ast) (K : kn) (T : pm_Tab) (B : Nat → ac) (sz : Nat) (F : fr_F) (J : Nat → ast → ast → Bool) (jo : Nat → ar → ar → Bool) (P : Nat → Nat → List sp) : ∀ n : Nat, fq_sg Z K T B sz F J jo P n = sg_run Z K T B sz F J jo P n
  | 0 => by
    funext fr lo k W R
    unfold sg_run
    rfl
  | n + 1 => by
    have h := fq_sg_eq Z K T B sz F J jo P n
    funext fr lo k W R
    unfold sg_run
    show List.rec (motive := fun _ => Option (List ar)) (some R) (fun s W _ => Bool.rec (motive := fun _ => Option (List ar)) (Option.rec (motive := fun _ => Option (List ar)) none (fun p => fq_k B J jo (fq_sg Z K T B sz F J jo P n) fr lo k W R p) (fq_each (fq_one T B sz F (fq_go K T (fq_run K T B sz F J jo P n)) fr lo k) (fq_cut B sz s (fq_n s.1 (P k))))) (fq_t (fq_sg Z K T B sz F J jo P n) fr lo k W R) (fq_any (fun z => fq_astle B s z) Z)) W = _
    cases W with
    | nil => rfl
    | cons s W =>
      dsimp only
      have hf : fq_one T B sz F (fq_go K T (fq_run K T B sz F J jo P n)) fr lo k = cx_one T B sz F (fun fr lo t as o => match K t as o with
          | some (Rc, Fr, Lo) => if Fr ≤ fr ∧ Lo ≤ lo then some Rc else none
          | none => cx_run K T B sz F J jo P n fr lo t [(0, aa_l0 as (pm_max T t), [], o)] []) fr lo k := by
        funext s
        rw [fq_one_eq, fq_go_eq (fq_run_eq K T B sz F J jo P n)]
        rfl
      have hz : (fun z => fq_astle B s z) = fun z => ast_le B s z := funext fun z => fq_astle_eq s z
      rw [hf, fq_each_eq, fq_cut_eq, fq_n_eq, h, fq_any_eq, hz]
      cases Z.any (fun z => ast_le B s z) with
      | true => rfl
      | false =>
        dsimp only [cond]
        cases cx_each (cx_one T B sz F (fun fr lo t as o => match K t as o with
            | some (Rc, Fr, Lo) => if Fr ≤ fr ∧ Lo ≤ lo then some Rc else none
            | none => cx_run K T B sz F J jo P n fr lo t [(0, aa_l0 as (pm_max T t), [], o)] []) fr lo k) (sp_all B sz (P k s.1) [s]) with
        | none => rfl
        | some p =>
          obtain ⟨A, ss⟩ := p
          exact fq_k_eq J jo _ fr lo k W R A ss
variable {K K' : kn} {J : Nat → ast → ast → Bool} {jo : Nat → ar → ar → Bool} {P : Nat → Nat → List sp} {n : Nat} {c : con} {l : List con} {Z W : List ast}
noncomputable def fq_fin2 (B : Nat → ac) (c : con) (R : Option (List ar)) : Bool := Option.rec (motive := fun _ => Bool) false (fun R => fq_all (fun r => fq_and (c.2.2.2.1.any (fun a => ao_le r.1 a)) (fq_ahle B r.2 c.2.2.2.2.1)) R) R
theorem fq_fin2_eq (c : con) (R : Option (List ar)) : fq_fin2 B c R = (match R with
    | some R => R.all (fun r => c.2.2.2.1.any (fun a => ao_le r.1 a) && ah_le B r.2 c.2.2.2.2.1)
    | none => false) := by
  cases R with
  | none => rfl
  | some R =>
    show fq_all (fun r => fq_and (c.2.2.2.1.any (fun a => ao_le r.1 a)) (fq_ahle B r.2 c.2.2.2.2.1)) R = _
    rw [fq_all_eq]
    have h : (fun r : ar => fq_and (c.2.2.2.1.any (fun a => ao_le r.1 a)) (fq_ahle B r.2 c.2.2.2.2.1)) = fun r => c.2.2.2.1.any (fun a => ao_le r.1 a) && ah_le B r.2 c.2.2.2.2.1 := funext fun r => by
      rw [fq_and_eq, fq_ahle_eq]
    rw [h]
noncomputable def fq_seg (Z : List ast) (K : kn) (T : pm_Tab) (B : Nat → ac) (sz : Nat) (F : fr_F) (J : Nat → ast → ast → Bool) (jo : Nat → ar → ar → Bool) (P : Nat → Nat → List sp) (n : Nat) (c : con) (W : List ast) : Bool := fq_fin2 B c (fq_sg Z K T B sz F J jo P n c.2.2.2.2.2.1 c.2.2.2.2.2.2.1 c.1 W [])
variable {J' : Nat → ast → ast → Bool} {jo' : Nat → ar → ar → Bool}
theorem fq_seg_eq (hK : K = K') (hJ : J = J') (ho : jo = jo') (h : fq_seg Z K T B sz F J jo P n c W = true) : seg_chk Z K' T B sz F J' jo' P n c W = true := by
  subst hK
  subst hJ
  subst ho
  unfold fq_seg at h
  rw [fq_fin2_eq, fq_sg_eq] at h
  exact h
theorem fq_seg1 (hJ : J = J') (ho : jo = jo') (h : fq_seg Z (fq_kl B F l) T B sz F J jo P n c W = true) : seg_chk Z (kl B F l) T B sz F J' jo' P n c W = true := fq_seg_eq (fq_kl_eq l) hJ ho h
theorem fq_seg2 {F' : fr_F} (hJ : J = J') (ho : jo = jo') (h : fq_seg Z (fq_or (fq_kl B F' l) K) T B sz F J jo P n c W = true) : seg_chk Z (kn_or (kl B F' l) K) T B sz F J' jo' P n c W = true := fq_seg_eq (fq_or_eq (fq_kl_eq l)) hJ ho h
theorem fq_seg3 (hJ : J = J') (ho : jo = jo') (h : fq_seg Z K T B sz F J jo P n c W = true) : seg_chk Z K T B sz F J' jo' P n c W = true := fq_seg_eq rfl hJ ho h
end SGF
end MG48segx1
end MH47cx09x2
section MH47cx09x3
/-! contracts in pieces -/
def cxt169 : con := (50, [(2, 148, 1), (0, 0, 5), (0, 0, 5), (0, (-2147483648), 2147483647), (0, (-2147483648), 2147483647)], [], [some (0, (-2), 99)], [], 10, 800, false)
def cxz169_1 : List ast := [(38, [some (2, 148, 1), some (0, 0, 5), some (0, 0, 5), some (0, (-2147483648), 2147483647), some (0, (-2147483648), 2147483647), some (0, 20, 20), none], [], [])]
def cxz169_2 : List ast := [(38, [some (2, 148, 1), some (0, 0, 5), some (0, 0, 5), some (0, (-2147483648), 2147483647), some (0, (-2147483648), 2147483647), some (0, 40, 40), none], [], [])]
def cxz169_3 : List ast := [(38, [some (2, 148, 1), some (0, 0, 5), some (0, 0, 5), some (0, (-2147483648), 2147483647), some (0, (-2147483648), 2147483647), some (0, 60, 60), none], [], [])]
def cxz169_4 : List ast := [(38, [some (2, 148, 1), some (0, 0, 5), some (0, 0, 5), some (0, (-2147483648), 2147483647), some (0, (-2147483648), 2147483647), some (0, 80, 80), none], [], [])]
theorem cxs169_4 : seg_chk [] (kl bB cxF [cxt159, cxt160, cxt161, cxt162, cxt163, cxt164, cxt165, cxt166, cxt167, cxt168]) PT bB 198 cxF cxJ cxjo cxP 17719 cxt169 cxz169_4 = true := fq_seg1 (fq_jn_eq _) rfl (by decide +kernel)
theorem cxs169_3 : seg_chk cxz169_4 (kl bB cxF [cxt159, cxt160, cxt161, cxt162, cxt163, cxt164, cxt165, cxt166, cxt167, cxt168]) PT bB 198 cxF cxJ cxjo cxP 17719 cxt169 cxz169_3 = true := fq_seg1 (fq_jn_eq _) rfl (by decide +kernel)
theorem cxs169_2 : seg_chk cxz169_3 (kl bB cxF [cxt159, cxt160, cxt161, cxt162, cxt163, cxt164, cxt165, cxt166, cxt167, cxt168]) PT bB 198 cxF cxJ cxjo cxP 17719 cxt169 cxz169_2 = true := fq_seg1 (fq_jn_eq _) rfl (by decide +kernel)
theorem cxs169_1 : seg_chk cxz169_2 (kl bB cxF [cxt159, cxt160, cxt161, cxt162, cxt163, cxt164, cxt165, cxt166, cxt167, cxt168]) PT bB 198 cxF cxJ cxjo cxP 17719 cxt169 cxz169_1 = true := fq_seg1 (fq_jn_eq _) rfl (by decide +kernel)
theorem cxs169_0 : seg_chk cxz169_1 (kl bB cxF [cxt159, cxt160, cxt161, cxt162, cxt163, cxt164, cxt165, cxt166, cxt167, cxt168]) PT bB 198 cxF cxJ cxjo cxP 17719 cxt169 (sp_all bB 198 [] [(0, aa_l0 cxt169.2.1 (pm_max PT cxt169.1), [], cxt169.2.2.1)]) = true := fq_seg1 (fq_jn_eq _) rfl (by decide +kernel)
theorem cxo169 : con_ok PT bB 198 cxF cxQ cxt169 := seg_con rfl (ps := []) (seg_chk_ok (fun _ _ h => h) cxpp (kl_ok (List.forall_mem_cons.mpr ⟨cxo159, List.forall_mem_cons.mpr ⟨cxo160, List.forall_mem_cons.mpr ⟨cxo161, List.forall_mem_cons.mpr ⟨cxo162, List.forall_mem_cons.mpr ⟨cxo163, List.forall_mem_cons.mpr ⟨cxo164, List.forall_mem_cons.mpr ⟨cxo165, List.forall_mem_cons.mpr ⟨cxo166, List.forall_mem_cons.mpr ⟨cxo167, List.forall_mem_cons.mpr ⟨cxo168, fun _ h => (by cases h)⟩⟩⟩⟩⟩⟩⟩⟩⟩⟩)) (seg_chk_ok (fun _ _ h => h) cxpp (kl_ok (List.forall_mem_cons.mpr ⟨cxo159, List.forall_mem_cons.mpr ⟨cxo160, List.forall_mem_cons.mpr ⟨cxo161, List.forall_mem_cons.mpr ⟨cxo162, List.forall_mem_cons.mpr ⟨cxo163, List.forall_mem_cons.mpr ⟨cxo164, List.forall_mem_cons.mpr ⟨cxo165, List.forall_mem_cons.mpr ⟨cxo166, List.forall_mem_cons.mpr ⟨cxo167, List.forall_mem_cons.mpr ⟨cxo168, fun _ h => (by cases h)⟩⟩⟩⟩⟩⟩⟩⟩⟩⟩)) (seg_chk_ok (fun _ _ h => h) cxpp (kl_ok (List.forall_mem_cons.mpr ⟨cxo159, List.forall_mem_cons.mpr ⟨cxo160, List.forall_mem_cons.mpr ⟨cxo161, List.forall_mem_cons.mpr ⟨cxo162, List.forall_mem_cons.mpr ⟨cxo163, List.forall_mem_cons.mpr ⟨cxo164, List.forall_mem_cons.mpr ⟨cxo165, List.forall_mem_cons.mpr ⟨cxo166, List.forall_mem_cons.mpr ⟨cxo167, List.forall_mem_cons.mpr ⟨cxo168, fun _ h => (by cases h)⟩⟩⟩⟩⟩⟩⟩⟩⟩⟩)) (seg_chk_ok (fun _ _ h => h) cxpp (kl_ok (List.forall_mem_cons.mpr ⟨cxo159, List.forall_mem_cons.mpr ⟨cxo160, List.forall_mem_cons.mpr ⟨cxo161, List.forall_mem_cons.mpr ⟨cxo162, List.forall_mem_cons.mpr ⟨cxo163, List.forall_mem_cons.mpr ⟨cxo164, List.forall_mem_cons.mpr ⟨cxo165, List.forall_mem_cons.mpr ⟨cxo166, List.forall_mem_cons.mpr ⟨cxo167, List.forall_mem_cons.mpr ⟨cxo168, fun _ h => (by cases h)⟩⟩⟩⟩⟩⟩⟩⟩⟩⟩)) (seg_chk_ok (fun _ _ h => h) cxpp (kl_ok (List.forall_mem_cons.mpr ⟨cxo159, List.forall_mem_cons.mpr ⟨cxo160, List.forall_mem_cons.mpr ⟨cxo161, List.forall_mem_cons.mpr ⟨cxo162, List.forall_mem_cons.mpr ⟨cxo163, List.forall_mem_cons.mpr ⟨cxo164, List.forall_mem_cons.mpr ⟨cxo165, List.forall_mem_cons.mpr ⟨cxo166, List.forall_mem_cons.mpr ⟨cxo167, List.forall_mem_cons.mpr ⟨cxo168, fun _ h => (by cases h)⟩⟩⟩⟩⟩⟩⟩⟩⟩⟩)) seg_nil cxs169_4) cxs169_3) cxs169_2) cxs169_1) cxs169_0)
end MH47cx09x3
section MH47cx09x4
section MG49cxr00x0
/-! the calls themselves -/
def cxPL2 : List (List (Nat × List (Nat × List sp))) := [[(1, [(0, [(1, 0, 0, 0, [11])])]), (2, [(32, [(0, 1, 0, 0, [(-1)])]), (36, [(0, 1, 0, 0, [4])]), (47, [(0, 1, 0, 0, [0])]), (52, [(0, 1, 0, 0, [99])]), (64, [(0, 1, 0, 0, [(-1)])]), (68, [(0, 1, 0, 0, [5])]), (80, [(0, 1, 0, 0, [(-1), 0])]), (84, [(0, 1, 0, 0, [0, 1])])]), (3, [(4, [(0, 3, 0, 0, [(-1), 7])]), (18, [(3, 1, 0, 0, [])])]), (4, [(2, [(0, 3, 0, 0, [(-1), 11])]), (25, [(3, 3, 0, 0, [])])]), (5, [(72, [(3, 2, 0, 0, [])]), (78, [(3, 1, 0, 0, [])]), (81, [(0, 4, 0, 0, [0, 1])])]), (7, [(5, [(0, 4, 0, 0, [(-1), 5])])]), (8, [(5, [(0, 4, 0, 0, [(-1), 5])])]), (9, [(4, [(0, 3, 0, 0, [(-1), 5])]), (19, [(3, 1, 0, 0, [])])]), (10, [(4, [(0, 3, 0, 0, [(-1), 5])]), (18, [(3, 1, 0, 0, [])]), (24, [(3, 1, 0, 0, [])]), (30, [(0, 4, 0, 0, [(-1), 0])])]), (11, [(89, [(0, 4, 0, 0, [(-1), 0])])]), (12, [(2, [(0, 2, 0, 0, [0, 6])]), (15, [(0, 3, 0, 0, [(-1), 5])]), (40, [(3, 3, 0, 0, [])])]), (13, [(63, [(0, 6, 0, 0, [(-1), 5])]), (121, [(3, 3, 0, 0, [])])]), (14, [(7, [(0, 4, 0, 0, [(-1), 0, 1, 2, 3, 4, 5]), (0, 2, 0, 0, [0, 1, 2, 3, 4, 5])]), (24, [(0, 2, 0, 0, [1, 2, 3, 4, 5])])])], [(16, [(14, [(3, 1, 0, 0, []), (3, 0, 0, 0, [])])]), (17, [(0, [(1, 0, 2, 0, [14])])]), (18, [(2, [(3, 0, 0, 0, [])])]), (19, [(0, [(1, 0, 2, 0, [(-1), 0])]), (33, [(3, 1, 0, 0, []), (3, 0, 0, 0, [])])]), (23, [(4, [(0, 1, 0, 0, [(-1), 5])])]), (24, [(16, [(0, 1, 0, 0, [(-1), 5])])]), (25, [(4, [(0, 1, 0, 0, [(-1), 7])])]), (29, [(5, [(0, 4, 0, 0, [(-1), 7])])]), (30, [(5, [(0, 4, 0, 0, [(-1), 7])]), (18, [(3, 2, 0, 0, [])])]), (31, [(5, [(0, 4, 0, 0, [(-1), 5])]), (53, [(0, 4, 0, 0, [(-1), 0, 1, 2, 3, 5]), (0, 2, 0, 0, [(-1), 0, 1, 2, 3, 4])]), (59, [(0, 5, 0, 0, [(-1), 0])])])], [(32, [(5, [(0, 4, 0, 0, [(-1), 5])]), (49, [(0, 4, 0, 0, [(-1), 0, 1, 2, 3, 5]), (0, 2, 0, 0, [(-1), 0, 1, 2, 3, 4])]), (55, [(0, 5, 0, 0, [(-1), 0])])]), (33, [(4, [(0, 3, 0, 0, [(-1), 5])]), (16, [(3, 1, 0, 0, [])])]), (34, [(4, [(0, 3, 0, 0, [(-1), 5])]), (16, [(3, 1, 0, 0, [])])]), (35, [(4, [(0, 2, 0, 0, [(-1), 5])]), (16, [(0, 3, 0, 0, [(-1), 5])])]), (36, [(4, [(0, 3, 0, 0, [(-1), 5])])]), (37, [(5, [(0, 4, 0, 0, [(-1), 5])]), (14, [(0, 4, 0, 0, [(-1), 0, 1, 2, 3, 5]), (0, 2, 0, 0, [(-1), 0, 1, 2, 3, 4])])]), (38, [(4, [(0, 3, 0, 0, [(-1), 5])]), (16, [(3, 1, 0, 0, [])])]), (39, [(95, [(3, 1, 0, 0, [])]), (112, [(3, 0, 0, 0, []), (3, 1, 0, 0, [])])]), (40, [(36, [(3, 4, 0, 0, [])]), (66, [(3, 2, 0, 0, [])])]), (41, [(22, [(3, 1, 0, 0, [])])]), (42, [(2, [(0, 2, 0, 0, [(-1), 5])]), (13, [(3, 1, 0, 0, [])])]), (43, [(25, [(0, 4, 0, 0, [(-1), 7])]), (49, [(3, 1, 0, 0, [])])]), (44, [(18, [(3, 1, 0, 0, [])])]), (46, [(2, [(0, 3, 0, 0, [(-1), 5])]), (18, [(0, 3, 0, 0, [(-1), 0, 1, 2, 3, 5]), (0, 2, 0, 0, [(-1), 0, 1, 2, 3, 4])]), (39, [(0, 3, 0, 0, [(-1), 5])]), (53, [(0, 4, 0, 0, [(-1), 5])])]), (47, [(2, [(0, 2, 0, 0, [(-1), 5])]), (27, [(0, 3, 0, 0, [0])])])], [(49, [(2, [(0, 2, 0, 0, [(-1), 5])]), (27, [(0, 3, 0, 0, [0])])]), (50, [(66, [(0, 6, 0, 0, [(-1), 5])]), (86, [(3, 3, 0, 0, [90, 91, 92, 93, 94, 95, 96, 97, 98])])]), (51, [(13, [(0, 5, 0, 0, [(-1)])]), (22, [(0, 6, 0, 0, [(-1), 5])]), (50, [(0, 7, 0, 0, [0])]), (55, [(0, 7, 0, 0, [0, 1, 2, 3, 4, 5, 6, 7, 8])])]), (54, [(0, [(1, 0, 1, 0, [7])])]), (58, [(0, [(2, 0, 4, 1, [(-1), 0])]), (11, [(3, 0, 0, 0, [])]), (29, [(3, 2, 0, 0, [])]), (55, [(0, 1, 0, 0, [(-1), 0])])]), (59, [(8, [(3, 1, 0, 0, [])]), (14, [(3, 1, 0, 0, [])]), (20, [(3, 1, 0, 0, [])]), (25, [(3, 1, 0, 0, [])]), (31, [(3, 1, 0, 0, [])])]), (60, [(0, [(1, 0, 1, 0, [39])])]), (62, [(7, [(3, 1, 0, 0, [])]), (16, [(3, 2, 0, 0, [])]), (45, [(3, 0, 0, 0, [])]), (56, [(3, 0, 0, 0, [])]), (76, [(3, 2, 0, 0, [])]), (88, [(3, 1, 0, 0, [])])])], [(64, [(11, [(3, 0, 0, 0, [])]), (47, [(3, 1, 0, 0, [])]), (55, [(0, 2, 0, 0, [(-1), 0])]), (62, [(3, 1, 0, 0, [])])]), (65, [(1, [(3, 0, 0, 0, [])]), (5, [(0, 2, 0, 0, [47])]), (11, [(0, 2, 0, 0, [57])]), (18, [(3, 0, 0, 0, [])]), (33, [(3, 1, 0, 0, [])]), (48, [(0, 2, 0, 0, [39, 40])]), (76, [(3, 2, 0, 0, [])]), (83, [(3, 0, 0, 0, [])])]), (66, [(23, [(0, 2, 0, 0, [(-1)])]), (66, [(3, 1, 0, 0, [])])]), (68, [(7, [(0, 2, 0, 0, [(-1), 39])]), (42, [(3, 1, 0, 0, [])]), (48, [(0, 3, 0, 0, [(-1)])]), (62, [(3, 1, 0, 0, [])]), (81, [(3, 0, 0, 0, [])]), (85, [(3, 1, 0, 0, [])]), (92, [(3, 0, 0, 0, [])]), (98, [(3, 0, 0, 0, [])]), (118, [(3, 1, 0, 0, [])]), (128, [(3, 0, 0, 0, [])])]), (69, [(0, [(1, 0, 3, 0, [39])])]), (70, [(0, [(1, 0, 3, 0, [0])])]), (71, [(60, [(0, 1, 0, 0, [(-2147483649), 2147483646])]), (71, [(0, 1, 0, 0, [(-2147483648), 2147483647])]), (82, [(0, 1, 0, 0, [(-2147483649), 2147483647])]), (105, [(0, 2, 0, 0, [(-1), 0])])]), (76, [(3, [(3, 2, 0, 0, [])]), (11, [(3, 1, 0, 0, [])])]), (77, [(3, [(3, 2, 0, 0, [])]), (14, [(3, 1, 0, 0, [])]), (23, [(0, 3, 0, 0, [0])])]), (79, [(0, [(1, 0, 1, 0, [76])])])], [(80, [(0, [(0, 1, 0, 0, [(-1)])]), (4, [(0, 1, 0, 0, [(-1), 79])]), (12, [(0, 1, 0, 0, [39, 59])])]), (81, [(7, [(0, 3, 0, 0, [47])]), (13, [(0, 3, 0, 0, [57])])]), (83, [(14, [(3, 1, 0, 0, [])]), (22, [(0, 5, 0, 0, [(-1), 7])]), (52, [(3, 3, 0, 0, []), (3, 2, 0, 0, [])]), (116, [(1, 0, 7, 0, [(-1)])])]), (84, [(0, [(0, 1, 0, 0, [(-1), 3])]), (13, [(1, 0, 7, 0, [(-1)])]), (20, [(0, 5, 0, 0, [(-2), (-1), 510])]), (36, [(0, 3, 0, 0, [14])]), (42, [(0, 6, 0, 0, [(-1), 0])]), (71, [(0, 6, 0, 0, [(-1), 7])]), (120, [(3, 4, 0, 0, [])]), (141, [(3, 2, 0, 0, [])])]), (87, [(0, [(0, 1, 0, 0, [(-1)])]), (4, [(0, 1, 0, 0, [0, 80])])]), (88, [(13, [(0, 1, 0, 0, [0])]), (19, [(0, 2, 0, 0, [(-44), 0, 1, 2, 3, 4, 5]), (0, 1, 0, 0, [0, 1, 2, 3, 4, 5])])]), (89, [(13, [(0, 1, 0, 0, [0])])]), (90, [(4, [(3, 0, 0, 0, [])]), (16, [(0, 1, 0, 0, [(-1)])])]), (91, [(19, [(0, 2, 0, 0, [9])]), (25, [(0, 2, 0, 0, [14])]), (113, [(3, 1, 0, 0, [])]), (126, [(3, 1, 0, 0, [])]), (139, [(3, 1, 0, 0, [])]), (152, [(3, 1, 0, 0, [])])]), (93, [(115, [(3, 1, 0, 0, [])])]), (94, [(12, [(0, 3, 0, 0, [(-1)])]), (16, [(0, 3, 0, 0, [9])])]), (95, [(0, [(0, 1, 0, 0, [(-1)])]), (4, [(0, 1, 0, 0, [3])]), (9, [(0, 2, 0, 0, [6])]), (17, [(0, 1, 0, 0, [2, 3])]), (29, [(0, 5, 0, 0, [(-1), 0])]), (34, [(0, 2, 0, 0, [(-1)])]), (44, [(0, 6, 0, 0, [(-1), 5])]), (56, [(0, 5, 0, 0, [(-1), 0])]), (61, [(0, 6, 0, 0, [(-2147483649), 0, 1, 2, 3, 4, 2147483646]), (0, 2, 0, 0, [0, 1, 2, 3, 4, 5])]), (83, [(0, 7, 0, 0, [(-1), 0])]), (116, [(0, 5, 0, 0, [(-1), 0])]), (134, [(3, 0, 0, 0, [])])])], [(96, [(7, [(0, 3, 0, 0, [(-1)])]), (21, [(3, 0, 0, 0, [])]), (49, [(3, 3, 0, 0, []), (3, 2, 0, 0, [])]), (60, [(3, 2, 0, 0, [])]), (85, [(3, 3, 0, 0, [])])]), (97, [(0, [(0, 1, 0, 0, [(-1)])]), (4, [(0, 1, 0, 0, [60])]), (20, [(3, 0, 0, 0, [])]), (62, [(3, 0, 0, 0, [])])]), (98, [(20, [(3, 0, 0, 0, [])])]), (99, [(7, [(0, 3, 0, 0, [(-1)])]), (21, [(3, 0, 0, 0, [])])]), (100, [(5, [(0, 1, 0, 0, [(-1)])]), (29, [(3, 0, 0, 0, [])]), (49, [(0, 4, 0, 0, [(-1), 79])]), (61, [(0, 3, 0, 0, [(-1), 0])]), (115, [(0, 2, 0, 0, [0])]), (130, [(0, 3, 0, 0, [(-1), 0])])]), (101, [(8, [(3, 0, 0, 0, [])])]), (102, [(38, [(3, 3, 0, 0, []), (3, 2, 0, 0, [])])]), (103, [(26, [(0, 5, 0, 0, [(-1), 5])]), (67, [(3, 3, 0, 0, []), (3, 2, 0, 0, [])]), (72, [(0, 6, 0, 0, [(-1), 999])]), (99, [(0, 2, 0, 0, [(-1)])])]), (104, [(56, [(0, 8, 0, 0, [(-1), 7])]), (97, [(3, 3, 0, 0, []), (3, 2, 0, 0, [])]), (114, [(3, 4, 0, 0, [])]), (125, [(0, 5, 0, 0, [(-1)])]), (130, [(0, 10, 0, 0, [(-2), 20])]), (167, [(0, 10, 0, 0, [(-1), 20])]), (174, [(0, 11, 0, 0, [(-1), 0])]), (197, [(0, 5, 0, 0, [(-1)])])]), (105, [(24, [(3, 2, 0, 0, [])]), (28, [(0, 3, 0, 0, [(-1)])]), (42, [(0, 4, 0, 0, [(-3), 0, 1, 2, 3]), (0, 3, 0, 0, [0, 1, 2, 3])])]), (106, [(42, [(0, 4, 0, 0, [(-1), 5])]), (64, [(3, 1, 0, 0, [])]), (86, [(3, 2, 0, 0, [])]), (92, [(0, 5, 0, 0, [(-1), 0])])]), (107, [(13, [(0, 3, 0, 0, [(-1), 7])]), (29, [(0, 4, 0, 0, [(-1), 7])]), (50, [(0, 5, 0, 0, [0])]), (58, [(0, 5, 0, 0, [0, 1998])])]), (108, [(34, [(0, 3, 0, 0, [(-1)])]), (50, [(3, 0, 0, 0, [])])]), (109, [(0, [(0, 3, 0, 0, [(-1)])]), (4, [(0, 3, 0, 0, [9])]), (10, [(0, 4, 0, 0, [(-1)])]), (15, [(0, 4, 0, 0, [99])]), (29, [(0, 5, 0, 0, [(-1), 0])])]), (110, [(12, [(0, 3, 0, 0, [(-1)])]), (16, [(0, 3, 0, 0, [10])]), (35, [(0, 4, 0, 0, [(-1)])]), (40, [(0, 4, 0, 0, [12])])]), (111, [(21, [(3, 1, 0, 0, []), (3, 0, 0, 0, [])]), (33, [(3, 1, 0, 0, [])]), (37, [(0, 2, 0, 0, [99])])])], [(112, [(24, [(0, 5, 0, 0, [(-1), 7])]), (60, [(3, 1, 0, 0, [])]), (74, [(3, 1, 0, 0, []), (3, 0, 0, 0, [])]), (97, [(3, 1, 0, 0, [])]), (102, [(0, 6, 0, 0, [0, 99])]), (122, [(0, 3, 0, 0, [(-1)])])]), (113, [(24, [(3, 1, 0, 0, [])]), (37, [(3, 1, 0, 0, [])])]), (114, [(8, [(3, 0, 0, 0, [])]), (26, [(3, 0, 0, 0, [0, 1, 2, 3, 4, 5])])]), (115, [(8, [(3, 0, 0, 0, [])]), (12, [(0, 1, 0, 0, [(-1)])]), (28, [(0, 2, 0, 0, [(-2), 0, 1, 2, 3, 4, 5]), (0, 1, 0, 0, [0, 1, 2, 3, 4, 5])]), (75, [(3, 1, 0, 0, [])])]), (116, [(6, [(0, 1, 0, 0, [(-1)])]), (24, [(0, 3, 0, 0, [(-1), 5])]), (42, [(0, 4, 0, 0, [(-1)])]), (83, [(3, 1, 0, 0, [])])]), (120, [(8, [(3, 0, 0, 0, [])]), (16, [(0, 3, 0, 0, [(-1), 7])])]), (121, [(8, [(3, 0, 0, 0, [])]), (12, [(0, 1, 0, 0, [(-1), 0])]), (28, [(0, 4, 0, 0, [(-1), 5])]), (51, [(3, 1, 0, 0, [])]), (74, [(0, 6, 0, 0, [(-1), 8, 2147483646])]), (92, [(0, 2, 0, 0, [(-1)])])]), (122, [(4, [(3, 0, 0, 0, [])]), (16, [(0, 1, 0, 0, [(-1)])]), (31, [(3, 0, 0, 0, [])]), (40, [(3, 0, 0, 0, [])])]), (123, [(0, [(0, 1, 0, 0, [(-1)])]), (4, [(0, 1, 0, 0, [20])]), (59, [(0, 2, 0, 0, [(-1), 0])])]), (124, [(0, [(0, 2, 0, 0, [0])]), (5, [(0, 2, 0, 0, [60])]), (21, [(3, 1, 0, 0, []), (3, 0, 0, 0, [])]), (32, [(0, 5, 0, 0, [(-2147483649), 0, 1, 2, 3, 4, 5, 6, 7, 8, 9, 10, 11, 12, 13, 14, 15, 16, 17, 18, 19, 20, 59, 2147483646]), (0, 2, 0, 0, [0, 1, 2, 3, 4, 5, 6, 7, 8, 9, 10, 11, 12, 13, 14, 15, 16, 17, 18, 19, 20, 21, 22, 23])]), (59, [(3, 0, 0, 0, [])]), (65, [(2, 0, 2, 1, [0])]), (161, [(3, 0, 0, 0, [])])]), (125, [(21, [(3, 1, 0, 0, []), (3, 0, 0, 0, [])])]), (126, [(32, [(3, 1, 0, 0, []), (3, 0, 0, 0, [])])]), (127, [(100, [(3, 0, 0, 0, [])]), (120, [(3, 0, 0, 0, [])]), (132, [(3, 0, 0, 0, [])]), (144, [(3, 0, 0, 0, [])])])], [(128, [(0, [(0, 1, 0, 0, [(-1)])]), (4, [(0, 1, 0, 0, [(-1), 7])])]), (129, [(0, [(2, 0, 0, 1, [(-1), 0])]), (64, [(0, 5, 0, 0, [(-1)])]), (74, [(0, 5, 0, 0, [(-1), 0])]), (104, [(0, 1, 0, 0, [0, 80])])]), (130, [(0, [(2, 0, 0, 1, [(-1), 0])]), (49, [(0, 1, 0, 0, [(-1)])]), (55, [(0, 1, 0, 0, [(-1), 0, 80])])]), (131, [(11, [(0, 3, 0, 0, [(-1)])]), (15, [(0, 3, 0, 0, [4])]), (42, [(0, 5, 0, 0, [(-1)])]), (67, [(0, 6, 0, 0, [(-1)])]), (85, [(0, 5, 0, 0, [(-1), 0])]), (135, [(0, 7, 0, 0, [(-1)])]), (161, [(0, 8, 0, 0, [(-1), 5])])]), (134, [(10, [(0, 1, 0, 0, [(-1), 80])]), (35, [(0, 3, 0, 0, [(-1), 0])]), (44, [(0, 4, 0, 0, [(-1), 1, 2, 3]), (0, 3, 0, 0, [1, 2, 3])]), (65, [(0, 5, 0, 0, [(-1)])]), (76, [(0, 5, 0, 0, [(-1), 0])])]), (137, [(12, [(0, 3, 0, 0, [(-10)])]), (18, [(0, 3, 0, 0, [9])]), (24, [(0, 3, 0, 0, [(-1), 0])])]), (140, [(2, [(0, 2, 0, 0, [(-2), 0, 1, 2, 3, 4, 5, 6, 7, 8, 9, 10, 11, 12, 13, 14, 15, 16, 17, 18, 19, 20, 21, 59]), (0, 1, 0, 0, [0, 1, 2, 3, 4, 5, 6, 7, 8, 9, 10, 11, 12, 13, 14, 15, 16, 17, 18, 19, 20, 21, 22, 23])]), (15, [(3, 0, 0, 0, [])])]), (141, [(123, [(3, 1, 0, 0, [(-1), 7]), (3, 0, 0, 0, [(-1), 5])]), (137, [(3, 1, 0, 0, [(-1), 5]), (3, 0, 0, 0, [(-1), 5])]), (146, [(3, 2, 0, 0, [(-1), 5]), (3, 1, 0, 0, [(-1), 5])]), (156, [(3, 2, 0, 0, [(-1), 5]), (3, 1, 0, 0, [(-1), 5])])]), (142, [(35, [(3, 3, 0, 0, []), (3, 2, 0, 0, [])]), (38, [(3, 3, 0, 0, [])])])], [(145, [(39, [(3, 3, 0, 0, []), (3, 2, 0, 0, [])]), (42, [(3, 3, 0, 0, [])])]), (146, [(21, [(0, 3, 0, 0, [(-1), 5])]), (43, [(3, 3, 0, 0, []), (3, 2, 0, 0, [])]), (60, [(3, 3, 0, 0, []), (3, 2, 0, 0, [])]), (81, [(3, 3, 0, 0, []), (3, 2, 0, 0, [])]), (99, [(3, 3, 0, 0, []), (3, 2, 0, 0, [])]), (105, [(0, 5, 0, 0, [0])]), (110, [(0, 6, 0, 0, [0])])]), (147, [(7, [(0, 4, 0, 0, [(-1), 5])]), (29, [(3, 1, 0, 0, [])]), (43, [(0, 5, 0, 0, [(-1), 127])])]), (148, [(2, [(0, 2, 0, 0, [(-1), 5])]), (39, [(3, 1, 0, 0, [])])]), (149, [(4, [(0, 3, 0, 0, [(-1), 7])]), (35, [(3, 3, 0, 0, []), (3, 2, 0, 0, [])])]), (150, [(7, [(0, 5, 0, 0, [(-1), 0])])]), (151, [(16, [(0, 6, 0, 0, [(-1), 0])])]), (152, [(5, [(0, 4, 0, 0, [(-1), 0, 1, 2, 3, 4, 5, 6, 7, 8, 9, 10, 11]), (0, 1, 0, 0, [0, 1, 2, 3, 4, 5, 6, 7, 8, 9, 10, 11])])]), (154, [(0, [(0, 0, 0, 0, [0, 9])]), (9, [(0, 0, 0, 0, [(-1), 9])])]), (156, [(0, [(0, 1, 0, 0, [0])])])]]
abbrev cxP2 : Nat → Nat → List sp := spT cxPL2
def cxr_sign : con := (86, [(2, 0, 1), (0, -2147483648, 2147483647)], [], [some (0, -2147483648, 2147483647)], [], 10, 800, false)
theorem cxq_sign : con_chkS (kl bB cxF [cxt248]) PT bB 198 cxF cxJ cxjo cxP2 [] 411 cxr_sign = true := fq_chkS1 (fq_jn_eq _) rfl (by decide +kernel)   -- 11
theorem cxw_sign : con_ok PT bB 198 cxF cxQ cxr_sign := con_chkS_ok (fun _ _ h => h) cxpp (kl_ok (List.forall_mem_cons.mpr ⟨cxo248, fun _ h => (by cases h)⟩)) nw_class (fun h => by cases h) cxq_sign
def cxr_end : con := (87, [(2, 0, 1), (0, -2147483648, 2147483647)], [], [some (0, 0, 1)], [], 5, 400, false)
theorem cxq_end : con_chkS (kl bB cxF []) PT bB 198 cxF cxJ cxjo cxP2 [] 427 cxr_end = true := fq_chkS1 (fq_jn_eq _) rfl (by decide +kernel)   -- 27
theorem cxw_end : con_ok PT bB 198 cxF cxQ cxr_end := con_chkS_ok (fun _ _ h => h) cxpp (kl_ok (fun _ h => (by cases h))) nw_class (fun h => by cases h) cxq_end
end MG49cxr00x0
section MG49cxr00x1
/-! the calls themselves -/
def cxr_courts : con := (88, [(2, 0, 1)], [], [some (0, -2147483648, 2147483647)], [], 15, 1200, false)
theorem cxq_courts : con_chkS (kl bB cxF [cxt33, cxt34]) PT bB 198 cxF cxJ cxjo cxP2 [(2, 0, 2, 0, [0, 1, 2, 3, 4, 5])] 9978 cxr_courts = true := fq_chkS1 (fq_jn_eq _) rfl (by decide +kernel)   -- 9578
theorem cxw_courts : con_ok PT bB 198 cxF cxQ cxr_courts := con_chkS_ok (fun _ _ h => h) cxpp (kl_ok (List.forall_mem_cons.mpr ⟨cxo33, List.forall_mem_cons.mpr ⟨cxo34, fun _ h => (by cases h)⟩⟩)) nw_class (fun h => by cases h) cxq_courts
end MG49cxr00x1
section MG49cxr00x2
/-! the calls themselves -/
def cxr_gifts : con := (89, [(2, 0, 1)], [], [some (0, -2147483648, 2147483647)], [], 15, 1200, false)
theorem cxq_gifts : con_chkS (kl bB cxF [cxt33, cxt34]) PT bB 198 cxF cxJ cxjo cxP2 [(2, 0, 2, 1, [0, 1, 2, 3, 4, 5, 6, 7])] 9288 cxr_gifts = true := fq_chkS1 (fq_jn_eq _) rfl (by decide +kernel)   -- 8888
theorem cxw_gifts : con_ok PT bB 198 cxF cxQ cxr_gifts := con_chkS_ok (fun _ _ h => h) cxpp (kl_ok (List.forall_mem_cons.mpr ⟨cxo33, List.forall_mem_cons.mpr ⟨cxo34, fun _ h => (by cases h)⟩⟩)) nw_class (fun h => by cases h) cxq_gifts
end MG49cxr00x2
section MG49cxr00x3
/-! the calls themselves -/
def cxr_rule : con := (90, [(2, 0, 1)], [], [some (0, -2147483648, 2147483647)], [], 175, 14000, false)
theorem cxq_rule : con_chkS (kl bB cxF [cxt205, cxt240]) PT bB 198 cxF cxJ cxjo cxP2 [] 428 cxr_rule = true := fq_chkS1 (fq_jn_eq _) rfl (by decide +kernel)   -- 28
theorem cxw_rule : con_ok PT bB 198 cxF cxQ cxr_rule := con_chkS_ok (fun _ _ h => h) cxpp (kl_ok (List.forall_mem_cons.mpr ⟨cxo205, List.forall_mem_cons.mpr ⟨cxo240, fun _ h => (by cases h)⟩⟩)) nw_class (fun h => by cases h) cxq_rule
def cxr_road : con := (94, [(2, 0, 1), (0, -2147483648, 2147483647), (0, -2147483648, 2147483647), (0, -2147483648, 2147483647)], [], [some (0, -2147483648, 2147483647)], [], 5, 400, false)
theorem cxq_road : con_chkS (kl bB cxF []) PT bB 198 cxF cxJ cxjo cxP2 [(0, 1, 0, 0, [(-1), 5]), (0, 2, 0, 0, [(-1), 5])] 685 cxr_road = true := fq_chkS1 (fq_jn_eq _) rfl (by decide +kernel)   -- 285
theorem cxw_road : con_ok PT bB 198 cxF cxQ cxr_road := con_chkS_ok (fun _ _ h => h) cxpp (kl_ok (fun _ h => (by cases h))) nw_class (fun h => by cases h) cxq_road
def cxr_sheet : con := (95, [(2, 0, 1), (0, -2147483648, 2147483647), (0, -2147483648, 2147483647), (0, -2147483648, 2147483647), (0, -2147483648, 2147483647)], [], [some (0, -2147483648, 2147483647)], [], 10, 800, false)
theorem cxq_sheet : con_chkS (kl bB cxF [cxt148]) PT bB 198 cxF cxJ cxjo cxP2 [] 889 cxr_sheet = true := fq_chkS1 (fq_jn_eq _) rfl (by decide +kernel)   -- 489
theorem cxw_sheet : con_ok PT bB 198 cxF cxQ cxr_sheet := con_chkS_ok (fun _ _ h => h) cxpp (kl_ok (List.forall_mem_cons.mpr ⟨cxo148, fun _ h => (by cases h)⟩)) nw_class (fun h => by cases h) cxq_sheet
def cxr_send : con := (96, [(2, 0, 1), (0, -2147483648, 2147483647), (0, -2147483648, 2147483647)], [], [some (0, -2147483648, 2147483647)], [], 20, 1600, false)
theorem cxq_send : con_chkS (kl bB cxF [cxt48, cxt52, cxt54, cxt97, cxt121]) PT bB 198 cxF cxJ cxjo cxP2 [(0, 1, 0, 0, [(-1), 7]), (0, 2, 0, 0, [(-1), 5])] 733 cxr_send = true := fq_chkS1 (fq_jn_eq _) rfl (by decide +kernel)   -- 333
theorem cxw_send : con_ok PT bB 198 cxF cxQ cxr_send := con_chkS_ok (fun _ _ h => h) cxpp (kl_ok (List.forall_mem_cons.mpr ⟨cxo48, List.forall_mem_cons.mpr ⟨cxo52, List.forall_mem_cons.mpr ⟨cxo54, List.forall_mem_cons.mpr ⟨cxo97, List.forall_mem_cons.mpr ⟨cxo121, fun _ h => (by cases h)⟩⟩⟩⟩⟩)) nw_class (fun h => by cases h) cxq_send
def cxr_months : con := (97, [(2, 0, 1), (0, -2147483648, 2147483647)], [], [some (0, -2147483648, 2147483647)], [], 25, 2000, false)
theorem cxq_months : con_chkS (kl bB cxF [cxt41, cxt42, cxt97, cxt121, cxt148]) PT bB 198 cxF cxJ cxjo cxP2 [] 446 cxr_months = true := fq_chkS1 (fq_jn_eq _) rfl (by decide +kernel)   -- 46
theorem cxw_months : con_ok PT bB 198 cxF cxQ cxr_months := con_chkS_ok (fun _ _ h => h) cxpp (kl_ok (List.forall_mem_cons.mpr ⟨cxo41, List.forall_mem_cons.mpr ⟨cxo42, List.forall_mem_cons.mpr ⟨cxo97, List.forall_mem_cons.mpr ⟨cxo121, List.forall_mem_cons.mpr ⟨cxo148, fun _ h => (by cases h)⟩⟩⟩⟩⟩)) nw_class (fun h => by cases h) cxq_months
def cxr_envoy : con := (98, [(2, 0, 1), (0, -2147483648, 2147483647), (0, -2147483648, 2147483647), (0, -2147483648, 2147483647)], [], [some (0, -2147483648, 2147483647)], [], 20, 1600, false)
theorem cxq_envoy : con_chkS (kl bB cxF [cxt36, cxt121]) PT bB 198 cxF cxJ cxjo cxP2 [(0, 1, 0, 0, [(-1), 5]), (0, 2, 0, 0, [(-1), 5])] 755 cxr_envoy = true := fq_chkS1 (fq_jn_eq _) rfl (by decide +kernel)   -- 355
theorem cxw_envoy : con_ok PT bB 198 cxF cxQ cxr_envoy := con_chkS_ok (fun _ _ h => h) cxpp (kl_ok (List.forall_mem_cons.mpr ⟨cxo36, List.forall_mem_cons.mpr ⟨cxo121, fun _ h => (by cases h)⟩⟩)) nw_class (fun h => by cases h) cxq_envoy
def cxr_forgive : con := (99, [(2, 0, 1), (0, -2147483648, 2147483647), (0, -2147483648, 2147483647)], [], [some (0, -2147483648, 2147483647)], [], 20, 1600, false)
theorem cxq_forgive : con_chkS (kl bB cxF [cxt121]) PT bB 198 cxF cxJ cxjo cxP2 [(0, 1, 0, 0, [(-1), 5]), (0, 2, 0, 0, [(-1), 5])] 767 cxr_forgive = true := fq_chkS1 (fq_jn_eq _) rfl (by decide +kernel)   -- 367
theorem cxw_forgive : con_ok PT bB 198 cxF cxQ cxr_forgive := con_chkS_ok (fun _ _ h => h) cxpp (kl_ok (List.forall_mem_cons.mpr ⟨cxo121, fun _ h => (by cases h)⟩)) nw_class (fun h => by cases h) cxq_forgive
def cxr_year : con := (100, [(2, 0, 1)], [], [some (0, -2147483648, 2147483647)], [], 30, 2400, false)
theorem cxq_year : con_chkS (kl bB cxF [cxt33, cxt35, cxt42, cxt82, cxt97, cxt119, cxt120]) PT bB 198 cxF cxJ cxjo cxP2 [] 3117 cxr_year = true := fq_chkS1 (fq_jn_eq _) rfl (by decide +kernel)   -- 2717
theorem cxw_year : con_ok PT bB 198 cxF cxQ cxr_year := con_chkS_ok (fun _ _ h => h) cxpp (kl_ok (List.forall_mem_cons.mpr ⟨cxo33, List.forall_mem_cons.mpr ⟨cxo35, List.forall_mem_cons.mpr ⟨cxo42, List.forall_mem_cons.mpr ⟨cxo82, List.forall_mem_cons.mpr ⟨cxo97, List.forall_mem_cons.mpr ⟨cxo119, List.forall_mem_cons.mpr ⟨cxo120, fun _ h => (by cases h)⟩⟩⟩⟩⟩⟩⟩)) nw_class (fun h => by cases h) cxq_year
def cxr_undo : con := (101, [(2, 0, 1)], [], [some (0, -2147483648, 2147483647)], [], 15, 1200, false)
theorem cxq_undo : con_chkS (kl bB cxF [cxt138]) PT bB 198 cxF cxJ cxjo cxP2 [] 412 cxr_undo = true := fq_chkS1 (fq_jn_eq _) rfl (by decide +kernel)   -- 12
theorem cxw_undo : con_ok PT bB 198 cxF cxQ cxr_undo := con_chkS_ok (fun _ _ h => h) cxpp (kl_ok (List.forall_mem_cons.mpr ⟨cxo138, fun _ h => (by cases h)⟩)) nw_class (fun h => by cases h) cxq_undo
def cxr_value : con := (102, [(2, 0, 1), (0, -2147483648, 2147483647), (0, -2147483648, 2147483647)], [], [some (0, -2147483648, 2147483647)], [], 20, 1600, false)
theorem cxq_value : con_chkS (kl bB cxF [cxt48, cxt52]) PT bB 198 cxF cxJ cxjo cxP2 [(0, 1, 0, 0, [(-1), 7]), (0, 2, 0, 0, [(-1), 5])] 576 cxr_value = true := fq_chkS1 (fq_jn_eq _) rfl (by decide +kernel)   -- 176
theorem cxw_value : con_ok PT bB 198 cxF cxQ cxr_value := con_chkS_ok (fun _ _ h => h) cxpp (kl_ok (List.forall_mem_cons.mpr ⟨cxo48, List.forall_mem_cons.mpr ⟨cxo52, fun _ h => (by cases h)⟩⟩)) nw_class (fun h => by cases h) cxq_value
def cxr_where : con := (103, [(2, 0, 1), (0, -2147483648, 2147483647)], [], [some (0, -2147483648, 2147483647)], [], 20, 1600, false)
theorem cxq_where : con_chkS (kl bB cxF [cxt48, cxt52, cxt97]) PT bB 198 cxF cxJ cxjo cxP2 [(0, 1, 0, 0, [(-1), 7])] 679 cxr_where = true := fq_chkS1 (fq_jn_eq _) rfl (by decide +kernel)   -- 279
theorem cxw_where : con_ok PT bB 198 cxF cxQ cxr_where := con_chkS_ok (fun _ _ h => h) cxpp (kl_ok (List.forall_mem_cons.mpr ⟨cxo48, List.forall_mem_cons.mpr ⟨cxo52, List.forall_mem_cons.mpr ⟨cxo97, fun _ h => (by cases h)⟩⟩⟩)) nw_class (fun h => by cases h) cxq_where
def cxr_answer : con := (104, [(2, 0, 1), (0, -2147483648, 2147483647), (0, -2147483648, 2147483647)], [], [some (0, -2147483648, 2147483647)], [], 20, 1600, false)
theorem cxq_answer : con_chkS (kl bB cxF [cxt48, cxt52, cxt53, cxt97]) PT bB 198 cxF cxJ cxjo cxP2 [(0, 1, 0, 0, [(-1), 5]), (0, 2, 0, 0, [(-1), 5])] 1279 cxr_answer = true := fq_chkS1 (fq_jn_eq _) rfl (by decide +kernel)   -- 879
theorem cxw_answer : con_ok PT bB 198 cxF cxQ cxr_answer := con_chkS_ok (fun _ _ h => h) cxpp (kl_ok (List.forall_mem_cons.mpr ⟨cxo48, List.forall_mem_cons.mpr ⟨cxo52, List.forall_mem_cons.mpr ⟨cxo53, List.forall_mem_cons.mpr ⟨cxo97, fun _ h => (by cases h)⟩⟩⟩⟩)) nw_class (fun h => by cases h) cxq_answer
def cxr_wins : con := (105, [(2, 0, 1), (0, -2147483648, 2147483647), (0, -2147483648, 2147483647)], [], [some (0, -2147483648, 2147483647)], [], 35, 2800, false)
theorem cxq_wins : con_chkS (kl bB cxF [cxt96, cxt254, cxt255]) PT bB 198 cxF cxJ cxjo cxP2 [(0, 1, 0, 0, [(-1), 5]), (0, 2, 0, 0, [(-1), 5])] 755 cxr_wins = true := fq_chkS1 (fq_jn_eq _) rfl (by decide +kernel)   -- 355
theorem cxw_wins : con_ok PT bB 198 cxF cxQ cxr_wins := con_chkS_ok (fun _ _ h => h) cxpp (kl_ok (List.forall_mem_cons.mpr ⟨cxo96, List.forall_mem_cons.mpr ⟨cxo254, List.forall_mem_cons.mpr ⟨cxo255, fun _ h => (by cases h)⟩⟩⟩)) nw_class (fun h => by cases h) cxq_wins
def cxr_unseen : con := (106, [(2, 0, 1), (0, -2147483648, 2147483647)], [], [some (0, -2147483648, 2147483647)], [], 15, 1200, false)
theorem cxq_unseen : con_chkS (kl bB cxF [cxt42, cxt91, cxt170]) PT bB 198 cxF cxJ cxjo cxP2 [(0, 1, 0, 0, [(-1), 7])] 770 cxr_unseen = true := fq_chkS1 (fq_jn_eq _) rfl (by decide +kernel)   -- 370
theorem cxw_unseen : con_ok PT bB 198 cxF cxQ cxr_unseen := con_chkS_ok (fun _ _ h => h) cxpp (kl_ok (List.forall_mem_cons.mpr ⟨cxo42, List.forall_mem_cons.mpr ⟨cxo91, List.forall_mem_cons.mpr ⟨cxo170, fun _ h => (by cases h)⟩⟩⟩)) nw_class (fun h => by cases h) cxq_unseen
end MG49cxr00x3
section MG49cxr00x4
/-! the calls themselves -/
def cxr_swaps : con := (107, [(2, 0, 1)], [], [some (0, -2147483648, 2147483647)], [], 25, 2000, false)
theorem cxq_swaps : con_chkS (kl bB cxF [cxt88, cxt96, cxt97]) PT bB 198 cxF cxJ cxjo cxP2 [] 1584 cxr_swaps = true := fq_chkS1 (fq_jn_eq _) rfl (by decide +kernel)   -- 1184
theorem cxw_swaps : con_ok PT bB 198 cxF cxQ cxr_swaps := con_chkS_ok (fun _ _ h => h) cxpp (kl_ok (List.forall_mem_cons.mpr ⟨cxo88, List.forall_mem_cons.mpr ⟨cxo96, List.forall_mem_cons.mpr ⟨cxo97, fun _ h => (by cases h)⟩⟩⟩)) nw_class (fun h => by cases h) cxq_swaps
def cxr_way : con := (108, [(2, 0, 1), (0, -2147483648, 2147483647), (0, -2147483648, 2147483647)], [], [some (0, -2147483648, 2147483647)], [], 15, 1200, false)
theorem cxq_way : con_chkS (kl bB cxF [cxt156, cxt158]) PT bB 198 cxF cxJ cxjo cxP2 [(0, 1, 0, 0, [(-1), 5]), (0, 2, 0, 0, [(-1), 5])] 586 cxr_way = true := fq_chkS1 (fq_jn_eq _) rfl (by decide +kernel)   -- 186
theorem cxw_way : con_ok PT bB 198 cxF cxQ cxr_way := con_chkS_ok (fun _ _ h => h) cxpp (kl_ok (List.forall_mem_cons.mpr ⟨cxo156, List.forall_mem_cons.mpr ⟨cxo158, fun _ h => (by cases h)⟩⟩)) nw_class (fun h => by cases h) cxq_way
def cxr_walks : con := (109, [(2, 0, 1), (0, -2147483648, 2147483647), (0, -2147483648, 2147483647), (0, -2147483648, 2147483647), (0, -2147483648, 2147483647)], [], [some (0, -2147483648, 2147483647)], [], 15, 1200, false)
theorem cxq_walks : con_chkS (kl bB cxF [cxt169]) PT bB 198 cxF cxJ cxjo cxP2 [(0, 1, 0, 0, [(-1), 5]), (0, 2, 0, 0, [(-1), 5])] 826 cxr_walks = true := fq_chkS1 (fq_jn_eq _) rfl (by decide +kernel)   -- 426
theorem cxw_walks : con_ok PT bB 198 cxF cxQ cxr_walks := con_chkS_ok (fun _ _ h => h) cxpp (kl_ok (List.forall_mem_cons.mpr ⟨cxo169, fun _ h => (by cases h)⟩)) nw_class (fun h => by cases h) cxq_walks
def cxr_alive : con := (110, [(2, 0, 1), (0, -2147483648, 2147483647), (0, -2147483648, 2147483647), (0, -2147483648, 2147483647)], [], [some (0, -2147483648, 2147483647)], [], 20, 1600, false)
theorem cxq_alive : con_chkS (kl bB cxF [cxt98, cxt99, cxt156]) PT bB 198 cxF cxJ cxjo cxP2 [(0, 1, 0, 0, [(-1), 5]), (0, 2, 0, 0, [(-1), 5])] 671 cxr_alive = true := fq_chkS1 (fq_jn_eq _) rfl (by decide +kernel)   -- 271
theorem cxw_alive : con_ok PT bB 198 cxF cxQ cxr_alive := con_chkS_ok (fun _ _ h => h) cxpp (kl_ok (List.forall_mem_cons.mpr ⟨cxo98, List.forall_mem_cons.mpr ⟨cxo99, List.forall_mem_cons.mpr ⟨cxo156, fun _ h => (by cases h)⟩⟩⟩)) nw_class (fun h => by cases h) cxq_alive
def cxr_feeds : con := (111, [(2, 0, 1), (0, -2147483648, 2147483647)], [], [some (0, -2147483648, 2147483647)], [], 20, 1600, false)
theorem cxq_feeds : con_chkS (kl bB cxF [cxt97, cxt102, cxt154, cxt247]) PT bB 198 cxF cxJ cxjo cxP2 [(0, 1, 0, 0, [(-1), 5])] 485 cxr_feeds = true := fq_chkS1 (fq_jn_eq _) rfl (by decide +kernel)   -- 85
theorem cxw_feeds : con_ok PT bB 198 cxF cxQ cxr_feeds := con_chkS_ok (fun _ _ h => h) cxpp (kl_ok (List.forall_mem_cons.mpr ⟨cxo97, List.forall_mem_cons.mpr ⟨cxo102, List.forall_mem_cons.mpr ⟨cxo154, List.forall_mem_cons.mpr ⟨cxo247, fun _ h => (by cases h)⟩⟩⟩⟩)) nw_class (fun h => by cases h) cxq_feeds
def cxr_starves : con := (112, [(2, 0, 1), (0, -2147483648, 2147483647), (0, -2147483648, 2147483647)], [], [some (0, -2147483648, 2147483647)], [], 20, 1600, false)
theorem cxq_starves : con_chkS (kl bB cxF [cxt38, cxt154, cxt170, cxt247]) PT bB 198 cxF cxJ cxjo cxP2 [(0, 1, 0, 0, [(-1), 5]), (0, 2, 0, 0, [(-1), 5])] 1045 cxr_starves = true := fq_chkS1 (fq_jn_eq _) rfl (by decide +kernel)   -- 645
theorem cxw_starves : con_ok PT bB 198 cxF cxQ cxr_starves := con_chkS_ok (fun _ _ h => h) cxpp (kl_ok (List.forall_mem_cons.mpr ⟨cxo38, List.forall_mem_cons.mpr ⟨cxo154, List.forall_mem_cons.mpr ⟨cxo170, List.forall_mem_cons.mpr ⟨cxo247, fun _ h => (by cases h)⟩⟩⟩⟩)) nw_class (fun h => by cases h) cxq_starves
def cxr_net : con := (113, [(2, 0, 1), (0, -2147483648, 2147483647)], [], [some (0, -2147483648, 2147483647)], [], 15, 1200, false)
theorem cxq_net : con_chkS (kl bB cxF [cxt2, cxt3, cxt97]) PT bB 198 cxF cxJ cxjo cxP2 [(0, 1, 0, 0, [(-1), 5])] 468 cxr_net = true := fq_chkS1 (fq_jn_eq _) rfl (by decide +kernel)   -- 68
theorem cxw_net : con_ok PT bB 198 cxF cxQ cxr_net := con_chkS_ok (fun _ _ h => h) cxpp (kl_ok (List.forall_mem_cons.mpr ⟨cxo2, List.forall_mem_cons.mpr ⟨cxo3, List.forall_mem_cons.mpr ⟨cxo97, fun _ h => (by cases h)⟩⟩⟩)) nw_class (fun h => by cases h) cxq_net
def cxr_settle : con := (114, [(2, 0, 1)], [], [some (0, -2147483648, 2147483647)], [], 15, 1200, false)
theorem cxq_settle : con_chkS (kl bB cxF [cxt4, cxt5, cxt6, cxt7, cxt8, cxt9, cxt10, cxt11, cxt170]) PT bB 198 cxF cxJ cxjo cxP2 [] 416 cxr_settle = true := fq_chkS1 (fq_jn_eq _) rfl (by decide +kernel)   -- 16
theorem cxw_settle : con_ok PT bB 198 cxF cxQ cxr_settle := con_chkS_ok (fun _ _ h => h) cxpp (kl_ok (List.forall_mem_cons.mpr ⟨cxo4, List.forall_mem_cons.mpr ⟨cxo5, List.forall_mem_cons.mpr ⟨cxo6, List.forall_mem_cons.mpr ⟨cxo7, List.forall_mem_cons.mpr ⟨cxo8, List.forall_mem_cons.mpr ⟨cxo9, List.forall_mem_cons.mpr ⟨cxo10, List.forall_mem_cons.mpr ⟨cxo11, List.forall_mem_cons.mpr ⟨cxo170, fun _ h => (by cases h)⟩⟩⟩⟩⟩⟩⟩⟩⟩)) nw_class (fun h => by cases h) cxq_settle
def cxr_ring : con := (115, [(2, 0, 1)], [], [some (0, -2147483648, 2147483647)], [], 40, 3200, false)
theorem cxq_ring : con_chkS (kl bB cxF [cxt32, cxt37, cxt96]) PT bB 198 cxF cxJ cxjo cxP2 [] 601 cxr_ring = true := fq_chkS1 (fq_jn_eq _) rfl (by decide +kernel)   -- 201
theorem cxw_ring : con_ok PT bB 198 cxF cxQ cxr_ring := con_chkS_ok (fun _ _ h => h) cxpp (kl_ok (List.forall_mem_cons.mpr ⟨cxo32, List.forall_mem_cons.mpr ⟨cxo37, List.forall_mem_cons.mpr ⟨cxo96, fun _ h => (by cases h)⟩⟩⟩)) nw_class (fun h => by cases h) cxq_ring
def cxr_ranks : con := (116, [(2, 0, 1)], [], [some (0, -2147483648, 2147483647)], [], 15, 1200, false)
theorem cxq_ranks : con_chkS (kl bB cxF [cxt89, cxt90, cxt96]) PT bB 198 cxF cxJ cxjo cxP2 [] 594 cxr_ranks = true := fq_chkS1 (fq_jn_eq _) rfl (by decide +kernel)   -- 194
theorem cxw_ranks : con_ok PT bB 198 cxF cxQ cxr_ranks := con_chkS_ok (fun _ _ h => h) cxpp (kl_ok (List.forall_mem_cons.mpr ⟨cxo89, List.forall_mem_cons.mpr ⟨cxo90, List.forall_mem_cons.mpr ⟨cxo96, fun _ h => (by cases h)⟩⟩⟩)) nw_class (fun h => by cases h) cxq_ranks
def cxr_league : con := (117, [(2, 0, 1)], [], [some (0, -2147483648, 2147483647)], [], 15, 1200, false)
theorem cxq_league : con_chkS (kl bB cxF [cxt42, cxt92, cxt170]) PT bB 198 cxF cxJ cxjo cxP2 [] 1679 cxr_league = true := fq_chkS1 (fq_jn_eq _) rfl (by decide +kernel)   -- 1279
theorem cxw_league : con_ok PT bB 198 cxF cxQ cxr_league := con_chkS_ok (fun _ _ h => h) cxpp (kl_ok (List.forall_mem_cons.mpr ⟨cxo42, List.forall_mem_cons.mpr ⟨cxo92, List.forall_mem_cons.mpr ⟨cxo170, fun _ h => (by cases h)⟩⟩⟩)) nw_class (fun h => by cases h) cxq_league
def cxr_heard : con := (118, [(2, 0, 1), (0, -2147483648, 2147483647), (0, -2147483648, 2147483647)], [], [some (0, -2147483648, 2147483647)], [], 15, 1200, false)
theorem cxq_heard : con_chkS (kl bB cxF [cxt1]) PT bB 198 cxF cxJ cxjo cxP2 [] 412 cxr_heard = true := fq_chkS1 (fq_jn_eq _) rfl (by decide +kernel)   -- 12
theorem cxw_heard : con_ok PT bB 198 cxF cxQ cxr_heard := con_chkS_ok (fun _ _ h => h) cxpp (kl_ok (List.forall_mem_cons.mpr ⟨cxo1, fun _ h => (by cases h)⟩)) nw_class (fun h => by cases h) cxq_heard
def cxr_forget : con := (119, [(2, 0, 1)], [], [some (0, -2147483648, 2147483647)], [], 5, 400, false)
theorem cxq_forget : con_chkS (kl bB cxF []) PT bB 198 cxF cxJ cxjo cxP2 [] 410 cxr_forget = true := fq_chkS1 (fq_jn_eq _) rfl (by decide +kernel)   -- 10
theorem cxw_forget : con_ok PT bB 198 cxF cxQ cxr_forget := con_chkS_ok (fun _ _ h => h) cxpp (kl_ok (fun _ h => (by cases h))) nw_class (fun h => by cases h) cxq_forget
def cxr_fits : con := (120, [(2, 0, 1)], [], [some (0, -2147483648, 2147483647)], [], 20, 1600, false)
theorem cxq_fits : con_chkS (kl bB cxF [cxt42, cxt97, cxt142]) PT bB 198 cxF cxJ cxjo cxP2 [] 593 cxr_fits = true := fq_chkS1 (fq_jn_eq _) rfl (by decide +kernel)   -- 193
theorem cxw_fits : con_ok PT bB 198 cxF cxQ cxr_fits := con_chkS_ok (fun _ _ h => h) cxpp (kl_ok (List.forall_mem_cons.mpr ⟨cxo42, List.forall_mem_cons.mpr ⟨cxo97, List.forall_mem_cons.mpr ⟨cxo142, fun _ h => (by cases h)⟩⟩⟩)) nw_class (fun h => by cases h) cxq_fits
def cxr_ask : con := (121, [(2, 0, 1)], [], [some (0, -2147483648, 2147483647)], [], 20, 1600, false)
theorem cxq_ask : con_chkS (kl bB cxF [cxt42, cxt142, cxt143, cxt170]) PT bB 198 cxF cxJ cxjo cxP2 [] 656 cxr_ask = true := fq_chkS1 (fq_jn_eq _) rfl (by decide +kernel)   -- 256
theorem cxw_ask : con_ok PT bB 198 cxF cxQ cxr_ask := con_chkS_ok (fun _ _ h => h) cxpp (kl_ok (List.forall_mem_cons.mpr ⟨cxo42, List.forall_mem_cons.mpr ⟨cxo142, List.forall_mem_cons.mpr ⟨cxo143, List.forall_mem_cons.mpr ⟨cxo170, fun _ h => (by cases h)⟩⟩⟩⟩)) nw_class (fun h => by cases h) cxq_ask
def cxr_law : con := (122, [(2, 0, 1)], [], [some (0, -2147483648, 2147483647)], [], 175, 14000, false)
theorem cxq_law : con_chkS (kl bB cxF [cxt93, cxt94, cxt97, cxt205, cxt240]) PT bB 198 cxF cxJ cxjo cxP2 [] 437 cxr_law = true := fq_chkS1 (fq_jn_eq _) rfl (by decide +kernel)   -- 37
theorem cxw_law : con_ok PT bB 198 cxF cxQ cxr_law := con_chkS_ok (fun _ _ h => h) cxpp (kl_ok (List.forall_mem_cons.mpr ⟨cxo93, List.forall_mem_cons.mpr ⟨cxo94, List.forall_mem_cons.mpr ⟨cxo97, List.forall_mem_cons.mpr ⟨cxo205, List.forall_mem_cons.mpr ⟨cxo240, fun _ h => (by cases h)⟩⟩⟩⟩⟩)) nw_class (fun h => by cases h) cxq_law
end MG49cxr00x4
section MG49cxr00x5
/-! the calls themselves -/
def cxr_rests : con := (123, [(2, 0, 1), (0, -2147483648, 2147483647)], [], [some (0, -2147483648, 2147483647)], [], 15, 1200, false)
theorem cxq_rests : con_chkS (kl bB cxF [cxt97, cxt101]) PT bB 198 cxF cxJ cxjo cxP2 [] 3226 cxr_rests = true := fq_chkS1 (fq_jn_eq _) rfl (by decide +kernel)   -- 2826
theorem cxw_rests : con_ok PT bB 198 cxF cxQ cxr_rests := con_chkS_ok (fun _ _ h => h) cxpp (kl_ok (List.forall_mem_cons.mpr ⟨cxo97, List.forall_mem_cons.mpr ⟨cxo101, fun _ h => (by cases h)⟩⟩)) nw_class (fun h => by cases h) cxq_rests
end MG49cxr00x5
section MG49cxr00x6
/-! the calls themselves -/
def cxr_years : con := (124, [(2, 0, 1), (0, -2147483648, 2147483647), (0, -2147483648, 2147483647)], [], [some (0, -2147483648, 2147483647)], [], 25, 2000, false)
theorem cxq_years : con_chkS (kl bB cxF [cxt42, cxt87, cxt97, cxt150, cxt153, cxt247]) PT bB 198 cxF cxJ cxjo cxP2 [] 7521 cxr_years = true := fq_chkS1 (fq_jn_eq _) rfl (by decide +kernel)   -- 7121
theorem cxw_years : con_ok PT bB 198 cxF cxQ cxr_years := con_chkS_ok (fun _ _ h => h) cxpp (kl_ok (List.forall_mem_cons.mpr ⟨cxo42, List.forall_mem_cons.mpr ⟨cxo87, List.forall_mem_cons.mpr ⟨cxo97, List.forall_mem_cons.mpr ⟨cxo150, List.forall_mem_cons.mpr ⟨cxo153, List.forall_mem_cons.mpr ⟨cxo247, fun _ h => (by cases h)⟩⟩⟩⟩⟩⟩)) nw_class (fun h => by cases h) cxq_years
end MG49cxr00x6
section MG49cxr00x7
/-! the calls themselves -/
def cxr_keep : con := (125, [(2, 0, 1), (0, -2147483648, 2147483647)], [], [some (0, 0, 1)], [], 10, 800, false)
theorem cxq_keep : con_chkS (kl bB cxF [cxt241, cxt245, cxt246]) PT bB 198 cxF cxJ cxjo cxP2 [(0, 1, 0, 0, [(-1), 0, 1, 2])] 477 cxr_keep = true := fq_chkS1 (fq_jn_eq _) rfl (by decide +kernel)   -- 77
theorem cxw_keep : con_ok PT bB 198 cxF cxQ cxr_keep := con_chkS_ok (fun _ _ h => h) cxpp (kl_ok (List.forall_mem_cons.mpr ⟨cxo241, List.forall_mem_cons.mpr ⟨cxo245, List.forall_mem_cons.mpr ⟨cxo246, fun _ h => (by cases h)⟩⟩⟩)) nw_class (fun h => by cases h) cxq_keep
def cxr_again : con := (126, [(2, 0, 1), (0, -2147483648, 2147483647)], [], [some (0, 0, 1)], [], 10, 800, false)
theorem cxq_again : con_chkS (kl bB cxF [cxt242, cxt243, cxt244]) PT bB 198 cxF cxJ cxjo cxP2 [(0, 1, 0, 0, [(-1), 0, 1, 2])] 501 cxr_again = true := fq_chkS1 (fq_jn_eq _) rfl (by decide +kernel)   -- 101
theorem cxw_again : con_ok PT bB 198 cxF cxQ cxr_again := con_chkS_ok (fun _ _ h => h) cxpp (kl_ok (List.forall_mem_cons.mpr ⟨cxo242, List.forall_mem_cons.mpr ⟨cxo243, List.forall_mem_cons.mpr ⟨cxo244, fun _ h => (by cases h)⟩⟩⟩)) nw_class (fun h => by cases h) cxq_again
def cxr_count : con := (127, [(2, 0, 1), (0, -2147483648, 2147483647)], [], [some (0, -2147483648, 2147483647)], [], 15, 1200, false)
theorem cxq_count : con_chkS (kl bB cxF [cxt145, cxt146, cxt147, cxt148, cxt256]) PT bB 198 cxF cxJ cxjo cxP2 [] 464 cxr_count = true := fq_chkS1 (fq_jn_eq _) rfl (by decide +kernel)   -- 64
theorem cxw_count : con_ok PT bB 198 cxF cxQ cxr_count := con_chkS_ok (fun _ _ h => h) cxpp (kl_ok (List.forall_mem_cons.mpr ⟨cxo145, List.forall_mem_cons.mpr ⟨cxo146, List.forall_mem_cons.mpr ⟨cxo147, List.forall_mem_cons.mpr ⟨cxo148, List.forall_mem_cons.mpr ⟨cxo256, fun _ h => (by cases h)⟩⟩⟩⟩⟩)) nw_class (fun h => by cases h) cxq_count
end MG49cxr00x7
section MG49cxr00x8
/-! by hand: the model's object (cell 162, class 11), its fields and arrays -/
section HND
variable {k fr lo pc sl : Nat} {L : pm_L} {S r : List Value} {h : pm_H} {Q : pm_Rs → Prop}
theorem ls_of {T : pm_Tab} {sz : Nat} {go : Nat → Nat → Nat → List Value → pm_H → Nat → Nat → Option pm_Rs} {ins : Instr} {len : Nat} (hi : pm_ins T k pc = some (ins, len)) (hl : pm_lenOk ins len = true) (hc : pm_callee T k ins = none) : pm_step T go fr lo k (pc, L, S, h, sz, sl) = pm_simple T fr lo k ins pc L S h sz sl := by
  unfold pm_step
  dsimp only
  rw [hi]
  dsimp only
  rw [if_pos hl, hc]
theorem wp_i {T : pm_Tab} {sz : Nat} {ins : Instr} {len : Nat} {st' : pm_St} (hi : pm_ins T k pc = some (ins, len)) (hl : pm_lenOk ins len = true) (hc : pm_callee T k ins = none) (hs : pm_simple T fr lo k ins pc L S h sz sl = some st') (kk : pm_WP T fr lo k st' Q) : pm_WP T fr lo k (pc, L, S, h, sz, sl) Q := wp_step ((ls_of hi hl hc).trans hs) kk
def mF (h : pm_H) (f : Nat) (v : Value) : Prop := ∃ fs, h 162 = .inr (11, fs) ∧ fs[f]? = some v
def mset (h : pm_H) (f : Nat) (v : Value) : pm_H := match h 162 with
  | .inr (ci, fs) => va_up h 162 (.inr (ci, fs.set f v))
  | _ => h
def aset (h : pm_H) (a n : Nat) (f : Nat → Int32) : pm_H := va_up h a (.inl (0, n, .inl f))
theorem mF_obj {f : Nat} {v : Value} (q : mF h f v) : ∃ fs, h 162 = .inr (11, fs) := by
  obtain ⟨fs, e, -⟩ := q
  exact ⟨fs, e⟩
theorem mF_inj {f : Nat} {v w : Value} (q : mF h f v) (q' : mF h f w) : v = w := by
  obtain ⟨fs, e, e1⟩ := q
  obtain ⟨fs', e', e1'⟩ := q'
  rw [e] at e'
  cases e'
  rw [e1] at e1'
  exact Option.some.inj e1'
theorem mset_of {f : Nat} {v : Value} {fs : List Value} (e : h 162 = .inr (11, fs)) : mset h f v = va_up h 162 (.inr (11, fs.set f v)) := by
  unfold mset
  rw [e]
theorem mF_self {f : Nat} {v w : Value} (q : mF h f w) : mF (mset h f v) f v := by
  obtain ⟨fs, e, e1⟩ := q
  refine ⟨fs.set f v, by rw [mset_of e]; simp [va_up], ?_⟩
  exact List.getElem?_set_self (List.getElem?_eq_some_iff.mp e1).1
theorem mF_ne {f g : Nat} {v w : Value} (hn : f ≠ g) (q : mF h g w) : mF (mset h f v) g w := by
  obtain ⟨fs, e, e1⟩ := q
  exact ⟨fs.set f v, by rw [mset_of e]; simp [va_up], by rw [List.getElem?_set_ne hn]; exact e1⟩
theorem mF_as {a n g : Nat} {f : Nat → Int32} {w : Value} (hn : 162 ≠ a) (q : mF h g w) : mF (aset h a n f) g w := by
  obtain ⟨fs, e, e1⟩ := q
  exact ⟨fs, by unfold aset; simp [va_up, hn, e], e1⟩
theorem mset_ne {f i : Nat} {v : Value} (hn : i ≠ 162) : mset h f v i = h i := by
  unfold mset
  cases e : h 162 with
  | inl a => rfl
  | inr o => obtain ⟨ci, fs⟩ := o; simp [va_up, hn]
theorem mset_arr {f a n : Nat} {v : Value} {g : Nat → Int32} (hn : a ≠ 162) (q : h a = .inl (0, n, .inl g)) : mset h f v a = .inl (0, n, .inl g) := by
  rw [mset_ne hn]
  exact q
theorem aset_self (h : pm_H) (a n : Nat) (f : Nat → Int32) : aset h a n f a = .inl (0, n, .inl f) := by simp [aset, va_up]
theorem aset_ne {a b n m : Nat} {f g : Nat → Int32} (hn : b ≠ a) (q : h b = .inl (0, m, .inl g)) : aset h a n f b = .inl (0, m, .inl g) := by simp [aset, va_up, hn, q]
theorem aset_nei {a b n : Nat} {f : Nat → Int32} (hn : b ≠ a) : aset h a n f b = h b := by simp [aset, va_up, hn]
theorem aset_aset {a n : Nat} {f g : Nat → Int32} : aset (aset h a n f) a n g = aset h a n g := by
  unfold aset
  funext i
  by_cases e : i = a <;> simp [va_up, e]
theorem set_same {fs : List Value} {f : Nat} {v : Value} (e : fs[f]? = some v) : fs.set f v = fs := by
  apply List.ext_getElem?
  intro i
  by_cases hi : f = i
  · subst hi
    rw [List.getElem?_set_self (List.getElem?_eq_some_iff.mp e).1, e]
  · rw [List.getElem?_set_ne hi]
theorem mset_same {f : Nat} {v : Value} (q : mF h f v) : mset h f v = h := by
  obtain ⟨fs, e, e1⟩ := q
  rw [mset_of e]
  funext i
  by_cases hi : i = 162
  · subst hi
    simp only [va_up, if_pos]
    rw [e, set_same e1]
  · simp [va_up, hi]
theorem mset_mset {f : Nat} {v w : Value} : mset (mset h f v) f w = mset h f w := by
  cases e : h 162 with
  | inl a => simp [mset, e]
  | inr o =>
    obtain ⟨ci, fs⟩ := o
    have e1 : mset h f v = va_up h 162 (.inr (ci, fs.set f v)) := by unfold mset; rw [e]
    rw [e1]
    unfold mset
    rw [e]
    simp only [va_up, if_pos, List.set_set]
    funext i
    by_cases hi : i = 162 <;> simp [va_up, hi]
theorem wp_gfm {j f t : Nat} {v : Value} (hi : pm_ins PT k pc = some (.getfield j, 3)) (hf : pm_fld PT (pm_o PT k) j = some (11, f, t)) (hm : mF h f v) (kk : pm_WP PT fr lo k (pc + 3, L, v :: r, h, 198, sl) Q) : pm_WP PT fr lo k (pc, L, .ref 162 :: r, h, 198, sl) Q := by
  obtain ⟨fs, e, e1⟩ := hm
  refine wp_i hi rfl rfl ?_ kk
  show pm_gf PT k j pc L (.ref 162 :: r) h 198 sl = _
  unfold pm_gf pm_obj
  dsimp only
  rw [if_pos (by decide), e]
  dsimp only
  rw [hf]
  dsimp only
  rw [if_pos rfl, e1]
theorem wp_pfm {j f t : Nat} {v w : Value} (hi : pm_ins PT k pc = some (.putfield j, 3)) (hf : pm_fld PT (pm_o PT k) j = some (11, f, t)) (ht : pm_fits (t % 10) v = true) (ht2 : t < 10) (hm : mF h f w) (kk : pm_WP PT fr lo k (pc + 3, L, r, mset h f v, 198, sl) Q) : pm_WP PT fr lo k (pc, L, v :: .ref 162 :: r, h, 198, sl) Q := by
  obtain ⟨fs, e, e1⟩ := hm
  rw [mset_of e] at kk
  refine wp_i hi rfl rfl ?_ kk
  show pm_pf PT k j pc L (v :: .ref 162 :: r) h 198 sl = _
  unfold pm_pf pm_obj
  dsimp only
  rw [if_pos (by decide), e]
  dsimp only
  rw [hf]
  dsimp only
  rw [if_pos ⟨rfl, (List.getElem?_eq_some_iff.mp e1).1, ht, Or.inl ht2⟩]
theorem pm_iar_m {a n : Nat} {f : Nat → Int32} (ha : h a = .inl (0, n, .inl f)) (hl : a < 198) : pm_iar PT .int h 198 a = some (0, n, f) := by
  unfold pm_iar
  rw [if_pos hl, ha]
  exact if_pos rfl
theorem wp_iam {a n : Nat} {i : Int32} {f : Nat → Int32} (hi : pm_ins PT k pc = some (.iaload, 1)) (ha : h a = .inl (0, n, .inl f)) (hin : pm_in i n = true) (hl : a < 198) (kk : pm_WP PT fr lo k (pc + 1, L, .int (f i.toNatClampNeg) :: r, h, 198, sl) Q) : pm_WP PT fr lo k (pc, L, .int i :: .ref a :: r, h, 198, sl) Q := by
  refine wp_i hi rfl rfl ?_ kk
  show pm_ia PT .int pc L (.int i :: .ref a :: r) h 198 sl = _
  unfold pm_ia
  dsimp only
  rw [pm_iar_m ha hl]
  dsimp only
  rw [if_pos hin]
theorem wp_ism {a n : Nat} {i x : Int32} {f : Nat → Int32} (hi : pm_ins PT k pc = some (.iastore, 1)) (ha : h a = .inl (0, n, .inl f)) (hin : pm_in i n = true) (hl : a < 198) (kk : pm_WP PT fr lo k (pc + 1, L, r, aset h a n (upd f i.toNatClampNeg x), 198, sl) Q) : pm_WP PT fr lo k (pc, L, .int x :: .int i :: .ref a :: r, h, 198, sl) Q := by
  refine wp_i hi rfl rfl ?_ kk
  show pm_iS PT .int (fun x => x) pc L (.int x :: .int i :: .ref a :: r) h 198 sl = _
  unfold pm_iS
  dsimp only
  rw [pm_iar_m ha hl]
  dsimp only
  rw [if_pos hin]
  rfl
theorem wp_callS {T : pm_Tab} {sz t mx j : Nat} {As rest : List Value} (hi : pm_ins T k pc = some (.invokestatic j, 3)) (hm : pm_mlk T (pm_o T k) j = some (2, t)) (hn : pm_na T t = As.length) (hmx : pm_max T t = mx) (hsum : pm_sum rest ≤ 8) (ha : (pm_args As).length ≤ mx) (hf : 1 ≤ fr) (hl : 19 + mx ≤ lo)
    (kk : pm_WP T (fr - 1) (lo - (19 + mx)) t (0, pm_l0 As mx, [], h, sz, sl) (fun r => pm_WP T fr lo k (pc + 3, L, r.1.toList ++ rest, r.2) Q)) : pm_WP T fr lo k (pc, L, As.reverse ++ rest, h, sz, sl) Q := by
  refine wp_call (As := As) (rest := rest) ?_ hmx hf hl kk
  have htk : (As.reverse ++ rest).take As.length = As.reverse := by rw [← List.length_reverse, List.take_left']; rfl
  have hdr : (As.reverse ++ rest).drop As.length = rest := by rw [← List.length_reverse, List.drop_left']; rfl
  unfold pm_cd
  dsimp only
  rw [hi]
  dsimp only
  have hcal : pm_callee T k (.invokestatic j) = some (2, t) := by
    unfold pm_callee
    dsimp only
    rw [hm]
    rfl
  rw [if_pos (show pm_lenOk (Instr.invokestatic j) 3 = true from rfl), hcal]
  dsimp only
  rw [hn, htk, hdr, List.reverse_reverse, hmx]
  refine if_pos ⟨?_, ?_, hsum, ha⟩
  · rw [List.length_append, List.length_reverse]
    omega
  · unfold pm_rcv
    rw [if_pos (Or.inl rfl)]
/-- a method of the model's object -/
theorem wp_callM {t mx j : Nat} {As rest : List Value} (hi : pm_ins PT k pc = some (.invokevirtual j, 3)) (hm : pm_mlk PT (pm_o PT k) j = some (0, t)) (hn : pm_na PT t = As.length + 1) (hmx : pm_max PT t = mx) (hsum : pm_sum rest ≤ 8) (ha : (pm_args (.ref 162 :: As)).length ≤ mx) (hf : 1 ≤ fr) (hl : 19 + mx ≤ lo) (hci : pm_ci PT t = 11) (ho : ∃ fs, h 162 = .inr (11, fs))
    (kk : pm_WP PT (fr - 1) (lo - (19 + mx)) t (0, pm_l0 (.ref 162 :: As) mx, [], h, 198, sl) (fun r => pm_WP PT fr lo k (pc + 3, L, r.1.toList ++ rest, r.2) Q)) : pm_WP PT fr lo k (pc, L, As.reverse ++ .ref 162 :: rest, h, 198, sl) Q := by
  refine wp_call (As := .ref 162 :: As) (rest := rest) ?_ hmx hf hl kk
  have hS : As.reverse ++ Value.ref 162 :: rest = (Value.ref 162 :: As).reverse ++ rest := by simp
  have hn' : pm_na PT t = (Value.ref 162 :: As).length := by simp [hn]
  rw [hS]
  generalize hA : (Value.ref 162 :: As) = A1 at hn' ha ⊢
  have htk : (A1.reverse ++ rest).take A1.length = A1.reverse := by rw [← List.length_reverse, List.take_left']; rfl
  have hdr : (A1.reverse ++ rest).drop A1.length = rest := by rw [← List.length_reverse, List.drop_left']; rfl
  unfold pm_cd
  dsimp only
  rw [hi]
  dsimp only
  have hcal : pm_callee PT k (.invokevirtual j) = some (0, t) := by
    unfold pm_callee
    dsimp only
    rw [hm]
    rfl
  rw [if_pos (show pm_lenOk (Instr.invokevirtual j) 3 = true from rfl), hcal]
  dsimp only
  rw [hn', htk, hdr, List.reverse_reverse, hmx]
  refine if_pos ⟨?_, ?_, hsum, ha⟩
  · rw [List.length_append, List.length_reverse]
    omega
  · rw [← hA]
    unfold pm_rcv
    rw [if_neg (by omega)]
    obtain ⟨fs, e⟩ := ho
    dsimp only [pm_obj]
    rw [if_pos (by decide), e]
    dsimp only
    rw [hci]
    rfl
theorem wp_iret {T : pm_Tab} {sz : Nat} {v : Int32} (hi : pm_ins T k pc = some (.ireturn, 1)) (hr : pm_ret T k = some .int) (hq : Q (some (.int v), h, sz, sl)) : pm_WP T fr lo k (pc, L, [.int v], h, sz, sl) Q := by
  refine wp_end (r := (some (.int v), h, sz, sl)) ?_ hq
  unfold pm_end
  dsimp only
  rw [hi]
  dsimp only [pm_lenOk, pm_rets]
  rw [hr]
  rfl
theorem wp_lret {T : pm_Tab} {sz : Nat} {v : Int64} (hi : pm_ins T k pc = some (.lreturn, 1)) (hr : pm_ret T k = some .long) (hq : Q (some (.long v), h, sz, sl)) : pm_WP T fr lo k (pc, L, [.long v], h, sz, sl) Q := by
  refine wp_end (r := (some (.long v), h, sz, sl)) ?_ hq
  unfold pm_end
  dsimp only
  rw [hi]
  dsimp only [pm_lenOk, pm_rets]
  rw [hr]
  rfl
theorem wp_vret {T : pm_Tab} {sz : Nat} (hi : pm_ins T k pc = some (.return_, 1)) (hr : pm_ret T k = none) (hq : Q (none, h, sz, sl)) : pm_WP T fr lo k (pc, L, [], h, sz, sl) Q := by
  refine wp_end (r := (none, h, sz, sl)) ?_ hq
  unfold pm_end
  dsimp only
  rw [hi]
  dsimp only [pm_lenOk, pm_rets]
  rw [hr]
  rfl
theorem wp_zret {T : pm_Tab} {sz : Nat} {v : Int32} (hi : pm_ins T k pc = some (.ireturn, 1)) (hr : pm_ret T k = some .boolean) (hv : v = 0 ∨ v = 1) (hq : Q (some (.int v), h, sz, sl)) : pm_WP T fr lo k (pc, L, [.int v], h, sz, sl) Q := by
  refine wp_end (r := (some (.int v), h, sz, sl)) ?_ hq
  unfold pm_end
  dsimp only
  rw [hi]
  dsimp only [pm_lenOk, pm_rets]
  rw [hr]
  dsimp only
  rw [if_pos hv]
  rfl
theorem rs_t {c : Jvm.ClassFile.Cond} {x y : Int32} {P : Prop} [d : Decidable P] (e : pm_cmp c x y = decide P) : (pm_cmp c x y = true → P) ∧ (pm_cmp c x y = false → ¬ P) := by
  rw [e]
  exact ⟨of_decide_eq_true, of_decide_eq_false⟩
end HND
/-! numbers -/
section NUM
theorem hI_mul (a b : Nat) : nI a * nI b = nI (a * b) := (Int32.ofNat_mul a b).symm
theorem hI_in {a n : Nat} (h : a < n) (hn : n < 2 ^ 31) : pm_in (nI a) n = true := decide_eq_true (nI_in h hn)
theorem hI_eq {a b : Nat} (ha : a < 2 ^ 31) (hb : b < 2 ^ 31) : pm_cmp .eq (nI a) (nI b) = decide (a = b) := by simp only [pm_cmp]; rw [decide_eq_decide]; exact nI_eq ha hb
theorem hI_ne {a b : Nat} (ha : a < 2 ^ 31) (hb : b < 2 ^ 31) : pm_cmp .ne (nI a) (nI b) = decide (¬ a = b) := by simp only [pm_cmp]; rw [decide_eq_decide]; exact not_congr (nI_eq ha hb)
theorem hI_lt {a b : Nat} (ha : a < 2 ^ 31) (hb : b < 2 ^ 31) : pm_cmp .lt (nI a) (nI b) = decide (a < b) := by simp only [pm_cmp]; rw [decide_eq_decide]; exact nI_ltI ha hb
theorem hI_gt {a b : Nat} (ha : a < 2 ^ 31) (hb : b < 2 ^ 31) : pm_cmp .gt (nI a) (nI b) = decide (b < a) := by simp only [pm_cmp]; rw [decide_eq_decide]; exact nI_ltI hb ha
theorem hI_le {a b : Nat} (ha : a < 2 ^ 31) (hb : b < 2 ^ 31) : pm_cmp .le (nI a) (nI b) = decide (a ≤ b) := by simp only [pm_cmp]; rw [decide_eq_decide]; exact nI_leI ha hb
theorem hI_ge {a b : Nat} (ha : a < 2 ^ 31) (hb : b < 2 ^ 31) : pm_cmp .ge (nI a) (nI b) = decide (b ≤ a) := by simp only [pm_cmp]; rw [decide_eq_decide]; exact nI_leI hb ha
theorem hI_of {x : Int32} (h : 0 ≤ x.toInt) : ∃ n : Nat, x = nI n ∧ n < 2 ^ 31 ∧ x.toInt = n := by
  have h2 := Int32.toInt_lt x
  refine ⟨x.toInt.toNat, ?_, by omega, by omega⟩
  apply Int32.toInt_inj.1
  rw [nI_toInt (by omega)]
  omega
end NUM
/-! what a run changes: the cells C, the fields G of the model's object -/
section DIF
def dD (C G : Nat → Bool) (h h' : pm_H) : Prop := (∀ i, i ≠ 162 → C i = false → h' i = h i) ∧ ∀ fs, h 162 = .inr (11, fs) → ∃ fs', h' 162 = .inr (11, fs') ∧ fs'.length = fs.length ∧ ∀ g, G g = false → fs'[g]? = fs[g]?
variable {C G C' G' : Nat → Bool} {h h' h'' : pm_H}
theorem dD_rf (h : pm_H) : dD C G h h := ⟨fun _ _ _ => rfl, fun fs e => ⟨fs, e, rfl, fun _ _ => rfl⟩⟩
theorem dD_tr (p : dD C G h h') (q : dD C G h' h'') : dD C G h h'' := by
  refine ⟨fun i a b => (q.1 i a b).trans (p.1 i a b), fun fs e => ?_⟩
  obtain ⟨fs1, e1, l1, g1⟩ := p.2 fs e
  obtain ⟨fs2, e2, l2, g2⟩ := q.2 fs1 e1
  exact ⟨fs2, e2, l2.trans l1, fun g hg => (g2 g hg).trans (g1 g hg)⟩
theorem dD_mono (p : dD C G h h') (hC : ∀ i, C' i = false → C i = false) (hG : ∀ i, G' i = false → G i = false) : dD C' G' h h' := by
  refine ⟨fun i a b => p.1 i a (hC i b), fun fs e => ?_⟩
  obtain ⟨fs1, e1, l1, g1⟩ := p.2 fs e
  exact ⟨fs1, e1, l1, fun g hg => g1 g (hG g hg)⟩
theorem dD_set {f : Nat} {v : Value} (hf : G f = true) : dD C G h (mset h f v) := by
  refine ⟨fun i a _ => mset_ne a, fun fs e => ⟨fs.set f v, by rw [mset_of e]; simp [va_up], by simp, fun g hg => ?_⟩⟩
  have : f ≠ g := fun q => by rw [q, hg] at hf; cases hf
  rw [List.getElem?_set_ne this]
theorem dD_arr {a n : Nat} {f : Nat → Int32} (ha : C a = true) (ha2 : 162 ≠ a) : dD C G h (aset h a n f) := by
  refine ⟨fun i _ b => aset_nei (fun q => by rw [q, ha] at b; cases b), fun fs e => ⟨fs, ?_, rfl, fun _ _ => rfl⟩⟩
  rw [aset_nei ha2]
  exact e
theorem dD_mF {f : Nat} {v : Value} (p : dD C G h h') (hf : G f = false) (q : mF h f v) : mF h' f v := by
  obtain ⟨fs, e, e1⟩ := q
  obtain ⟨fs', e', -, g⟩ := p.2 fs e
  exact ⟨fs', e', (g f hf).trans e1⟩
theorem dD_obj (p : dD C G h h') (q : ∃ fs, h 162 = .inr (11, fs)) : ∃ fs, h' 162 = .inr (11, fs) := by
  obtain ⟨fs, e⟩ := q
  obtain ⟨fs', e', -⟩ := p.2 fs e
  exact ⟨fs', e'⟩
/-- the typing is kept -/
theorem dD_ty (hh : ah_ok bB 198 [] h) (p : dD C G h h') (hC : ∀ i, C i = true → i ≠ 162 → i < 198 → ac_ok (h' i) (bB i)) (hG : ∀ g, G g = true → ∀ a, sp_fld bB [] 162 g = some a → ∃ v, mF h' g v ∧ av_ok v a) : ah_ok bB 198 [] h' := by
  intro i hi
  show ac_ok (h' i) (bB i)
  by_cases e : i = 162
  · subst e
    have h0 : ac_ok (h 162) (bB 162) := hh 162 hi
    have hb : ∃ as, bB 162 = .inr (11, as) := ⟨_, rfl⟩
    obtain ⟨as, eb⟩ := hb
    rw [eb] at h0 ⊢
    obtain ⟨fs, ef, hl, hg⟩ := aE_obj h0 (by decide)
    obtain ⟨fs', ef', hl', hg'⟩ := p.2 fs ef
    rw [ef']
    refine ⟨⟨rfl, by decide⟩, hl'.trans hl, fun j v a hv ha => ?_⟩
    cases hq : G j with
    | false => exact hg j v a (by rw [← hg' j hq]; exact hv) ha
    | true =>
      obtain ⟨w, ⟨fs2, e2, e3⟩, hw⟩ := hG j hq a (by unfold sp_fld; rw [show ah_get bB [] 162 = bB 162 from rfl, eb]; exact ha)
      rw [ef'] at e2
      cases e2
      rw [hv] at e3
      cases e3
      exact hw
  · cases hc : C i with
    | false => rw [p.1 i e hc]; exact hh i hi
    | true => exact hC i hc e hi
theorem ty_fld (hh : ah_ok bB 198 [] h) {g : Nat} {a : av} (ha : sp_fld bB [] 162 g = some a) : ∃ v, mF h g v ∧ av_ok v a := by
  have h0 : ac_ok (h 162) (bB 162) := hh 162 (by decide)
  have hb : ∃ as, bB 162 = .inr (11, as) := ⟨_, rfl⟩
  obtain ⟨as, eb⟩ := hb
  rw [eb] at h0
  obtain ⟨fs, ef, hl, hg⟩ := aE_obj h0 (by decide)
  unfold sp_fld at ha
  rw [show ah_get bB [] 162 = bB 162 from rfl, eb] at ha
  have ha : as[g]? = some a := ha
  have hlt : g < fs.length := by have := (List.getElem?_eq_some_iff.mp ha).1; omega
  exact ⟨fs[g], ⟨fs, ef, List.getElem?_eq_getElem hlt⟩, hg g fs[g] a (List.getElem?_eq_getElem hlt) ha⟩
theorem ty_ref (hh : ah_ok bB 198 [] h) {g : Nat} {p : Nat} (ha : sp_fld bB [] 162 g = some (2, (p : Int), 1)) : mF h g (.ref p) := by
  obtain ⟨v, h1, h2⟩ := ty_fld hh ha
  obtain ⟨q, rfl, hq⟩ := av_ref rfl h2
  have : q = p := by simpa [av_ids] using hq
  subst this
  exact h1
theorem ty_int (hh : ah_ok bB 198 [] h) {g : Nat} {l u : Int} (ha : sp_fld bB [] 162 g = some (0, l, u)) : ∃ x : Int32, mF h g (.int x) ∧ l ≤ x.toInt ∧ x.toInt ≤ u := by
  obtain ⟨v, h1, h2⟩ := ty_fld hh ha
  obtain ⟨x, rfl, h3⟩ := av_int rfl h2
  exact ⟨x, h1, h3⟩
/-- a field that holds a number from 0 to u -/
theorem ty_nat (hh : ah_ok bB 198 [] h) {g u : Nat} (ha : sp_fld bB [] 162 g = some (0, 0, (u : Int))) (hu : u < 1000000) : ∃ n : Nat, mF h g (.int (nI n)) ∧ n ≤ u := by
  obtain ⟨x, h1, h2, h3⟩ := ty_int hh ha
  have h4 := Int32.toInt_lt x
  refine ⟨x.toInt.toNat, ?_, by omega⟩
  have : nI x.toInt.toNat = x := by
    apply Int32.toInt_inj.1
    rw [nI_toInt (by omega)]
    omega
  rw [this]
  exact h1
/-- an array of ints, known by one interval -/
theorem ty_arr (hh : ah_ok bB 198 [] h) {i n : Nat} {a : av} (hi : i < 198) (hb : bB i = .inl (0, n, a)) (ha : a.1 = 0) (hn : 0 < n) : ∃ f : Nat → Int32, h i = .inl (0, n, .inl f) ∧ ∀ j, j < n → a.2.1 ≤ (f j).toInt ∧ (f j).toInt ≤ a.2.2 := by
  have h0 : ac_ok (h i) (bB i) := hh i hi
  rw [hb] at h0
  cases e : h i with
  | inr o => rw [e] at h0; obtain ⟨ci, fs⟩ := o; exact h0.elim
  | inl o =>
    rw [e] at h0
    obtain ⟨kd, m, f | f | f | f | f⟩ := o
    · obtain ⟨rfl, rfl, q⟩ := h0
      exact ⟨f, rfl, fun j hj => (q j hj).2⟩
    · obtain ⟨rfl, rfl, q⟩ := h0
      have := (q 0 hn).1
      omega
    · exact h0.elim
    · exact h0.elim
    · obtain ⟨rfl, rfl, q⟩ := h0
      have q := q 0 hn
      unfold aq at q
      rw [if_neg (by omega)] at q
      cases e2 : f 0 with
      | none => rw [e2] at q; have q : a.1 = 3 := q; omega
      | some p => rw [e2] at q; have := q.1; omega
/-- an array of ints, known place by place -/
theorem ty_arrE (hh : ah_ok bB 198 [] h) {i : Nat} {as : List av} (hi : i < 198) (hb : bB i = .inr (1000, as)) : ∃ f : Nat → Int32, h i = .inl (0, as.length, .inl f) ∧ ∀ j a, as[j]? = some a → av_ok (.int (f j)) a := by
  have h0 : ac_ok (h i) (bB i) := hh i hi
  rw [hb] at h0
  cases e : h i with
  | inr o => rw [e] at h0; obtain ⟨ci, fs⟩ := o; have := h0.1.2; have h2 := h0.1.1; omega
  | inl o =>
    rw [e] at h0
    obtain ⟨kd, m, f | f | f | f | f⟩ := o
    · obtain ⟨q1, rfl, q⟩ := h0
      have : kd = 0 := by omega
      subst this
      exact ⟨f, rfl, q⟩
    · exact h0.elim
    · exact h0.elim
    · exact h0.elim
    · exact h0.elim
end DIF
end MG49cxr00x8
section MG49cxr00x9
/-! length and charAt of a constant -/
section LIBW
variable {k fr lo pc sl : Nat} {L : pm_L} {r : List Value} {h : pm_H} {Q : pm_Rs → Prop}
theorem wp_libL {j i x : Nat} (hi : pm_ins PT k pc = some (.invokevirtual j, 3)) (hm : pm_mlk PT (pm_o PT k) j = some (10, x)) (h5 : i < 5) (hf : 5 ≤ fr) (hl : 200 ≤ lo) (hs : pm_sum r ≤ 8) (kk : pm_WP PT fr lo k (pc + 3, L, .int (nI (st_tx i).length) :: r, h, 198, sl) Q) : pm_WP PT fr lo k (pc, L, .retAddr i :: r, h, 198, sl) Q := by
  refine wp_i hi rfl ?_ ?_ kk
  · unfold pm_callee
    dsimp only
    rw [hm]
    rfl
  · show pm_libV PT fr lo k j pc L (.retAddr i :: r) h 198 sl = _
    unfold pm_libV
    rw [hm]
    exact if_pos ⟨h5, hf, hl, hs⟩
theorem wp_libC {j i x : Nat} {n : Int32} (hi : pm_ins PT k pc = some (.invokevirtual j, 3)) (hm : pm_mlk PT (pm_o PT k) j = some (11, x)) (h5 : i < 5) (hf : 5 ≤ fr) (hl : 200 ≤ lo) (hs : pm_sum r ≤ 8) (hn : pm_in n (st_tx i).length = true) (kk : pm_WP PT fr lo k (pc + 3, L, .int ((st_tx i).getD n.toNatClampNeg 0) :: r, h, 198, sl) Q) : pm_WP PT fr lo k (pc, L, .int n :: .retAddr i :: r, h, 198, sl) Q := by
  refine wp_i hi rfl ?_ ?_ kk
  · unfold pm_callee
    dsimp only
    rw [hm]
    rfl
  · show pm_libV PT fr lo k j pc L (.int n :: .retAddr i :: r) h 198 sl = _
    unfold pm_libV
    rw [hm]
    exact if_pos ⟨h5, hf, hl, hs, hn⟩
end LIBW
/-! the reference's small methods, by hand: what they answer, what they do -/
section PRM
variable {fr lo sl : Nat} {h : pm_H}
theorem lgc_lt (x y : Int64) : pm_cmp .lt (lg_cmp x y) 0 = decide (x < y) := by
  simp only [pm_cmp]
  rw [decide_eq_decide]
  exact lg_cmp_lt x y
theorem lgc_gt (x y : Int64) : pm_cmp .gt (lg_cmp x y) 0 = decide (y < x) := by
  simp only [pm_cmp]
  rw [decide_eq_decide]
  exact lg_cmp_gt x y
def in_b (v l u : Int64) : Bool := !(decide (v < l)) && !(decide (u < v))
theorem hd_in (v l u : Int64) : pm_WP PT fr lo 163 (0, pm_l0 [.long v, .long l, .long u] 6, [], h, 198, sl) (fun r => r = (some (.int (cond (in_b v l u) 1 0)), h, 198, sl)) := by
  refine wp_i rfl rfl rfl rfl ?_
  refine wp_i rfl rfl rfl rfl ?_
  refine wp_i rfl rfl rfl rfl ?_
  show pm_WP PT fr lo 163 (3, [some (.long v), none, some (.long l), none, some (.long u), none], [.int (lg_cmp v l)], h, 198, sl) _
  refine wp_if (c := .lt) (off := 14) (t := 17) rfl rfl (fun q => ?_) (fun q => ?_)
  · have q : v < l := of_decide_eq_true ((lgc_lt v l).symm.trans q)
    have e : in_b v l u = false := by simp [in_b, q]
    rw [e]
    refine wp_i rfl rfl rfl rfl ?_
    show pm_WP PT fr lo 163 (18, [some (.long v), none, some (.long l), none, some (.long u), none], [.int 0], h, 198, sl) _
    exact wp_zret rfl rfl (by decide) rfl
  · have q1 : ¬ v < l := of_decide_eq_false ((lgc_lt v l).symm.trans q)
    refine wp_i rfl rfl rfl rfl ?_
    refine wp_i rfl rfl rfl rfl ?_
    refine wp_i rfl rfl rfl rfl ?_
    show pm_WP PT fr lo 163 (10, [some (.long v), none, some (.long l), none, some (.long u), none], [.int (lg_cmp v u)], h, 198, sl) _
    refine wp_if (c := .gt) (off := 7) (t := 17) rfl rfl (fun q => ?_) (fun q => ?_)
    · have q2 : u < v := of_decide_eq_true ((lgc_gt v u).symm.trans q)
      have e : in_b v l u = false := by simp [in_b, q2]
      rw [e]
      refine wp_i rfl rfl rfl rfl ?_
      show pm_WP PT fr lo 163 (18, [some (.long v), none, some (.long l), none, some (.long u), none], [.int 0], h, 198, sl) _
      exact wp_zret rfl rfl (by decide) rfl
    · have q2 : ¬ u < v := of_decide_eq_false ((lgc_gt v u).symm.trans q)
      have e : in_b v l u = true := by simp [in_b, q1, q2]
      rw [e]
      refine wp_i rfl rfl rfl rfl ?_
      refine wp_i rfl rfl rfl rfl ?_
      show pm_WP PT fr lo 163 (18, [some (.long v), none, some (.long l), none, some (.long u), none], [.int 1], h, 198, sl) _
      exact wp_zret rfl rfl (by decide) rfl
theorem hd_flag (b : Bool) : pm_WP PT fr lo 165 (0, pm_l0 [.int (cond b 1 0)] 1, [], h, 198, sl) (fun r => r = (some (.int (cond b 1 0)), h, 198, sl)) := by
  cases b with
  | true =>
    refine wp_i rfl rfl rfl rfl ?_
    refine wp_i rfl rfl rfl rfl ?_
    refine wp_i rfl rfl rfl rfl ?_
    refine wp_i rfl rfl rfl rfl ?_
    show pm_WP PT fr lo 165 (9, [some (.int 1)], [.int 1], h, 198, sl) _
    exact wp_iret rfl rfl rfl
  | false =>
    refine wp_i rfl rfl rfl rfl ?_
    refine wp_i rfl rfl rfl rfl ?_
    refine wp_i rfl rfl rfl rfl ?_
    show pm_WP PT fr lo 165 (9, [some (.int 0)], [.int 0], h, 198, sl) _
    exact wp_iret rfl rfl rfl
theorem hd_takes {a t : Nat} {tp : Nat → Int32} (h16 : mF h 16 (.int (nI a))) (h17 : mF h 17 (.int (nI t))) (h14 : mF h 14 (.ref 172)) (hA : h 172 = .inl (0, 80, .inl tp)) (ht : t ≤ 80) (ha : a < 1000) (hf : 2 ≤ fr) (hl : 100 ≤ lo) (s : Int32) : pm_WP PT fr lo 181 (0, pm_l0 [.ref 162, .int s] 3, [], h, 198, sl) (fun r => r = (some (.int (cond (decide (a < t ∧ tp a = s)) 1 0)), mset h 16 (.int (nI (a + cond (decide (a < t ∧ tp a = s)) 1 0))), 198, sl)) := by
  have tail : ∀ c : Bool, pm_WP PT fr lo 181 (29, [some (.ref 162), some (.int s), none], [.int (cond c 1 0)], h, 198, sl) (fun r => r = (some (.int (cond c 1 0)), mset h 16 (.int (nI (a + cond c 1 0))), 198, sl)) := by
    intro c
    refine wp_i rfl rfl rfl rfl ?_
    refine wp_i rfl rfl rfl rfl ?_
    refine wp_i rfl rfl rfl rfl ?_
    show pm_WP PT fr lo 181 (32, [some (.ref 162), some (.int s), some (.int (cond c 1 0))], [.ref 162, .ref 162], h, 198, sl) _
    refine wp_gfm rfl rfl h16 ?_
    refine wp_i rfl rfl rfl rfl ?_
    show pm_WP PT fr lo 181 (36, [some (.ref 162), some (.int s), some (.int (cond c 1 0))], [.int (cond c 1 0), .int (nI a), .ref 162], h, 198, sl) _
    refine wp_callS (t := 165) (As := [.int (cond c 1 0)]) (rest := [.int (nI a), .ref 162]) (mx := 1) rfl rfl rfl rfl (Nat.le_of_ble_eq_true rfl) (Nat.le_of_ble_eq_true rfl) (by omega) (by omega) (wp_mono (hd_flag c) ?_)
    rintro _ rfl
    have e1 : nI a + cond c 1 0 = nI (a + cond c 1 0) := by cases c; exact nI_add a 0; exact nI_add a 1
    refine wp_i rfl rfl rfl rfl ?_
    show pm_WP PT fr lo 181 (40, [some (.ref 162), some (.int s), some (.int (cond c 1 0))], [.int (nI a + cond c 1 0), .ref 162], h, 198, sl) _
    rw [e1]
    show pm_WP PT fr lo 181 (40, [some (.ref 162), some (.int s), some (.int (cond c 1 0))], [.int (nI (a + cond c 1 0)), .ref 162], h, 198, sl) _
    refine wp_pfm rfl rfl rfl (by decide) h16 ?_
    refine wp_i rfl rfl rfl rfl ?_
    show pm_WP PT fr lo 181 (44, [some (.ref 162), some (.int s), some (.int (cond c 1 0))], [.int (cond c 1 0)], (mset h 16 (.int (nI (a + cond c 1 0)))), 198, sl) _
    exact wp_zret rfl rfl (by cases c; exact Or.inl rfl; exact Or.inr rfl) rfl
  refine wp_i rfl rfl rfl rfl ?_
  show pm_WP PT fr lo 181 (1, [some (.ref 162), some (.int s), none], [.ref 162], h, 198, sl) _
  refine wp_gfm rfl rfl h16 ?_
  refine wp_i rfl rfl rfl rfl ?_
  show pm_WP PT fr lo 181 (5, [some (.ref 162), some (.int s), none], [.ref 162, .int (nI a)], h, 198, sl) _
  refine wp_gfm rfl rfl h17 ?_
  show pm_WP PT fr lo 181 (8, [some (.ref 162), some (.int s), none], [.int (nI t), .int (nI a)], h, 198, sl) _
  refine wp_icmp (c := .ge) (off := 20) (t := 28) rfl rfl (fun q => ?_) (fun q => ?_)
  · have q : t ≤ a := of_decide_eq_true ((hI_ge (by omega) (by omega)).symm.trans q)
    rw [decide_eq_false (by omega)]
    refine wp_i rfl rfl rfl rfl ?_
    show pm_WP PT fr lo 181 (29, [some (.ref 162), some (.int s), none], [.int 0], h, 198, sl) _
    exact tail false
  · have q0 : ¬ t ≤ a := of_decide_eq_false ((hI_ge (by omega) (by omega)).symm.trans q)
    refine wp_i rfl rfl rfl rfl ?_
    show pm_WP PT fr lo 181 (12, [some (.ref 162), some (.int s), none], [.ref 162], h, 198, sl) _
    refine wp_gfm rfl rfl h14 ?_
    refine wp_i rfl rfl rfl rfl ?_
    show pm_WP PT fr lo 181 (16, [some (.ref 162), some (.int s), none], [.ref 162, .ref 172], h, 198, sl) _
    refine wp_gfm rfl rfl h16 ?_
    show pm_WP PT fr lo 181 (19, [some (.ref 162), some (.int s), none], [.int (nI a), .ref 172], h, 198, sl) _
    refine wp_iam rfl hA (hI_in (by omega) (by omega)) (by decide) ?_
    rw [nI_clamp (by omega)]
    refine wp_i rfl rfl rfl rfl ?_
    show pm_WP PT fr lo 181 (21, [some (.ref 162), some (.int s), none], [.int s, .int (tp a)], h, 198, sl) _
    refine wp_icmp (c := .ne) (off := 7) (t := 28) rfl rfl (fun q => ?_) (fun q => ?_)
    · have q : ¬ tp a = s := (rs_t (P := ¬ tp a = s) rfl).1 q
      rw [decide_eq_false (fun z => q z.2)]
      refine wp_i rfl rfl rfl rfl ?_
      show pm_WP PT fr lo 181 (29, [some (.ref 162), some (.int s), none], [.int 0], h, 198, sl) _
      exact tail false
    · have q : tp a = s := Decidable.not_not.mp ((rs_t (P := ¬ tp a = s) rfl).2 q)
      rw [decide_eq_true ⟨by omega, q⟩]
      refine wp_i rfl rfl rfl rfl ?_
      refine wp_i rfl rfl rfl rfl ?_
      show pm_WP PT fr lo 181 (29, [some (.ref 162), some (.int s), none], [.int 1], h, 198, sl) _
      exact tail true
def dg (tp : Nat → Int32) (a t : Nat) : Bool := decide (a < t) && in_b (tp a).toInt64 48 57
theorem hd_isDigit {a t : Nat} {tp : Nat → Int32} (h16 : mF h 16 (.int (nI a))) (h17 : mF h 17 (.int (nI t))) (h14 : mF h 14 (.ref 172)) (hA : h 172 = .inl (0, 80, .inl tp)) (ht : t ≤ 80) (ha : a < 1000) (hf : 2 ≤ fr) (hl : 100 ≤ lo) : pm_WP PT fr lo 182 (0, pm_l0 [.ref 162] 1, [], h, 198, sl) (fun r => r = (some (.int (cond (dg tp a t) 1 0)), h, 198, sl)) := by
  refine wp_i rfl rfl rfl rfl ?_
  show pm_WP PT fr lo 182 (1, [some (.ref 162)], [.ref 162], h, 198, sl) _
  refine wp_gfm rfl rfl h16 ?_
  refine wp_i rfl rfl rfl rfl ?_
  show pm_WP PT fr lo 182 (5, [some (.ref 162)], [.ref 162, .int (nI a)], h, 198, sl) _
  refine wp_gfm rfl rfl h17 ?_
  show pm_WP PT fr lo 182 (8, [some (.ref 162)], [.int (nI t), .int (nI a)], h, 198, sl) _
  refine wp_icmp (c := .ge) (off := 29) (t := 37) rfl rfl (fun q => ?_) (fun q => ?_)
  · have q : t ≤ a := of_decide_eq_true ((hI_ge (by omega) (by omega)).symm.trans q)
    have e : dg tp a t = false := by simp [dg]; omega
    rw [e]
    refine wp_i rfl rfl rfl rfl ?_
    show pm_WP PT fr lo 182 (38, [some (.ref 162)], [.int 0], h, 198, sl) _
    exact wp_zret rfl rfl (by decide) rfl
  · have q0 : ¬ t ≤ a := of_decide_eq_false ((hI_ge (by omega) (by omega)).symm.trans q)
    refine wp_i rfl rfl rfl rfl ?_
    show pm_WP PT fr lo 182 (12, [some (.ref 162)], [.ref 162], h, 198, sl) _
    refine wp_gfm rfl rfl h14 ?_
    refine wp_i rfl rfl rfl rfl ?_
    show pm_WP PT fr lo 182 (16, [some (.ref 162)], [.ref 162, .ref 172], h, 198, sl) _
    refine wp_gfm rfl rfl h16 ?_
    show pm_WP PT fr lo 182 (19, [some (.ref 162)], [.int (nI a), .ref 172], h, 198, sl) _
    refine wp_iam rfl hA (hI_in (by omega) (by omega)) (by decide) ?_
    rw [nI_clamp (by omega)]
    refine wp_i rfl rfl rfl rfl ?_
    refine wp_i rfl rfl rfl rfl ?_
    refine wp_i rfl rfl rfl rfl ?_
    show pm_WP PT fr lo 182 (27, [some (.ref 162)], [.long 57, .long 48, .long ((tp a)).toInt64], h, 198, sl) _
    refine wp_callS (t := 163) (As := [.long ((tp a)).toInt64, .long 48, .long 57]) (rest := []) (mx := 6) rfl rfl rfl rfl (Nat.le_of_ble_eq_true rfl) (Nat.le_of_ble_eq_true rfl) (by omega) (by omega) (wp_mono (hd_in (tp a).toInt64 48 57) ?_)
    rintro _ rfl
    have e : dg tp a t = in_b (tp a).toInt64 48 57 := by simp [dg, show a < t by omega]
    rw [e]
    cases in_b (tp a).toInt64 48 57 with
    | true =>
      refine wp_i rfl rfl rfl rfl ?_
      refine wp_i rfl rfl rfl rfl ?_
      refine wp_i rfl rfl rfl rfl ?_
      show pm_WP PT fr lo 182 (38, [some (.ref 162)], [.int 1], h, 198, sl) _
      exact wp_zret rfl rfl (by decide) rfl
    | false =>
      refine wp_i rfl rfl rfl rfl ?_
      refine wp_i rfl rfl rfl rfl ?_
      show pm_WP PT fr lo 182 (38, [some (.ref 162)], [.int 0], h, 198, sl) _
      exact wp_zret rfl rfl (by decide) rfl
/-- the first sign of the text from k on that stands at a -/
def tko (i : Nat) (tp : Nat → Int32) (a t : Nat) : Nat → Nat → Option Nat
  | 0, _ => none
  | n + 1, k => cond (decide (a < t) && decide ((st_tx i).getD k 0 = tp a)) (some k) (tko i tp a t n (k + 1))
def tkr (h : pm_H) (a : Nat) (sl : Nat) : Option Nat → pm_Rs
  | some k => (some (.int (nI k)), mset h 16 (.int (nI (a + 1))), 198, sl)
  | none => (some (.int (-1)), h, 198, sl)
theorem tko_end {i a t : Nat} {tp : Nat → Int32} (q : ¬ a < t) : ∀ n k, tko i tp a t n k = none
  | 0, _ => rfl
  | n + 1, k => by
    unfold tko
    rw [show (decide (a < t) && decide ((st_tx i).getD k 0 = tp a)) = false by simp [q]]
    exact tko_end q n (k + 1)
theorem st_len {i : Nat} (hi : i < 5) : (st_tx i).length < 100 := (st_all i hi).1
theorem hd_takesOfL {a t : Nat} {tp : Nat → Int32} (h16 : mF h 16 (.int (nI a))) (h17 : mF h 17 (.int (nI t))) (h14 : mF h 14 (.ref 172)) (hA : h 172 = .inl (0, 80, .inl tp)) (ht : t ≤ 80) (ha : a < 1000) (hf : 5 ≤ fr) (hl : 200 ≤ lo) {i : Nat} (hi : i < 5) : ∀ n k : Nat, n + k = (st_tx i).length → pm_WP PT fr lo 183 (2, [some (.ref 162), some (.retAddr i), some (.int (nI k))], [], h, 198, sl) (fun r => r = tkr h a sl (tko i tp a t n k)) := by
  have h100 := st_len hi
  intro n
  induction n with
  | zero =>
    intro k hk
    refine wp_i rfl rfl rfl rfl ?_
    refine wp_i rfl rfl rfl rfl ?_
    show pm_WP PT fr lo 183 (4, [some (.ref 162), some (.retAddr i), some (.int (nI k))], [.retAddr i, .int (nI k)], h, 198, sl) _
    refine wp_libL rfl rfl hi (by omega) (by omega) (Nat.le_of_ble_eq_true rfl) ?_
    show pm_WP PT fr lo 183 (7, [some (.ref 162), some (.retAddr i), some (.int (nI k))], [.int (nI (st_tx i).length), .int (nI k)], h, 198, sl) _
    show pm_WP PT fr lo 183 (7, [some (.ref 162), some (.retAddr i), some (.int (nI k))], [.int (nI (st_tx i).length), .int (nI k)], h, 198, sl) _
    refine wp_icmp (c := .ge) (off := 49) (t := 56) rfl rfl (fun _ => ?_) (fun q => absurd (q.symm.trans ((hI_ge (by omega) (by omega)).trans (decide_eq_true (by omega)))) (by decide))
    refine wp_i rfl rfl rfl rfl ?_
    show pm_WP PT fr lo 183 (57, [some (.ref 162), some (.retAddr i), some (.int (nI k))], [.int (-1)], h, 198, sl) _
    exact wp_iret rfl rfl rfl
  | succ n ih =>
    intro k hk
    refine wp_i rfl rfl rfl rfl ?_
    refine wp_i rfl rfl rfl rfl ?_
    show pm_WP PT fr lo 183 (4, [some (.ref 162), some (.retAddr i), some (.int (nI k))], [.retAddr i, .int (nI k)], h, 198, sl) _
    refine wp_libL rfl rfl hi (by omega) (by omega) (Nat.le_of_ble_eq_true rfl) ?_
    show pm_WP PT fr lo 183 (7, [some (.ref 162), some (.retAddr i), some (.int (nI k))], [.int (nI (st_tx i).length), .int (nI k)], h, 198, sl) _
    show pm_WP PT fr lo 183 (7, [some (.ref 162), some (.retAddr i), some (.int (nI k))], [.int (nI (st_tx i).length), .int (nI k)], h, 198, sl) _
    refine wp_icmp (c := .ge) (off := 49) (t := 56) rfl rfl (fun q => absurd (q.symm.trans ((hI_ge (by omega) (by omega)).trans (decide_eq_false (by omega)))) (by decide)) (fun _ => ?_)
    refine wp_i rfl rfl rfl rfl ?_
    show pm_WP PT fr lo 183 (11, [some (.ref 162), some (.retAddr i), some (.int (nI k))], [.ref 162], h, 198, sl) _
    refine wp_gfm rfl rfl h16 ?_
    refine wp_i rfl rfl rfl rfl ?_
    show pm_WP PT fr lo 183 (15, [some (.ref 162), some (.retAddr i), some (.int (nI k))], [.ref 162, .int (nI a)], h, 198, sl) _
    refine wp_gfm rfl rfl h17 ?_
    show pm_WP PT fr lo 183 (18, [some (.ref 162), some (.retAddr i), some (.int (nI k))], [.int (nI t), .int (nI a)], h, 198, sl) _
    refine wp_icmp (c := .ge) (off := 38) (t := 56) rfl rfl (fun q => ?_) (fun q => ?_)
    · have q : t ≤ a := of_decide_eq_true ((hI_ge (by omega) (by omega)).symm.trans q)
      rw [tko_end (by omega)]
      refine wp_i rfl rfl rfl rfl ?_
      show pm_WP PT fr lo 183 (57, [some (.ref 162), some (.retAddr i), some (.int (nI k))], [.int (-1)], h, 198, sl) _
      exact wp_iret rfl rfl rfl
    · have q0 : ¬ t ≤ a := of_decide_eq_false ((hI_ge (by omega) (by omega)).symm.trans q)
      refine wp_i rfl rfl rfl rfl ?_
      refine wp_i rfl rfl rfl rfl ?_
      show pm_WP PT fr lo 183 (23, [some (.ref 162), some (.retAddr i), some (.int (nI k))], [.int (nI k), .retAddr i], h, 198, sl) _
      refine wp_libC rfl rfl hi (by omega) (by omega) (Nat.le_of_ble_eq_true rfl) (hI_in (by omega) (by omega)) ?_
      rw [nI_clamp (by omega)]
      refine wp_i rfl rfl rfl rfl ?_
      show pm_WP PT fr lo 183 (27, [some (.ref 162), some (.retAddr i), some (.int (nI k))], [.ref 162, .int ((st_tx i).getD k 0)], h, 198, sl) _
      refine wp_gfm rfl rfl h14 ?_
      refine wp_i rfl rfl rfl rfl ?_
      show pm_WP PT fr lo 183 (31, [some (.ref 162), some (.retAddr i), some (.int (nI k))], [.ref 162, .ref 172, .int ((st_tx i).getD k 0)], h, 198, sl) _
      refine wp_gfm rfl rfl h16 ?_
      show pm_WP PT fr lo 183 (34, [some (.ref 162), some (.retAddr i), some (.int (nI k))], [.int (nI a), .ref 172, .int ((st_tx i).getD k 0)], h, 198, sl) _
      refine wp_iam rfl hA (hI_in (by omega) (by omega)) (by decide) ?_
      rw [nI_clamp (by omega)]
      show pm_WP PT fr lo 183 (35, [some (.ref 162), some (.retAddr i), some (.int (nI k))], [.int (tp a), .int ((st_tx i).getD k 0)], h, 198, sl) _
      refine wp_icmp (c := .ne) (off := 15) (t := 50) rfl rfl (fun q => ?_) (fun q => ?_)
      · have q : ¬ (st_tx i).getD k 0 = tp a := (rs_t (P := ¬ (st_tx i).getD k 0 = tp a) rfl).1 q
        have e : tko i tp a t (n + 1) k = tko i tp a t n (k + 1) := by
          conv => lhs; unfold tko
          rw [decide_eq_false q, Bool.and_false]
          rfl
        rw [e]
        refine wp_i rfl rfl rfl rfl ?_
        refine wp_i rfl rfl rfl rfl ?_
        have e2 := ih (k + 1) (by omega)
        rw [← nI_1 k] at e2
        exact e2
      · have q : (st_tx i).getD k 0 = tp a := Decidable.not_not.mp ((rs_t (P := ¬ (st_tx i).getD k 0 = tp a) rfl).2 q)
        have e : tko i tp a t (n + 1) k = some k := by
          unfold tko
          rw [decide_eq_true q, decide_eq_true (show a < t by omega)]
          rfl
        rw [e]
        refine wp_i rfl rfl rfl rfl ?_
        refine wp_i rfl rfl rfl rfl ?_
        show pm_WP PT fr lo 183 (40, [some (.ref 162), some (.retAddr i), some (.int (nI k))], [.ref 162, .ref 162], h, 198, sl) _
        refine wp_gfm rfl rfl h16 ?_
        refine wp_i rfl rfl rfl rfl ?_
        refine wp_i rfl rfl rfl rfl ?_
        show pm_WP PT fr lo 183 (45, [some (.ref 162), some (.retAddr i), some (.int (nI k))], [.int (nI a + 1), .ref 162], h, 198, sl) _
        rw [nI_1 a]
        show pm_WP PT fr lo 183 (45, [some (.ref 162), some (.retAddr i), some (.int (nI k))], [.int (nI (a + 1)), .ref 162], h, 198, sl) _
        refine wp_pfm rfl rfl rfl (by decide) h16 ?_
        refine wp_i rfl rfl rfl rfl ?_
        show pm_WP PT fr lo 183 (49, [some (.ref 162), some (.retAddr i), some (.int (nI k))], [.int (nI k)], (mset h 16 (.int (nI (a + 1)))), 198, sl) _
        exact wp_iret rfl rfl rfl
theorem hd_takesOf {a t : Nat} {tp : Nat → Int32} (h16 : mF h 16 (.int (nI a))) (h17 : mF h 17 (.int (nI t))) (h14 : mF h 14 (.ref 172)) (hA : h 172 = .inl (0, 80, .inl tp)) (ht : t ≤ 80) (ha : a < 1000) (hf : 5 ≤ fr) (hl : 200 ≤ lo) {i : Nat} (hi : i < 5) : pm_WP PT fr lo 183 (0, pm_l0 [.ref 162, .retAddr i] 3, [], h, 198, sl) (fun r => r = tkr h a sl (tko i tp a t (st_tx i).length 0)) := by
  refine wp_i rfl rfl rfl rfl ?_
  refine wp_i rfl rfl rfl rfl ?_
  show pm_WP PT fr lo 183 (2, [some (.ref 162), some (.retAddr i), some (.int 0)], [], h, 198, sl) _
  exact hd_takesOfL h16 h17 h14 hA ht ha hf hl hi _ 0 rfl
/-- so many digits at most, from a on: where it ends, what they tell -/
def nbr (tp : Nat → Int32) (t : Nat) : Nat → Nat → Int32 → Nat × Int32
  | 0, a, v => (a, v)
  | n + 1, a, v => cond (dg tp a t) (nbr tp t n (a + 1) (10 * v + tp a - 48)) (a, v)
theorem dg_lt {tp : Nat → Int32} {a t : Nat} (h : dg tp a t = true) : a < t := by
  unfold dg at h
  rw [Bool.and_eq_true] at h
  exact of_decide_eq_true h.1
theorem hd_numberL {t : Nat} {tp : Nat → Int32} (ht : t ≤ 80) (hf : 3 ≤ fr) (hl : 200 ≤ lo) : ∀ (n k a : Nat) (v : Int32) (h : pm_H), mF h 16 (.int (nI a)) → mF h 17 (.int (nI t)) → mF h 14 (.ref 172) → h 172 = .inl (0, 80, .inl tp) → a < 1000 → k + n < 1000 → pm_WP PT fr lo 184 (13, [some (.ref 162), some (.int (nI (k + n))), some (.int v), some (.int (nI k))], [], h, 198, sl) (fun r => r = (some (.int (nbr tp t n a v).2), mset h 16 (.int (nI (nbr tp t n a v).1)), 198, sl)) := by
  intro n
  induction n with
  | zero =>
    intro k a v h h16 h17 h14 hA ha hk
    refine wp_i rfl rfl rfl rfl ?_
    refine wp_i rfl rfl rfl rfl ?_
    show pm_WP PT fr lo 184 (15, [some (.ref 162), some (.int (nI (k + 0))), some (.int v), some (.int (nI k))], [.int (nI (k + 0)), .int (nI k)], h, 198, sl) _
    refine wp_icmp (c := .ge) (off := 44) (t := 59) rfl rfl (fun _ => ?_) (fun q => absurd (q.symm.trans ((hI_ge (by omega) (by omega)).trans (decide_eq_true (by omega)))) (by decide))
    refine wp_i rfl rfl rfl rfl ?_
    show pm_WP PT fr lo 184 (60, [some (.ref 162), some (.int (nI (k + 0))), some (.int v), some (.int (nI k))], [.int v], h, 198, sl) _
    refine wp_iret rfl rfl ?_
    show _ = (some (Value.int v), mset h 16 (.int (nI a)), 198, sl)
    rw [mset_same h16]
  | succ n ih =>
    intro k a v h h16 h17 h14 hA ha hk
    refine wp_i rfl rfl rfl rfl ?_
    refine wp_i rfl rfl rfl rfl ?_
    show pm_WP PT fr lo 184 (15, [some (.ref 162), some (.int (nI (k + (n + 1)))), some (.int v), some (.int (nI k))], [.int (nI (k + (n + 1))), .int (nI k)], h, 198, sl) _
    refine wp_icmp (c := .ge) (off := 44) (t := 59) rfl rfl (fun q => absurd (q.symm.trans ((hI_ge (by omega) (by omega)).trans (decide_eq_false (by omega)))) (by decide)) (fun _ => ?_)
    refine wp_i rfl rfl rfl rfl ?_
    show pm_WP PT fr lo 184 (19, [some (.ref 162), some (.int (nI (k + (n + 1)))), some (.int v), some (.int (nI k))], [.ref 162], h, 198, sl) _
    refine wp_callM (t := 182) (As := []) (rest := []) (mx := 1) rfl rfl rfl rfl (Nat.le_of_ble_eq_true rfl) (Nat.le_of_ble_eq_true rfl) (by omega) (by omega) rfl (mF_obj h14) (wp_mono (hd_isDigit h16 h17 h14 hA ht ha (by omega) (by omega)) ?_)
    rintro _ rfl
    unfold nbr
    cases hd : dg tp a t with
    | false =>
      refine wp_i rfl rfl rfl rfl ?_
      refine wp_i rfl rfl rfl rfl ?_
      show pm_WP PT fr lo 184 (60, [some (.ref 162), some (.int (nI (k + (n + 1)))), some (.int v), some (.int (nI k))], [.int v], h, 198, sl) _
      refine wp_iret rfl rfl ?_
      show _ = (some (Value.int v), mset h 16 (.int (nI a)), 198, sl)
      rw [mset_same h16]
    | true =>
      have hlt := dg_lt hd
      refine wp_i rfl rfl rfl rfl ?_
      refine wp_i rfl rfl rfl rfl ?_
      refine wp_i rfl rfl rfl rfl ?_
      refine wp_i rfl rfl rfl rfl ?_
      refine wp_i rfl rfl rfl rfl ?_
      show pm_WP PT fr lo 184 (30, [some (.ref 162), some (.int (nI (k + (n + 1)))), some (.int v), some (.int (nI k))], [.ref 162, .int (10 * v)], h, 198, sl) _
      refine wp_gfm rfl rfl h14 ?_
      refine wp_i rfl rfl rfl rfl ?_
      show pm_WP PT fr lo 184 (34, [some (.ref 162), some (.int (nI (k + (n + 1)))), some (.int v), some (.int (nI k))], [.ref 162, .ref 172, .int (10 * v)], h, 198, sl) _
      refine wp_gfm rfl rfl h16 ?_
      show pm_WP PT fr lo 184 (37, [some (.ref 162), some (.int (nI (k + (n + 1)))), some (.int v), some (.int (nI k))], [.int (nI a), .ref 172, .int (10 * v)], h, 198, sl) _
      refine wp_iam rfl hA (hI_in (by omega) (by omega)) (by decide) ?_
      rw [nI_clamp (by omega)]
      refine wp_i rfl rfl rfl rfl ?_
      refine wp_i rfl rfl rfl rfl ?_
      refine wp_i rfl rfl rfl rfl ?_
      refine wp_i rfl rfl rfl rfl ?_
      show pm_WP PT fr lo 184 (43, [some (.ref 162), some (.int (nI (k + (n + 1)))), some (.int (((10 * v) + (tp a)) - 48)), some (.int (nI k))], [], h, 198, sl) _
      refine wp_i rfl rfl rfl rfl ?_
      refine wp_i rfl rfl rfl rfl ?_
      show pm_WP PT fr lo 184 (45, [some (.ref 162), some (.int (nI (k + (n + 1)))), some (.int (((10 * v) + (tp a)) - 48)), some (.int (nI k))], [.ref 162, .ref 162], h, 198, sl) _
      refine wp_gfm rfl rfl h16 ?_
      refine wp_i rfl rfl rfl rfl ?_
      refine wp_i rfl rfl rfl rfl ?_
      show pm_WP PT fr lo 184 (50, [some (.ref 162), some (.int (nI (k + (n + 1)))), some (.int (((10 * v) + (tp a)) - 48)), some (.int (nI k))], [.int (nI a + 1), .ref 162], h, 198, sl) _
      rw [nI_1 a]
      show pm_WP PT fr lo 184 (50, [some (.ref 162), some (.int (nI (k + (n + 1)))), some (.int (((10 * v) + (tp a)) - 48)), some (.int (nI k))], [.int (nI (a + 1)), .ref 162], h, 198, sl) _
      refine wp_pfm rfl rfl rfl (by decide) h16 ?_
      refine wp_i rfl rfl rfl rfl ?_
      refine wp_i rfl rfl rfl rfl ?_
      show pm_WP PT fr lo 184 (13, [some (.ref 162), some (.int (nI (k + (n + 1)))), some (.int (((10 * v) + (tp a)) - 48)), some (.int (nI k + 1))], [], (mset h 16 (.int (nI (a + 1)))), 198, sl) _
      rw [nI_1 k, show k + (n + 1) = (k + 1) + n by omega]
      refine wp_mono (ih (k + 1) (a + 1) (10 * v + tp a - 48) (mset h 16 (.int (nI (a + 1)))) (mF_self h16) (mF_ne (by decide) h17) (mF_ne (by decide) h14) (mset_arr (by decide) hA) (by omega) (by omega)) ?_
      rintro _ rfl
      rw [mset_mset]
      rfl
theorem hd_number {a t : Nat} {tp : Nat → Int32} (h16 : mF h 16 (.int (nI a))) (h17 : mF h 17 (.int (nI t))) (h14 : mF h 14 (.ref 172)) (hA : h 172 = .inl (0, 80, .inl tp)) (ht : t ≤ 80) (ha : a < 1000) (hf : 3 ≤ fr) (hl : 200 ≤ lo) {d : Nat} (hd : d < 900) : pm_WP PT fr lo 184 (0, pm_l0 [.ref 162, .int (nI d)] 4, [], h, 198, sl) (fun r => r = cond (dg tp a t) (some (.int (nbr tp t d a 0).2), mset h 16 (.int (nI (nbr tp t d a 0).1)), 198, sl) (some (.int (-1)), h, 198, sl)) := by
  refine wp_i rfl rfl rfl rfl ?_
  show pm_WP PT fr lo 184 (1, [some (.ref 162), some (.int (nI d)), none, none], [.ref 162], h, 198, sl) _
  refine wp_callM (t := 182) (As := []) (rest := []) (mx := 1) rfl rfl rfl rfl (Nat.le_of_ble_eq_true rfl) (Nat.le_of_ble_eq_true rfl) (by omega) (by omega) rfl (mF_obj h14) (wp_mono (hd_isDigit h16 h17 h14 hA ht ha (by omega) (by omega)) ?_)
  rintro _ rfl
  cases dg tp a t with
  | false =>
    refine wp_i rfl rfl rfl rfl ?_
    refine wp_i rfl rfl rfl rfl ?_
    show pm_WP PT fr lo 184 (8, [some (.ref 162), some (.int (nI d)), none, none], [.int (-1)], h, 198, sl) _
    exact wp_iret rfl rfl rfl
  | true =>
    refine wp_i rfl rfl rfl rfl ?_
    refine wp_i rfl rfl rfl rfl ?_
    refine wp_i rfl rfl rfl rfl ?_
    refine wp_i rfl rfl rfl rfl ?_
    refine wp_i rfl rfl rfl rfl ?_
    show pm_WP PT fr lo 184 (13, [some (.ref 162), some (.int (nI d)), some (.int 0), some (.int 0)], [], h, 198, sl) _
    have e := hd_numberL (fr := fr) (lo := lo) (sl := sl) (tp := tp) ht hf hl d 0 a 0 h h16 h17 h14 hA ha (by omega)
    rw [Nat.zero_add] at e
    exact e
def dgi (tp : Nat → Int32) (a t : Nat) (l u : Int32) : Bool := decide (a < t) && in_b (tp a - 48).toInt64 l.toInt64 u.toInt64
theorem hd_digitIn {a t : Nat} {tp : Nat → Int32} (h16 : mF h 16 (.int (nI a))) (h17 : mF h 17 (.int (nI t))) (h14 : mF h 14 (.ref 172)) (hA : h 172 = .inl (0, 80, .inl tp)) (ht : t ≤ 80) (ha : a < 1000) (hf : 2 ≤ fr) (hl : 100 ≤ lo) (l u : Int32) : pm_WP PT fr lo 185 (0, pm_l0 [.ref 162, .int l, .int u] 3, [], h, 198, sl) (fun r => r = cond (dgi tp a t l u) (some (.int (tp a - 48)), mset h 16 (.int (nI (a + 1))), 198, sl) (some (.int (-1)), h, 198, sl)) := by
  refine wp_i rfl rfl rfl rfl ?_
  show pm_WP PT fr lo 185 (1, [some (.ref 162), some (.int l), some (.int u)], [.ref 162], h, 198, sl) _
  refine wp_gfm rfl rfl h16 ?_
  refine wp_i rfl rfl rfl rfl ?_
  show pm_WP PT fr lo 185 (5, [some (.ref 162), some (.int l), some (.int u)], [.ref 162, .int (nI a)], h, 198, sl) _
  refine wp_gfm rfl rfl h17 ?_
  show pm_WP PT fr lo 185 (8, [some (.ref 162), some (.int l), some (.int u)], [.int (nI t), .int (nI a)], h, 198, sl) _
  refine wp_icmp (c := .ge) (off := 26) (t := 34) rfl rfl (fun q => ?_) (fun q => ?_)
  · have q : t ≤ a := of_decide_eq_true ((hI_ge (by omega) (by omega)).symm.trans q)
    have e : dgi tp a t l u = false := by simp [dgi]; omega
    rw [e]
    refine wp_i rfl rfl rfl rfl ?_
    show pm_WP PT fr lo 185 (35, [some (.ref 162), some (.int l), some (.int u)], [.int (-1)], h, 198, sl) _
    exact wp_iret rfl rfl rfl
  · have q0 : ¬ t ≤ a := of_decide_eq_false ((hI_ge (by omega) (by omega)).symm.trans q)
    refine wp_i rfl rfl rfl rfl ?_
    show pm_WP PT fr lo 185 (12, [some (.ref 162), some (.int l), some (.int u)], [.ref 162], h, 198, sl) _
    refine wp_gfm rfl rfl h14 ?_
    refine wp_i rfl rfl rfl rfl ?_
    show pm_WP PT fr lo 185 (16, [some (.ref 162), some (.int l), some (.int u)], [.ref 162, .ref 172], h, 198, sl) _
    refine wp_gfm rfl rfl h16 ?_
    show pm_WP PT fr lo 185 (19, [some (.ref 162), some (.int l), some (.int u)], [.int (nI a), .ref 172], h, 198, sl) _
    refine wp_iam rfl hA (hI_in (by omega) (by omega)) (by decide) ?_
    rw [nI_clamp (by omega)]
    refine wp_i rfl rfl rfl rfl ?_
    refine wp_i rfl rfl rfl rfl ?_
    refine wp_i rfl rfl rfl rfl ?_
    refine wp_i rfl rfl rfl rfl ?_
    refine wp_i rfl rfl rfl rfl ?_
    refine wp_i rfl rfl rfl rfl ?_
    refine wp_i rfl rfl rfl rfl ?_
    show pm_WP PT fr lo 185 (28, [some (.ref 162), some (.int l), some (.int u)], [.long (u).toInt64, .long (l).toInt64, .long (((tp a) - 48)).toInt64], h, 198, sl) _
    refine wp_callS (t := 163) (As := [.long (((tp a) - 48)).toInt64, .long (l).toInt64, .long (u).toInt64]) (rest := []) (mx := 6) rfl rfl rfl rfl (Nat.le_of_ble_eq_true rfl) (Nat.le_of_ble_eq_true rfl) (by omega) (by omega) (wp_mono (hd_in (tp a - 48).toInt64 l.toInt64 u.toInt64) ?_)
    rintro _ rfl
    have e : dgi tp a t l u = in_b (tp a - 48).toInt64 l.toInt64 u.toInt64 := by simp [dgi, show a < t by omega]
    rw [e]
    cases in_b (tp a - 48).toInt64 l.toInt64 u.toInt64 with
    | false =>
      refine wp_i rfl rfl rfl rfl ?_
      refine wp_i rfl rfl rfl rfl ?_
      show pm_WP PT fr lo 185 (35, [some (.ref 162), some (.int l), some (.int u)], [.int (-1)], h, 198, sl) _
      exact wp_iret rfl rfl rfl
    | true =>
      refine wp_i rfl rfl rfl rfl ?_
      refine wp_i rfl rfl rfl rfl ?_
      refine wp_i rfl rfl rfl rfl ?_
      show pm_WP PT fr lo 185 (38, [some (.ref 162), some (.int l), some (.int u)], [.ref 162, .ref 162], h, 198, sl) _
      refine wp_gfm rfl rfl h16 ?_
      refine wp_i rfl rfl rfl rfl ?_
      refine wp_i rfl rfl rfl rfl ?_
      show pm_WP PT fr lo 185 (43, [some (.ref 162), some (.int l), some (.int u)], [.int (nI a + 1), .ref 162], h, 198, sl) _
      rw [nI_1 a]
      show pm_WP PT fr lo 185 (43, [some (.ref 162), some (.int l), some (.int u)], [.int (nI (a + 1)), .ref 162], h, 198, sl) _
      refine wp_pfm rfl rfl rfl (by decide) h16 ?_
      refine wp_i rfl rfl rfl rfl ?_
      show pm_WP PT fr lo 185 (47, [some (.ref 162), some (.int l), some (.int u)], [.ref 162], (mset h 16 (.int (nI (a + 1)))), 198, sl) _
      refine wp_gfm rfl rfl (mF_ne (by decide) h14) ?_
      refine wp_i rfl rfl rfl rfl ?_
      show pm_WP PT fr lo 185 (51, [some (.ref 162), some (.int l), some (.int u)], [.ref 162, .ref 172], (mset h 16 (.int (nI (a + 1)))), 198, sl) _
      refine wp_gfm rfl rfl (mF_self h16) ?_
      refine wp_i rfl rfl rfl rfl ?_
      refine wp_i rfl rfl rfl rfl ?_
      show pm_WP PT fr lo 185 (56, [some (.ref 162), some (.int l), some (.int u)], [.int ((nI (a + 1)) - 1), .ref 172], (mset h 16 (.int (nI (a + 1)))), 198, sl) _
      rw [nI_pred a]
      show pm_WP PT fr lo 185 (56, [some (.ref 162), some (.int l), some (.int u)], [.int (nI a), .ref 172], (mset h 16 (.int (nI (a + 1)))), 198, sl) _
      refine wp_iam rfl (mset_arr (by decide) hA) (hI_in (by omega) (by omega)) (by decide) ?_
      rw [nI_clamp (by omega)]
      refine wp_i rfl rfl rfl rfl ?_
      refine wp_i rfl rfl rfl rfl ?_
      show pm_WP PT fr lo 185 (60, [some (.ref 162), some (.int l), some (.int u)], [.int ((tp a) - 48)], (mset h 16 (.int (nI (a + 1)))), 198, sl) _
      exact wp_iret rfl rfl rfl
end PRM
end MG49cxr00x9
end MH47cx09x4
section MH47cx09x5
/-! rules are read, by hand: what is written is a row that can be worked off -/
section PRS
/-- how many numbers lie on the stack behind a code -/
def dst (d : Nat) (c : Int32) : Option Nat := if c = 3000 then (if 1 ≤ d then some d else none) else if 2000 ≤ c then (if c ≤ 2006 ∧ 2 ≤ d then some (d - 1) else none) else if 1000 ≤ c then (if c < 1007 then some (d + 1) else none) else some (d + 1)
theorem dst_i (d j : Nat) (hj : j < 100000) : dst d (nI j) = if j = 3000 then (if 1 ≤ d then some d else none) else if 2000 ≤ j then (if j ≤ 2006 ∧ 2 ≤ d then some (d - 1) else none) else if 1000 ≤ j then (if j < 1007 then some (d + 1) else none) else some (d + 1) := by
  unfold dst
  have e1 : (nI j = 3000) = (j = 3000) := propext (nI_eq (b := 3000) (by omega) (by omega))
  have e2 : ((2000 : Int32) ≤ nI j) = (2000 ≤ j) := propext (nI_leI (a := 2000) (by omega) (by omega))
  have e3 : (nI j ≤ 2006) = (j ≤ 2006) := propext (nI_leI (b := 2006) (by omega) (by omega))
  have e4 : ((1000 : Int32) ≤ nI j) = (1000 ≤ j) := propext (nI_leI (a := 1000) (by omega) (by omega))
  have e5 : (nI j < 1007) = (j < 1007) := propext (nI_ltI (b := 1007) (by omega) (by omega))
  simp only [e1, e2, e3, e4, e5]
theorem pr_dst {d j e : Nat} (h : j + e < 7) : dst (d + 1 + 1) (2000 + nI j + nI e) = some (d + 1) := by
  rw [show (2000 : Int32) = nI 2000 from rfl, nI_add, nI_add, dst_i _ _ (by omega), if_neg (by omega), if_pos (by omega), if_pos (by omega)]
  rfl
theorem pr_thing {d j : Nat} (h : j < 7) : dst d (1000 + nI j) = some (d + 1) := by
  rw [show (1000 : Int32) = nI 1000 from rfl, nI_add, dst_i _ _ (by omega), if_neg (by omega), if_neg (by omega), if_pos (by omega), if_pos (by omega)]
theorem pr_small {d : Nat} {v : Int32} (h : 0 ≤ v.toInt) (h2 : v.toInt ≤ 999) : dst d v = some (d + 1) := by
  obtain ⟨j, rfl, hj, ej⟩ := hI_of h
  rw [dst_i _ _ (by omega), if_neg (by omega), if_neg (by omega), if_neg (by omega)]
def dep (f : Nat → Int32) : Nat → Option Nat
  | 0 => some 0
  | k + 1 => match dep f k with
    | some d => dst d (f k)
    | none => none
theorem dep_cong {f g : Nat → Int32} : ∀ {k : Nat}, (∀ j, j < k → f j = g j) → dep f k = dep g k
  | 0, _ => rfl
  | k + 1, h => by
    unfold dep
    rw [dep_cong (fun j hj => h j (by omega)), h k (by omega)]
theorem dep_put {f : Nat → Int32} {k d e : Nat} {v : Int32} (h : dep f k = some d) (hv : dst d v = some e) : dep (upd f k v) (k + 1) = some e := by
  unfold dep
  rw [dep_cong (g := f) (fun j hj => by simp [upd, Nat.ne_of_lt hj]), h]
  simp [upd, hv]
def pS (h : pm_H) (a t n c : Nat) (rc tp : Nat → Int32) : Prop := mF h 16 (.int (nI a)) ∧ mF h 17 (.int (nI t)) ∧ mF h 14 (.ref 172) ∧ h 172 = .inl (0, 80, .inl tp) ∧ mF h 18 (.int (nI n)) ∧ mF h 24 (.int (nI c)) ∧ mF h 22 (.ref 175) ∧ h 175 = .inl (0, 80, .inl rc)
def pDC (i : Nat) : Bool := Nat.beq i 175
def pDG (g : Nat) : Bool := Nat.beq g 16 || (Nat.beq g 18 || Nat.beq g 24)
def pD (h h' : pm_H) : Prop := dD pDC pDG h h'
variable {h h' h'' : pm_H} {a t n c : Nat} {rc tp : Nat → Int32}
theorem pD_rf (h : pm_H) : pD h h := dD_rf h
theorem pD_tr (p : pD h h') (q : pD h' h'') : pD h h'' := dD_tr p q
theorem pD_set {f : Nat} {v : Value} (hf : f = 16 ∨ f = 18 ∨ f = 24) : pD h (mset h f v) := dD_set (by rcases hf with rfl | rfl | rfl <;> rfl)
theorem pD_arr {g : Nat → Int32} : pD h (aset h 175 80 g) := dD_arr rfl (by decide)
theorem pS_at {b : Nat} (p : pS h a t n c rc tp) : pS (mset h 16 (.int (nI b))) b t n c rc tp := by
  obtain ⟨p1, p2, p3, p4, p5, p6, p7, p8⟩ := p
  exact ⟨mF_self p1, mF_ne (by decide) p2, mF_ne (by decide) p3, mset_arr (by decide) p4, mF_ne (by decide) p5, mF_ne (by decide) p6, mF_ne (by decide) p7, mset_arr (by decide) p8⟩
theorem pS_nest {b : Nat} (p : pS h a t n c rc tp) : pS (mset h 18 (.int (nI b))) a t b c rc tp := by
  obtain ⟨p1, p2, p3, p4, p5, p6, p7, p8⟩ := p
  exact ⟨mF_ne (by decide) p1, mF_ne (by decide) p2, mF_ne (by decide) p3, mset_arr (by decide) p4, mF_self p5, mF_ne (by decide) p6, mF_ne (by decide) p7, mset_arr (by decide) p8⟩
def hcod (h : pm_H) (rc : Nat → Int32) (c : Nat) (v : Int32) : pm_H := mset (aset h 175 80 (upd rc c v)) 24 (.int (nI (c + 1)))
theorem pS_cod {v : Int32} (p : pS h a t n c rc tp) : pS (hcod h rc c v) a t n (c + 1) (upd rc c v) tp := by
  obtain ⟨p1, p2, p3, p4, p5, p6, p7, p8⟩ := p
  unfold hcod
  exact ⟨mF_ne (by decide) (mF_as (by decide) p1), mF_ne (by decide) (mF_as (by decide) p2), mF_ne (by decide) (mF_as (by decide) p3), mset_arr (by decide) (aset_ne (by decide) p4), mF_ne (by decide) (mF_as (by decide) p5), mF_self (mF_as (by decide) p6), mF_ne (by decide) (mF_as (by decide) p7), mset_arr (by decide) (aset_self _ _ _ _)⟩
theorem pD_cod {v : Int32} : pD h (hcod h rc c v) := pD_tr pD_arr (pD_set (Or.inr (Or.inr rfl)))
theorem tko_some {i : Nat} : ∀ {n k j : Nat}, tko i tp a t n k = some j → a < t ∧ k ≤ j ∧ j < k + n
  | 0, k, j, e => by cases e
  | n + 1, k, j, e => by
    unfold tko at e
    cases hb : (decide (a < t) && decide ((st_tx i).getD k 0 = tp a)) with
    | true =>
      rw [hb] at e
      cases e
      rw [Bool.and_eq_true] at hb
      exact ⟨of_decide_eq_true hb.1, Nat.le_refl _, by omega⟩
    | false =>
      rw [hb] at e
      have := tko_some (n := n) (k := k + 1) (j := j) e
      omega
theorem dg_iv (q : dg tp a t = true) : a < t ∧ 48 ≤ (tp a).toInt ∧ (tp a).toInt ≤ 57 := by
  have h1 := dg_lt q
  unfold dg at q
  rw [Bool.and_eq_true] at q
  have h2 := q.2
  unfold in_b at h2
  rw [Bool.and_eq_true] at h2
  have e1 : ¬ (tp a).toInt64 < 48 := by simpa using h2.1
  have e2 : ¬ (57 : Int64) < (tp a).toInt64 := by simpa using h2.2
  rw [Int64.lt_iff_toInt_lt, Int32.toInt_toInt64] at e1 e2
  have n1 : (48 : Int64).toInt = 48 := by decide
  have n2 : (57 : Int64).toInt = 57 := by decide
  rw [n1] at e1
  rw [n2] at e2
  omega
theorem nbr_step {x v : Int32} {m : Int} (hv : 0 ≤ v.toInt ∧ v.toInt ≤ m) (hm : m ≤ 10000) (hx : 48 ≤ x.toInt ∧ x.toInt ≤ 57) : 0 ≤ (10 * v + x - 48).toInt ∧ (10 * v + x - 48).toInt ≤ 10 * m + 9 := by
  obtain ⟨p, rfl, hp, ep⟩ := hI_of hv.1
  obtain ⟨q, rfl, hq, eq⟩ := hI_of (show 0 ≤ x.toInt by omega)
  have e : (10 : Int32) * nI p + nI q - 48 = nI (10 * p + (q - 48)) := by
    rw [show (10 : Int32) = nI 10 from rfl, hI_mul, nI_add, show (48 : Int32) = nI 48 from rfl]
    rw [show 10 * p + q = (10 * p + (q - 48)) + 48 by omega, ← nI_add]
    simp
  rw [e, nI_toInt (by omega)]
  omega
theorem nbr_bd (t : Nat) : ∀ (n a : Nat) (v : Int32) (m : Int), 0 ≤ v.toInt → v.toInt ≤ m → 0 ≤ m → 10 ^ n * (m + 1) ≤ 10000 → a ≤ (nbr tp t n a v).1 ∧ (nbr tp t n a v).1 ≤ a + n ∧ (a ≤ t → (nbr tp t n a v).1 ≤ t) ∧ 0 ≤ (nbr tp t n a v).2.toInt ∧ (nbr tp t n a v).2.toInt ≤ 10 ^ n * (m + 1) - 1
  | 0, a, v, m, h1, h2, h3, _ => by
    unfold nbr
    dsimp only
    omega
  | n + 1, a, v, m, h1, h2, h3, h4 => by
    unfold nbr
    have hp : (1 : Int) ≤ 10 ^ n := by
      have : (0 : Int) < 10 ^ n := Int.pow_pos (by decide)
      omega
    have e10 : (10 : Int) ^ (n + 1) * (m + 1) = 10 ^ n * (10 * m + 9 + 1) := by
      rw [Int.pow_succ, Int.mul_assoc, show (10 : Int) * (m + 1) = 10 * m + 9 + 1 by omega]
    have hge : m + 1 ≤ 10 ^ n * (m + 1) := by
      have := Int.mul_le_mul_of_nonneg_right hp (show 0 ≤ m + 1 by omega)
      omega
    have hge2 : 10 * m + 10 ≤ 10 ^ n * (10 * m + 9 + 1) := by
      have := Int.mul_le_mul_of_nonneg_right hp (show 0 ≤ 10 * m + 10 by omega)
      rw [show 10 * m + 9 + 1 = 10 * m + 10 by omega]
      omega
    cases hd : dg tp a t with
    | false => dsimp only [cond]; omega
    | true =>
      dsimp only [cond]
      obtain ⟨d1, d2, d3⟩ := dg_iv hd
      obtain ⟨s1, s2⟩ := nbr_step (v := v) (x := tp a) (m := m) ⟨h1, h2⟩ (by omega) ⟨d2, d3⟩
      have ih := nbr_bd t n (a + 1) (10 * v + tp a - 48) (10 * m + 9) s1 s2 (by omega) (by omega)
      rw [e10]
      omega
theorem nbr_gt (t : Nat) {n : Nat} {v : Int32} (q : dg tp a t = true) : nbr tp t (n + 1) a v = nbr tp t n (a + 1) (10 * v + tp a - 48) := by
  conv => lhs; unfold nbr
  rw [q]
  rfl
theorem upd_nI {f : Nat → Int32} {v : Int32} (hc : c < 2 ^ 31) : upd f (nI c).toNatClampNeg v = upd f c v := by rw [nI_clamp hc]
section
variable {fr lo sl : Nat}
theorem hd_codes (p : pS h a t n c rc tp) (hc : c < 80) (v : Int32) : pm_WP PT fr lo 193 (0, pm_l0 [.ref 162, .int v] 2, [], h, 198, sl) (fun r => r = (none, hcod h rc c v, 198, sl)) := by
  obtain ⟨p1, p2, p3, p4, p5, p6, p7, p8⟩ := p
  refine wp_i rfl rfl rfl rfl ?_
  show pm_WP PT fr lo 193 (1, [some (.ref 162), some (.int v)], [.ref 162], h, 198, sl) _
  refine wp_gfm rfl rfl p7 ?_
  refine wp_i rfl rfl rfl rfl ?_
  show pm_WP PT fr lo 193 (5, [some (.ref 162), some (.int v)], [.ref 162, .ref 175], h, 198, sl) _
  refine wp_gfm rfl rfl p6 ?_
  refine wp_i rfl rfl rfl rfl ?_
  show pm_WP PT fr lo 193 (9, [some (.ref 162), some (.int v)], [.int v, .int (nI c), .ref 175], h, 198, sl) _
  refine wp_ism rfl p8 (hI_in hc (by decide)) (by decide) ?_
  rw [upd_nI (by omega)]
  refine wp_i rfl rfl rfl rfl ?_
  refine wp_i rfl rfl rfl rfl ?_
  show pm_WP PT fr lo 193 (12, [some (.ref 162), some (.int v)], [.ref 162, .ref 162], (aset h 175 80 (upd rc c v)), 198, sl) _
  refine wp_gfm rfl rfl (mF_as (by decide) p6) ?_
  refine wp_i rfl rfl rfl rfl ?_
  refine wp_i rfl rfl rfl rfl ?_
  show pm_WP PT fr lo 193 (17, [some (.ref 162), some (.int v)], [.int (nI c + 1), .ref 162], (aset h 175 80 (upd rc c v)), 198, sl) _
  rw [nI_1 c]
  show pm_WP PT fr lo 193 (17, [some (.ref 162), some (.int v)], [.int (nI (c + 1)), .ref 162], (aset h 175 80 (upd rc c v)), 198, sl) _
  refine wp_pfm rfl rfl rfl (by decide) (mF_as (by decide) p6) ?_
  show pm_WP PT fr lo 193 (20, [some (.ref 162), some (.int v)], [], (mset (aset h 175 80 (upd rc c v)) 24 (.int (nI (c + 1)))), 198, sl) _
  exact wp_vret rfl rfl rfl
end
def pPost (h : pm_H) (sl a t n c d : Nat) (tp : Nat → Int32) (r : pm_Rs) : Prop := ∃ (b : Bool) (h' : pm_H) (a' n' c' : Nat) (rc' : Nat → Int32), r = (some (.int (cond b 1 0)), h', 198, sl) ∧ pS h' a' t n' c' rc' tp ∧ pD h h' ∧ a ≤ a' ∧ a' ≤ t ∧ c' + a ≤ a' + c ∧ n' ≤ 4 ∧ (b = true → n' = n ∧ a < a' ∧ dep rc' c' = some (d + 1))
def sT (m : Nat) : Prop := ∀ (fr lo sl : Nat) (h : pm_H) (a t n c d : Nat) (rc tp : Nat → Int32), pS h a t n c rc tp → t ≤ 40 → a ≤ t → c ≤ a → n ≤ 4 → dep rc c = some d → t - a ≤ m → 8 * m + 8 ≤ fr → 200 * m + 400 ≤ lo → pm_WP PT fr lo 194 (0, pm_l0 [.ref 162] 2, [], h, 198, sl) (pPost h sl a t n c d tp)
def sR (o m : Nat) : Prop := ∀ (fr lo sl : Nat) (h : pm_H) (a t n c d : Nat) (rc tp : Nat → Int32), pS h a t n c rc tp → t ≤ 40 → a ≤ t → c ≤ a → n ≤ 4 → dep rc c = some d → t - a ≤ m → 8 * m + 8 + (4 - o) ≤ fr → 200 * m + 400 + 30 * (4 - o) ≤ lo → pm_WP PT fr lo 195 (0, pm_l0 [.ref 162, .int (nI o)] 4, [], h, 198, sl) (pPost h sl a t n c d tp)
theorem pr_R3 {m : Nat} (hT : sT m) : sR 3 m := by
  intro fr lo sl h a t n c d rc tp p ht ha hc hn hd hm hf hl
  have p0 := p
  obtain ⟨p1, p2, p3, p4, p5, p6, p7, p8⟩ := p
  refine wp_i rfl rfl rfl rfl ?_
  refine wp_i rfl rfl rfl rfl ?_
  refine wp_i rfl rfl rfl rfl ?_
  refine wp_i rfl rfl rfl rfl ?_
  show pm_WP PT fr lo 195 (6, [some (.ref 162), some (.int (nI 3)), none, none], [.ref 162], h, 198, sl) _
  refine wp_callM (t := 194) (As := []) (rest := []) (mx := 2) rfl rfl rfl rfl (Nat.le_of_ble_eq_true rfl) (Nat.le_of_ble_eq_true rfl) (by omega) (by omega) rfl (mF_obj p3) (wp_mono (hT _ _ _ h a t n c d rc tp p0 ht ha hc hn hd hm (by omega) (by omega)) ?_)
  rintro _ ⟨b, h1, a1, n1, c1, rc1, rfl, s1, f1, g11, g21, g31, g41, g51⟩
  show pm_WP PT fr lo 195 (9, [some (.ref 162), some (.int (nI 3)), none, none], [.int (cond b 1 0)], h1, 198, sl) _
  exact wp_zret rfl rfl (by cases b; exact Or.inl rfl; exact Or.inr rfl) ⟨b, h1, a1, n1, c1, rc1, rfl, s1, f1, g11, g21, g31, g41, g51⟩
theorem pr_L2 {m : Nat} (hR : sR 3 m) {fr lo sl : Nat} {h : pm_H} {a t n c d : Nat} {tp : Nat → Int32} (ht : t ≤ 40) (hc : c ≤ a) (hn : n ≤ 4) (hm : t - a ≤ m) (hf : 8 * m + 8 + (4 - 2) ≤ fr) (hl : 200 * m + 400 + 30 * (4 - 2) ≤ lo) : ∀ (k : Nat) (h1 : pm_H) (a1 c1 : Nat) (rc1 : Nat → Int32) (x : Option Value), t - a1 ≤ k → pS h1 a1 t n c1 rc1 tp → pD h h1 → a < a1 → a1 ≤ t → c1 + a ≤ a1 + c → dep rc1 c1 = some (d + 1) → pm_WP PT fr lo 195 (24, [some (.ref 162), some (.int (nI 2)), some (.int 1), x], [], h1, 198, sl) (pPost h sl a t n c d tp) := by
  intro k
  induction k with
  | zero =>
    intro h1 a1 c1 rc1 x hk k1 f1 g1 g2 g3 hd1
    have s1 := k1
    obtain ⟨p11, p21, p31, p41, p51, p61, p71, p81⟩ := k1
    refine wp_i rfl rfl rfl rfl ?_
    refine wp_i rfl rfl rfl rfl ?_
    refine wp_i rfl rfl rfl rfl ?_
    refine wp_i rfl rfl rfl rfl ?_
    refine wp_i rfl rfl rfl rfl ?_
    refine wp_i rfl rfl rfl rfl ?_
    refine wp_i rfl rfl rfl rfl ?_
    refine wp_i rfl rfl rfl rfl ?_
    refine wp_i rfl rfl rfl rfl ?_
    show pm_WP PT fr lo 195 (50, [some (.ref 162), some (.int (nI 2)), some (.int 1), x], [.retAddr 3, .ref 162], h1, 198, sl) _
    refine wp_callM (t := 183) (As := [.retAddr 3]) (rest := []) (mx := 3) rfl rfl rfl rfl (Nat.le_of_ble_eq_true rfl) (Nat.le_of_ble_eq_true rfl) (by omega) (by omega) rfl (mF_obj p31) (wp_mono (hd_takesOf p11 p21 p31 p41 (by omega) (by omega) (by omega) (by omega) (show 3 < 5 by decide)) ?_)
    rintro _ rfl
    cases hk2 : tko 3 tp a1 t (st_tx 3).length 0 with
    | none =>
      show pm_WP PT fr lo 195 (53, [some (.ref 162), some (.int (nI 2)), some (.int 1), x], [.int (-1)], h1, 198, sl) _
      refine wp_i rfl rfl rfl rfl ?_
      refine wp_i rfl rfl rfl rfl ?_
      refine wp_i rfl rfl rfl rfl ?_
      refine wp_i rfl rfl rfl rfl ?_
      show pm_WP PT fr lo 195 (59, [some (.ref 162), some (.int (nI 2)), some (.int 1), some (.int (-1))], [.int 1], h1, 198, sl) _
      exact wp_zret rfl rfl (by decide) ⟨true, h1, a1, n, c1, rc1, rfl, s1, f1, by omega, g2, g3, hn, fun _ => ⟨rfl, g1, hd1⟩⟩
    | some j =>
      obtain ⟨j1, j2, j3⟩ := tko_some hk2
      have j4 : (st_tx 3).length = 2 := rfl
      exact absurd j1 (by omega)
  | succ k ih =>
    intro h1 a1 c1 rc1 x hk k1 f1 g1 g2 g3 hd1
    have s1 := k1
    obtain ⟨p11, p21, p31, p41, p51, p61, p71, p81⟩ := k1
    refine wp_i rfl rfl rfl rfl ?_
    refine wp_i rfl rfl rfl rfl ?_
    refine wp_i rfl rfl rfl rfl ?_
    refine wp_i rfl rfl rfl rfl ?_
    refine wp_i rfl rfl rfl rfl ?_
    refine wp_i rfl rfl rfl rfl ?_
    refine wp_i rfl rfl rfl rfl ?_
    refine wp_i rfl rfl rfl rfl ?_
    refine wp_i rfl rfl rfl rfl ?_
    show pm_WP PT fr lo 195 (50, [some (.ref 162), some (.int (nI 2)), some (.int 1), x], [.retAddr 3, .ref 162], h1, 198, sl) _
    refine wp_callM (t := 183) (As := [.retAddr 3]) (rest := []) (mx := 3) rfl rfl rfl rfl (Nat.le_of_ble_eq_true rfl) (Nat.le_of_ble_eq_true rfl) (by omega) (by omega) rfl (mF_obj p31) (wp_mono (hd_takesOf p11 p21 p31 p41 (by omega) (by omega) (by omega) (by omega) (show 3 < 5 by decide)) ?_)
    rintro _ rfl
    cases hk2 : tko 3 tp a1 t (st_tx 3).length 0 with
    | none =>
      show pm_WP PT fr lo 195 (53, [some (.ref 162), some (.int (nI 2)), some (.int 1), x], [.int (-1)], h1, 198, sl) _
      refine wp_i rfl rfl rfl rfl ?_
      refine wp_i rfl rfl rfl rfl ?_
      refine wp_i rfl rfl rfl rfl ?_
      refine wp_i rfl rfl rfl rfl ?_
      show pm_WP PT fr lo 195 (59, [some (.ref 162), some (.int (nI 2)), some (.int 1), some (.int (-1))], [.int 1], h1, 198, sl) _
      exact wp_zret rfl rfl (by decide) ⟨true, h1, a1, n, c1, rc1, rfl, s1, f1, by omega, g2, g3, hn, fun _ => ⟨rfl, g1, hd1⟩⟩
    | some j =>
      obtain ⟨j1, j2, j3⟩ := tko_some hk2
      have j4 : (st_tx 3).length = 2 := rfl
      show pm_WP PT fr lo 195 (53, [some (.ref 162), some (.int (nI 2)), some (.int 1), x], [.int (nI j)], (mset h1 16 (.int (nI (a1 + 1)))), 198, sl) _
      refine wp_i rfl rfl rfl rfl ?_
      refine wp_i rfl rfl rfl rfl ?_
      show pm_WP PT fr lo 195 (55, [some (.ref 162), some (.int (nI 2)), some (.int 1), some (.int (nI j))], [.int (nI j)], (mset h1 16 (.int (nI (a1 + 1)))), 198, sl) _
      refine wp_if (c := .ge) (off := 5) (t := 60) rfl rfl (fun _ => ?_) (fun q => absurd (q.symm.trans ((hI_ge (b := 0) (by omega) (by omega)).trans (decide_eq_true (by omega)))) (by decide))
      refine wp_i rfl rfl rfl rfl ?_
      refine wp_i rfl rfl rfl rfl ?_
      refine wp_i rfl rfl rfl rfl ?_
      refine wp_i rfl rfl rfl rfl ?_
      show pm_WP PT fr lo 195 (64, [some (.ref 162), some (.int (nI 2)), some (.int 1), some (.int (nI j))], [.int (nI 3), .ref 162], (mset h1 16 (.int (nI (a1 + 1)))), 198, sl) _
      refine wp_callM (t := 195) (As := [.int (nI 3)]) (rest := []) (mx := 4) rfl rfl rfl rfl (Nat.le_of_ble_eq_true rfl) (Nat.le_of_ble_eq_true rfl) (by omega) (by omega) rfl (mF_obj (mF_ne (by decide) p31)) (wp_mono (hR _ _ _ (mset h1 16 (.int (nI (a1 + 1)))) (a1 + 1) t n c1 (d + 1) rc1 tp (pS_at s1) ht (by omega) (by omega) hn hd1 (by omega) (by omega) (by omega)) ?_)
      rintro _ ⟨b2, h2, a2, n2, c2, rc2, rfl, s2, f2, g12, g22, g32, g42, g52⟩
      have f2 := pD_tr (pD_tr f1 (pD_set (Or.inl rfl))) f2
      cases b2 with
      | false =>
        refine wp_i rfl rfl rfl rfl ?_
        refine wp_i rfl rfl rfl rfl ?_
        show pm_WP PT fr lo 195 (71, [some (.ref 162), some (.int (nI 2)), some (.int 1), some (.int (nI j))], [.int 0], h2, 198, sl) _
        exact wp_zret rfl rfl (by decide) ⟨false, h2, a2, n2, c2, rc2, rfl, s2, f2, by omega, g22, by omega, g42, fun q => by cases q⟩
      | true =>
        obtain ⟨q1, q2, q3⟩ := g52 rfl
        subst q1
        have k2 := s2
        obtain ⟨p12, p22, p32, p42, p52, p62, p72, p82⟩ := s2
        refine wp_i rfl rfl rfl rfl ?_
        refine wp_i rfl rfl rfl rfl ?_
        refine wp_i rfl rfl rfl rfl ?_
        refine wp_i rfl rfl rfl rfl ?_
        refine wp_i rfl rfl rfl rfl ?_
        refine wp_i rfl rfl rfl rfl ?_
        refine wp_i rfl rfl rfl rfl ?_
        refine wp_i rfl rfl rfl rfl ?_
        refine wp_i rfl rfl rfl rfl ?_
        refine wp_i rfl rfl rfl rfl ?_
        refine wp_i rfl rfl rfl rfl ?_
        refine wp_i rfl rfl rfl rfl ?_
        have ev : dst (d + 1 + 1) (2000 + nI j + 5) = some (d + 1) := pr_dst (j := j) (e := 5) (by omega)
        show pm_WP PT fr lo 195 (97, [some (.ref 162), some (.int (nI 2)), some (.int 1), some (.int (nI j))], [.int (2000 + nI j + 5), .ref 162], h2, 198, sl) _
        refine wp_callM (t := 193) (As := [.int (2000 + nI j + 5)]) (rest := []) (mx := 2) rfl rfl rfl rfl (Nat.le_of_ble_eq_true rfl) (Nat.le_of_ble_eq_true rfl) (by omega) (by omega) rfl (mF_obj p32) (wp_mono (hd_codes k2 (by omega) (2000 + nI j + 5)) ?_)
        rintro _ rfl
        refine wp_i rfl rfl rfl rfl ?_
        refine wp_i rfl rfl rfl rfl ?_
        refine wp_i rfl rfl rfl rfl ?_
        refine wp_i rfl rfl rfl rfl ?_
        refine wp_i rfl rfl rfl rfl ?_
        refine wp_i rfl rfl rfl rfl ?_
        show pm_WP PT fr lo 195 (24, [some (.ref 162), some (.int (nI 2)), some (.int 1), some (.int (nI j))], [], (hcod h2 rc2 c2 (2000 + nI j + 5)), 198, sl) _
        exact ih _ a2 (c2 + 1) _ _ (by omega) (pS_cod k2) (pD_tr f2 pD_cod) (by omega) g22 (by omega) (dep_put q3 ev)
theorem pr_R2 {m : Nat} (hR : sR 3 m) : sR 2 m := by
  intro fr lo sl h a t n c d rc tp p ht ha hc hn hd hm hf hl
  have p0 := p
  obtain ⟨p1, p2, p3, p4, p5, p6, p7, p8⟩ := p
  refine wp_i rfl rfl rfl rfl ?_
  refine wp_i rfl rfl rfl rfl ?_
  refine wp_i rfl rfl rfl rfl ?_
  refine wp_i rfl rfl rfl rfl ?_
  refine wp_i rfl rfl rfl rfl ?_
  refine wp_i rfl rfl rfl rfl ?_
  refine wp_i rfl rfl rfl rfl ?_
  show pm_WP PT fr lo 195 (14, [some (.ref 162), some (.int (nI 2)), none, none], [.int (nI 3), .ref 162], h, 198, sl) _
  refine wp_callM (t := 195) (As := [.int (nI 3)]) (rest := []) (mx := 4) rfl rfl rfl rfl (Nat.le_of_ble_eq_true rfl) (Nat.le_of_ble_eq_true rfl) (by omega) (by omega) rfl (mF_obj p3) (wp_mono (hR _ _ _ h a t n c d rc tp p0 ht ha hc hn hd hm (by omega) (by omega)) ?_)
  rintro _ ⟨b, h1, a1, n1, c1, rc1, rfl, s1, f1, g11, g21, g31, g41, g51⟩
  cases b with
  | false =>
    refine wp_i rfl rfl rfl rfl ?_
    refine wp_i rfl rfl rfl rfl ?_
    show pm_WP PT fr lo 195 (21, [some (.ref 162), some (.int (nI 2)), none, none], [.int 0], h1, 198, sl) _
    exact wp_zret rfl rfl (by decide) ⟨false, h1, a1, n1, c1, rc1, rfl, s1, f1, g11, g21, g31, g41, fun q => by cases q⟩
  | true =>
    obtain ⟨q1, q2, q3⟩ := g51 rfl
    subst q1
    refine wp_i rfl rfl rfl rfl ?_
    refine wp_i rfl rfl rfl rfl ?_
    refine wp_i rfl rfl rfl rfl ?_
    show pm_WP PT fr lo 195 (24, [some (.ref 162), some (.int (nI 2)), some (.int 1), none], [], h1, 198, sl) _
    exact pr_L2 hR ht hc hn hm hf hl _ h1 a1 c1 rc1 none (Nat.le_refl _) s1 f1 q2 g21 g31 q3
theorem pr_L1 {m : Nat} (hR : sR 2 m) {fr lo sl : Nat} {h : pm_H} {a t n c d : Nat} {tp : Nat → Int32} (ht : t ≤ 40) (hc : c ≤ a) (hn : n ≤ 4) (hm : t - a ≤ m) (hf : 8 * m + 8 + (4 - 1) ≤ fr) (hl : 200 * m + 400 + 30 * (4 - 1) ≤ lo) : ∀ (k : Nat) (h1 : pm_H) (a1 c1 : Nat) (rc1 : Nat → Int32) (x : Option Value), t - a1 ≤ k → pS h1 a1 t n c1 rc1 tp → pD h h1 → a < a1 → a1 ≤ t → c1 + a ≤ a1 + c → dep rc1 c1 = some (d + 1) → pm_WP PT fr lo 195 (24, [some (.ref 162), some (.int (nI 1)), some (.int 1), x], [], h1, 198, sl) (pPost h sl a t n c d tp) := by
  intro k
  induction k with
  | zero =>
    intro h1 a1 c1 rc1 x hk k1 f1 g1 g2 g3 hd1
    have s1 := k1
    obtain ⟨p11, p21, p31, p41, p51, p61, p71, p81⟩ := k1
    refine wp_i rfl rfl rfl rfl ?_
    refine wp_i rfl rfl rfl rfl ?_
    refine wp_i rfl rfl rfl rfl ?_
    refine wp_i rfl rfl rfl rfl ?_
    refine wp_i rfl rfl rfl rfl ?_
    refine wp_i rfl rfl rfl rfl ?_
    refine wp_i rfl rfl rfl rfl ?_
    refine wp_i rfl rfl rfl rfl ?_
    refine wp_i rfl rfl rfl rfl ?_
    refine wp_i rfl rfl rfl rfl ?_
    show pm_WP PT fr lo 195 (50, [some (.ref 162), some (.int (nI 1)), some (.int 1), x], [.retAddr 2, .ref 162], h1, 198, sl) _
    refine wp_callM (t := 183) (As := [.retAddr 2]) (rest := []) (mx := 3) rfl rfl rfl rfl (Nat.le_of_ble_eq_true rfl) (Nat.le_of_ble_eq_true rfl) (by omega) (by omega) rfl (mF_obj p31) (wp_mono (hd_takesOf p11 p21 p31 p41 (by omega) (by omega) (by omega) (by omega) (show 2 < 5 by decide)) ?_)
    rintro _ rfl
    cases hk2 : tko 2 tp a1 t (st_tx 2).length 0 with
    | none =>
      show pm_WP PT fr lo 195 (53, [some (.ref 162), some (.int (nI 1)), some (.int 1), x], [.int (-1)], h1, 198, sl) _
      refine wp_i rfl rfl rfl rfl ?_
      refine wp_i rfl rfl rfl rfl ?_
      refine wp_i rfl rfl rfl rfl ?_
      refine wp_i rfl rfl rfl rfl ?_
      show pm_WP PT fr lo 195 (59, [some (.ref 162), some (.int (nI 1)), some (.int 1), some (.int (-1))], [.int 1], h1, 198, sl) _
      exact wp_zret rfl rfl (by decide) ⟨true, h1, a1, n, c1, rc1, rfl, s1, f1, by omega, g2, g3, hn, fun _ => ⟨rfl, g1, hd1⟩⟩
    | some j =>
      obtain ⟨j1, j2, j3⟩ := tko_some hk2
      have j4 : (st_tx 2).length = 2 := rfl
      exact absurd j1 (by omega)
  | succ k ih =>
    intro h1 a1 c1 rc1 x hk k1 f1 g1 g2 g3 hd1
    have s1 := k1
    obtain ⟨p11, p21, p31, p41, p51, p61, p71, p81⟩ := k1
    refine wp_i rfl rfl rfl rfl ?_
    refine wp_i rfl rfl rfl rfl ?_
    refine wp_i rfl rfl rfl rfl ?_
    refine wp_i rfl rfl rfl rfl ?_
    refine wp_i rfl rfl rfl rfl ?_
    refine wp_i rfl rfl rfl rfl ?_
    refine wp_i rfl rfl rfl rfl ?_
    refine wp_i rfl rfl rfl rfl ?_
    refine wp_i rfl rfl rfl rfl ?_
    refine wp_i rfl rfl rfl rfl ?_
    show pm_WP PT fr lo 195 (50, [some (.ref 162), some (.int (nI 1)), some (.int 1), x], [.retAddr 2, .ref 162], h1, 198, sl) _
    refine wp_callM (t := 183) (As := [.retAddr 2]) (rest := []) (mx := 3) rfl rfl rfl rfl (Nat.le_of_ble_eq_true rfl) (Nat.le_of_ble_eq_true rfl) (by omega) (by omega) rfl (mF_obj p31) (wp_mono (hd_takesOf p11 p21 p31 p41 (by omega) (by omega) (by omega) (by omega) (show 2 < 5 by decide)) ?_)
    rintro _ rfl
    cases hk2 : tko 2 tp a1 t (st_tx 2).length 0 with
    | none =>
      show pm_WP PT fr lo 195 (53, [some (.ref 162), some (.int (nI 1)), some (.int 1), x], [.int (-1)], h1, 198, sl) _
      refine wp_i rfl rfl rfl rfl ?_
      refine wp_i rfl rfl rfl rfl ?_
      refine wp_i rfl rfl rfl rfl ?_
      refine wp_i rfl rfl rfl rfl ?_
      show pm_WP PT fr lo 195 (59, [some (.ref 162), some (.int (nI 1)), some (.int 1), some (.int (-1))], [.int 1], h1, 198, sl) _
      exact wp_zret rfl rfl (by decide) ⟨true, h1, a1, n, c1, rc1, rfl, s1, f1, by omega, g2, g3, hn, fun _ => ⟨rfl, g1, hd1⟩⟩
    | some j =>
      obtain ⟨j1, j2, j3⟩ := tko_some hk2
      have j4 : (st_tx 2).length = 2 := rfl
      show pm_WP PT fr lo 195 (53, [some (.ref 162), some (.int (nI 1)), some (.int 1), x], [.int (nI j)], (mset h1 16 (.int (nI (a1 + 1)))), 198, sl) _
      refine wp_i rfl rfl rfl rfl ?_
      refine wp_i rfl rfl rfl rfl ?_
      show pm_WP PT fr lo 195 (55, [some (.ref 162), some (.int (nI 1)), some (.int 1), some (.int (nI j))], [.int (nI j)], (mset h1 16 (.int (nI (a1 + 1)))), 198, sl) _
      refine wp_if (c := .ge) (off := 5) (t := 60) rfl rfl (fun _ => ?_) (fun q => absurd (q.symm.trans ((hI_ge (b := 0) (by omega) (by omega)).trans (decide_eq_true (by omega)))) (by decide))
      refine wp_i rfl rfl rfl rfl ?_
      refine wp_i rfl rfl rfl rfl ?_
      refine wp_i rfl rfl rfl rfl ?_
      refine wp_i rfl rfl rfl rfl ?_
      show pm_WP PT fr lo 195 (64, [some (.ref 162), some (.int (nI 1)), some (.int 1), some (.int (nI j))], [.int (nI 2), .ref 162], (mset h1 16 (.int (nI (a1 + 1)))), 198, sl) _
      refine wp_callM (t := 195) (As := [.int (nI 2)]) (rest := []) (mx := 4) rfl rfl rfl rfl (Nat.le_of_ble_eq_true rfl) (Nat.le_of_ble_eq_true rfl) (by omega) (by omega) rfl (mF_obj (mF_ne (by decide) p31)) (wp_mono (hR _ _ _ (mset h1 16 (.int (nI (a1 + 1)))) (a1 + 1) t n c1 (d + 1) rc1 tp (pS_at s1) ht (by omega) (by omega) hn hd1 (by omega) (by omega) (by omega)) ?_)
      rintro _ ⟨b2, h2, a2, n2, c2, rc2, rfl, s2, f2, g12, g22, g32, g42, g52⟩
      have f2 := pD_tr (pD_tr f1 (pD_set (Or.inl rfl))) f2
      cases b2 with
      | false =>
        refine wp_i rfl rfl rfl rfl ?_
        refine wp_i rfl rfl rfl rfl ?_
        show pm_WP PT fr lo 195 (71, [some (.ref 162), some (.int (nI 1)), some (.int 1), some (.int (nI j))], [.int 0], h2, 198, sl) _
        exact wp_zret rfl rfl (by decide) ⟨false, h2, a2, n2, c2, rc2, rfl, s2, f2, by omega, g22, by omega, g42, fun q => by cases q⟩
      | true =>
        obtain ⟨q1, q2, q3⟩ := g52 rfl
        subst q1
        have k2 := s2
        obtain ⟨p12, p22, p32, p42, p52, p62, p72, p82⟩ := s2
        refine wp_i rfl rfl rfl rfl ?_
        refine wp_i rfl rfl rfl rfl ?_
        refine wp_i rfl rfl rfl rfl ?_
        refine wp_i rfl rfl rfl rfl ?_
        refine wp_i rfl rfl rfl rfl ?_
        refine wp_i rfl rfl rfl rfl ?_
        refine wp_i rfl rfl rfl rfl ?_
        refine wp_i rfl rfl rfl rfl ?_
        refine wp_i rfl rfl rfl rfl ?_
        refine wp_i rfl rfl rfl rfl ?_
        refine wp_i rfl rfl rfl rfl ?_
        refine wp_i rfl rfl rfl rfl ?_
        refine wp_i rfl rfl rfl rfl ?_
        have ev : dst (d + 1 + 1) (2000 + nI j + 3) = some (d + 1) := pr_dst (j := j) (e := 3) (by omega)
        show pm_WP PT fr lo 195 (97, [some (.ref 162), some (.int (nI 1)), some (.int 1), some (.int (nI j))], [.int (2000 + nI j + 3), .ref 162], h2, 198, sl) _
        refine wp_callM (t := 193) (As := [.int (2000 + nI j + 3)]) (rest := []) (mx := 2) rfl rfl rfl rfl (Nat.le_of_ble_eq_true rfl) (Nat.le_of_ble_eq_true rfl) (by omega) (by omega) rfl (mF_obj p32) (wp_mono (hd_codes k2 (by omega) (2000 + nI j + 3)) ?_)
        rintro _ rfl
        refine wp_i rfl rfl rfl rfl ?_
        refine wp_i rfl rfl rfl rfl ?_
        refine wp_i rfl rfl rfl rfl ?_
        refine wp_i rfl rfl rfl rfl ?_
        refine wp_i rfl rfl rfl rfl ?_
        refine wp_i rfl rfl rfl rfl ?_
        show pm_WP PT fr lo 195 (24, [some (.ref 162), some (.int (nI 1)), some (.int 1), some (.int (nI j))], [], (hcod h2 rc2 c2 (2000 + nI j + 3)), 198, sl) _
        exact ih _ a2 (c2 + 1) _ _ (by omega) (pS_cod k2) (pD_tr f2 pD_cod) (by omega) g22 (by omega) (dep_put q3 ev)
theorem pr_R1 {m : Nat} (hR : sR 2 m) : sR 1 m := by
  intro fr lo sl h a t n c d rc tp p ht ha hc hn hd hm hf hl
  have p0 := p
  obtain ⟨p1, p2, p3, p4, p5, p6, p7, p8⟩ := p
  refine wp_i rfl rfl rfl rfl ?_
  refine wp_i rfl rfl rfl rfl ?_
  refine wp_i rfl rfl rfl rfl ?_
  refine wp_i rfl rfl rfl rfl ?_
  refine wp_i rfl rfl rfl rfl ?_
  refine wp_i rfl rfl rfl rfl ?_
  refine wp_i rfl rfl rfl rfl ?_
  show pm_WP PT fr lo 195 (14, [some (.ref 162), some (.int (nI 1)), none, none], [.int (nI 2), .ref 162], h, 198, sl) _
  refine wp_callM (t := 195) (As := [.int (nI 2)]) (rest := []) (mx := 4) rfl rfl rfl rfl (Nat.le_of_ble_eq_true rfl) (Nat.le_of_ble_eq_true rfl) (by omega) (by omega) rfl (mF_obj p3) (wp_mono (hR _ _ _ h a t n c d rc tp p0 ht ha hc hn hd hm (by omega) (by omega)) ?_)
  rintro _ ⟨b, h1, a1, n1, c1, rc1, rfl, s1, f1, g11, g21, g31, g41, g51⟩
  cases b with
  | false =>
    refine wp_i rfl rfl rfl rfl ?_
    refine wp_i rfl rfl rfl rfl ?_
    show pm_WP PT fr lo 195 (21, [some (.ref 162), some (.int (nI 1)), none, none], [.int 0], h1, 198, sl) _
    exact wp_zret rfl rfl (by decide) ⟨false, h1, a1, n1, c1, rc1, rfl, s1, f1, g11, g21, g31, g41, fun q => by cases q⟩
  | true =>
    obtain ⟨q1, q2, q3⟩ := g51 rfl
    subst q1
    refine wp_i rfl rfl rfl rfl ?_
    refine wp_i rfl rfl rfl rfl ?_
    refine wp_i rfl rfl rfl rfl ?_
    show pm_WP PT fr lo 195 (24, [some (.ref 162), some (.int (nI 1)), some (.int 1), none], [], h1, 198, sl) _
    exact pr_L1 hR ht hc hn hm hf hl _ h1 a1 c1 rc1 none (Nat.le_refl _) s1 f1 q2 g21 g31 q3
theorem pr_L0 {m : Nat} (hR : sR 1 m) {fr lo sl : Nat} {h : pm_H} {a t n c d : Nat} {tp : Nat → Int32} (ht : t ≤ 40) (hc : c ≤ a) (hn : n ≤ 4) (hm : t - a ≤ m) (hf : 8 * m + 8 + (4 - 0) ≤ fr) (hl : 200 * m + 400 + 30 * (4 - 0) ≤ lo) : ∀ (k : Nat) (h1 : pm_H) (a1 c1 : Nat) (rc1 : Nat → Int32) (x : Option Value), t - a1 ≤ k → pS h1 a1 t n c1 rc1 tp → pD h h1 → a < a1 → a1 ≤ t → c1 + a ≤ a1 + c → dep rc1 c1 = some (d + 1) → pm_WP PT fr lo 195 (24, [some (.ref 162), some (.int (nI 0)), some (.int 1), x], [], h1, 198, sl) (pPost h sl a t n c d tp) := by
  intro k
  induction k with
  | zero =>
    intro h1 a1 c1 rc1 x hk k1 f1 g1 g2 g3 hd1
    have s1 := k1
    obtain ⟨p11, p21, p31, p41, p51, p61, p71, p81⟩ := k1
    refine wp_i rfl rfl rfl rfl ?_
    refine wp_i rfl rfl rfl rfl ?_
    refine wp_i rfl rfl rfl rfl ?_
    refine wp_i rfl rfl rfl rfl ?_
    refine wp_i rfl rfl rfl rfl ?_
    refine wp_i rfl rfl rfl rfl ?_
    refine wp_i rfl rfl rfl rfl ?_
    show pm_WP PT fr lo 195 (50, [some (.ref 162), some (.int (nI 0)), some (.int 1), x], [.retAddr 1, .ref 162], h1, 198, sl) _
    refine wp_callM (t := 183) (As := [.retAddr 1]) (rest := []) (mx := 3) rfl rfl rfl rfl (Nat.le_of_ble_eq_true rfl) (Nat.le_of_ble_eq_true rfl) (by omega) (by omega) rfl (mF_obj p31) (wp_mono (hd_takesOf p11 p21 p31 p41 (by omega) (by omega) (by omega) (by omega) (show 1 < 5 by decide)) ?_)
    rintro _ rfl
    cases hk2 : tko 1 tp a1 t (st_tx 1).length 0 with
    | none =>
      show pm_WP PT fr lo 195 (53, [some (.ref 162), some (.int (nI 0)), some (.int 1), x], [.int (-1)], h1, 198, sl) _
      refine wp_i rfl rfl rfl rfl ?_
      refine wp_i rfl rfl rfl rfl ?_
      refine wp_i rfl rfl rfl rfl ?_
      refine wp_i rfl rfl rfl rfl ?_
      show pm_WP PT fr lo 195 (59, [some (.ref 162), some (.int (nI 0)), some (.int 1), some (.int (-1))], [.int 1], h1, 198, sl) _
      exact wp_zret rfl rfl (by decide) ⟨true, h1, a1, n, c1, rc1, rfl, s1, f1, by omega, g2, g3, hn, fun _ => ⟨rfl, g1, hd1⟩⟩
    | some j =>
      obtain ⟨j1, j2, j3⟩ := tko_some hk2
      have j4 : (st_tx 1).length = 3 := rfl
      exact absurd j1 (by omega)
  | succ k ih =>
    intro h1 a1 c1 rc1 x hk k1 f1 g1 g2 g3 hd1
    have s1 := k1
    obtain ⟨p11, p21, p31, p41, p51, p61, p71, p81⟩ := k1
    refine wp_i rfl rfl rfl rfl ?_
    refine wp_i rfl rfl rfl rfl ?_
    refine wp_i rfl rfl rfl rfl ?_
    refine wp_i rfl rfl rfl rfl ?_
    refine wp_i rfl rfl rfl rfl ?_
    refine wp_i rfl rfl rfl rfl ?_
    refine wp_i rfl rfl rfl rfl ?_
    show pm_WP PT fr lo 195 (50, [some (.ref 162), some (.int (nI 0)), some (.int 1), x], [.retAddr 1, .ref 162], h1, 198, sl) _
    refine wp_callM (t := 183) (As := [.retAddr 1]) (rest := []) (mx := 3) rfl rfl rfl rfl (Nat.le_of_ble_eq_true rfl) (Nat.le_of_ble_eq_true rfl) (by omega) (by omega) rfl (mF_obj p31) (wp_mono (hd_takesOf p11 p21 p31 p41 (by omega) (by omega) (by omega) (by omega) (show 1 < 5 by decide)) ?_)
    rintro _ rfl
    cases hk2 : tko 1 tp a1 t (st_tx 1).length 0 with
    | none =>
      show pm_WP PT fr lo 195 (53, [some (.ref 162), some (.int (nI 0)), some (.int 1), x], [.int (-1)], h1, 198, sl) _
      refine wp_i rfl rfl rfl rfl ?_
      refine wp_i rfl rfl rfl rfl ?_
      refine wp_i rfl rfl rfl rfl ?_
      refine wp_i rfl rfl rfl rfl ?_
      show pm_WP PT fr lo 195 (59, [some (.ref 162), some (.int (nI 0)), some (.int 1), some (.int (-1))], [.int 1], h1, 198, sl) _
      exact wp_zret rfl rfl (by decide) ⟨true, h1, a1, n, c1, rc1, rfl, s1, f1, by omega, g2, g3, hn, fun _ => ⟨rfl, g1, hd1⟩⟩
    | some j =>
      obtain ⟨j1, j2, j3⟩ := tko_some hk2
      have j4 : (st_tx 1).length = 3 := rfl
      show pm_WP PT fr lo 195 (53, [some (.ref 162), some (.int (nI 0)), some (.int 1), x], [.int (nI j)], (mset h1 16 (.int (nI (a1 + 1)))), 198, sl) _
      refine wp_i rfl rfl rfl rfl ?_
      refine wp_i rfl rfl rfl rfl ?_
      show pm_WP PT fr lo 195 (55, [some (.ref 162), some (.int (nI 0)), some (.int 1), some (.int (nI j))], [.int (nI j)], (mset h1 16 (.int (nI (a1 + 1)))), 198, sl) _
      refine wp_if (c := .ge) (off := 5) (t := 60) rfl rfl (fun _ => ?_) (fun q => absurd (q.symm.trans ((hI_ge (b := 0) (by omega) (by omega)).trans (decide_eq_true (by omega)))) (by decide))
      refine wp_i rfl rfl rfl rfl ?_
      refine wp_i rfl rfl rfl rfl ?_
      refine wp_i rfl rfl rfl rfl ?_
      refine wp_i rfl rfl rfl rfl ?_
      show pm_WP PT fr lo 195 (64, [some (.ref 162), some (.int (nI 0)), some (.int 1), some (.int (nI j))], [.int (nI 1), .ref 162], (mset h1 16 (.int (nI (a1 + 1)))), 198, sl) _
      refine wp_callM (t := 195) (As := [.int (nI 1)]) (rest := []) (mx := 4) rfl rfl rfl rfl (Nat.le_of_ble_eq_true rfl) (Nat.le_of_ble_eq_true rfl) (by omega) (by omega) rfl (mF_obj (mF_ne (by decide) p31)) (wp_mono (hR _ _ _ (mset h1 16 (.int (nI (a1 + 1)))) (a1 + 1) t n c1 (d + 1) rc1 tp (pS_at s1) ht (by omega) (by omega) hn hd1 (by omega) (by omega) (by omega)) ?_)
      rintro _ ⟨b2, h2, a2, n2, c2, rc2, rfl, s2, f2, g12, g22, g32, g42, g52⟩
      have f2 := pD_tr (pD_tr f1 (pD_set (Or.inl rfl))) f2
      cases b2 with
      | false =>
        refine wp_i rfl rfl rfl rfl ?_
        refine wp_i rfl rfl rfl rfl ?_
        show pm_WP PT fr lo 195 (71, [some (.ref 162), some (.int (nI 0)), some (.int 1), some (.int (nI j))], [.int 0], h2, 198, sl) _
        exact wp_zret rfl rfl (by decide) ⟨false, h2, a2, n2, c2, rc2, rfl, s2, f2, by omega, g22, by omega, g42, fun q => by cases q⟩
      | true =>
        obtain ⟨q1, q2, q3⟩ := g52 rfl
        subst q1
        have k2 := s2
        obtain ⟨p12, p22, p32, p42, p52, p62, p72, p82⟩ := s2
        refine wp_i rfl rfl rfl rfl ?_
        refine wp_i rfl rfl rfl rfl ?_
        refine wp_i rfl rfl rfl rfl ?_
        refine wp_i rfl rfl rfl rfl ?_
        refine wp_i rfl rfl rfl rfl ?_
        refine wp_i rfl rfl rfl rfl ?_
        refine wp_i rfl rfl rfl rfl ?_
        refine wp_i rfl rfl rfl rfl ?_
        refine wp_i rfl rfl rfl rfl ?_
        refine wp_i rfl rfl rfl rfl ?_
        have ev : dst (d + 1 + 1) (2000 + nI j + 0) = some (d + 1) := pr_dst (j := j) (e := 0) (by omega)
        show pm_WP PT fr lo 195 (97, [some (.ref 162), some (.int (nI 0)), some (.int 1), some (.int (nI j))], [.int (2000 + nI j + 0), .ref 162], h2, 198, sl) _
        refine wp_callM (t := 193) (As := [.int (2000 + nI j + 0)]) (rest := []) (mx := 2) rfl rfl rfl rfl (Nat.le_of_ble_eq_true rfl) (Nat.le_of_ble_eq_true rfl) (by omega) (by omega) rfl (mF_obj p32) (wp_mono (hd_codes k2 (by omega) (2000 + nI j + 0)) ?_)
        rintro _ rfl
        refine wp_i rfl rfl rfl rfl ?_
        refine wp_i rfl rfl rfl rfl ?_
        refine wp_i rfl rfl rfl rfl ?_
        refine wp_i rfl rfl rfl rfl ?_
        refine wp_i rfl rfl rfl rfl ?_
        refine wp_i rfl rfl rfl rfl ?_
        refine wp_i rfl rfl rfl rfl ?_
        refine wp_i rfl rfl rfl rfl ?_
        show pm_WP PT fr lo 195 (114, [some (.ref 162), some (.int (nI 0)), some (.int 0), some (.int (nI j))], [.int 1], (hcod h2 rc2 c2 (2000 + nI j + 0)), 198, sl) _
        exact wp_zret rfl rfl (by decide) ⟨true, _, a2, n2, c2 + 1, _, rfl, pS_cod k2, pD_tr f2 pD_cod, by omega, g22, by omega, g42, fun _ => ⟨rfl, by omega, dep_put q3 ev⟩⟩
theorem pr_R0 {m : Nat} (hR : sR 1 m) : sR 0 m := by
  intro fr lo sl h a t n c d rc tp p ht ha hc hn hd hm hf hl
  have p0 := p
  obtain ⟨p1, p2, p3, p4, p5, p6, p7, p8⟩ := p
  refine wp_i rfl rfl rfl rfl ?_
  refine wp_i rfl rfl rfl rfl ?_
  refine wp_i rfl rfl rfl rfl ?_
  refine wp_i rfl rfl rfl rfl ?_
  refine wp_i rfl rfl rfl rfl ?_
  refine wp_i rfl rfl rfl rfl ?_
  refine wp_i rfl rfl rfl rfl ?_
  show pm_WP PT fr lo 195 (14, [some (.ref 162), some (.int (nI 0)), none, none], [.int (nI 1), .ref 162], h, 198, sl) _
  refine wp_callM (t := 195) (As := [.int (nI 1)]) (rest := []) (mx := 4) rfl rfl rfl rfl (Nat.le_of_ble_eq_true rfl) (Nat.le_of_ble_eq_true rfl) (by omega) (by omega) rfl (mF_obj p3) (wp_mono (hR _ _ _ h a t n c d rc tp p0 ht ha hc hn hd hm (by omega) (by omega)) ?_)
  rintro _ ⟨b, h1, a1, n1, c1, rc1, rfl, s1, f1, g11, g21, g31, g41, g51⟩
  cases b with
  | false =>
    refine wp_i rfl rfl rfl rfl ?_
    refine wp_i rfl rfl rfl rfl ?_
    show pm_WP PT fr lo 195 (21, [some (.ref 162), some (.int (nI 0)), none, none], [.int 0], h1, 198, sl) _
    exact wp_zret rfl rfl (by decide) ⟨false, h1, a1, n1, c1, rc1, rfl, s1, f1, g11, g21, g31, g41, fun q => by cases q⟩
  | true =>
    obtain ⟨q1, q2, q3⟩ := g51 rfl
    subst q1
    refine wp_i rfl rfl rfl rfl ?_
    refine wp_i rfl rfl rfl rfl ?_
    refine wp_i rfl rfl rfl rfl ?_
    show pm_WP PT fr lo 195 (24, [some (.ref 162), some (.int (nI 0)), some (.int 1), none], [], h1, 198, sl) _
    exact pr_L0 hR ht hc hn hm hf hl _ h1 a1 c1 rc1 none (Nat.le_refl _) s1 f1 q2 g21 g31 q3
theorem pr_T {m : Nat} (hT : ∀ m', m' < m → sT m') (hR : ∀ m', m' < m → sR 0 m') : sT m := by
  intro fr lo sl h a t n c d rc tp p ht ha hc hn hd hm hf hl
  have p0 := p
  obtain ⟨p1, p2, p3, p4, p5, p6, p7, p8⟩ := p
  refine wp_i rfl rfl rfl rfl ?_
  refine wp_i rfl rfl rfl rfl ?_
  show pm_WP PT fr lo 194 (3, [some (.ref 162), none], [.int 45, .ref 162], h, 198, sl) _
  refine wp_callM (t := 181) (As := [.int 45]) (rest := []) (mx := 3) rfl rfl rfl rfl (Nat.le_of_ble_eq_true rfl) (Nat.le_of_ble_eq_true rfl) (by omega) (by omega) rfl (mF_obj p3) (wp_mono (hd_takes p1 p2 p3 p4 (by omega) (by omega) (by omega) (by omega) 45) ?_)
  rintro _ rfl
  show pm_WP PT fr lo 194 (6, [some (.ref 162), none], [.int (cond (decide (a < t ∧ tp a = 45)) 1 0)], (mset h 16 (.int (nI (a + cond (decide (a < t ∧ tp a = 45)) 1 0)))), 198, sl) _
  by_cases hq : a < t ∧ tp a = 45
  · rw [decide_eq_true hq]
    show pm_WP PT fr lo 194 (6, [some (.ref 162), none], [.int 1], (mset h 16 (.int (nI (a + 1)))), 198, sl) _
    refine wp_i rfl rfl rfl rfl ?_
    refine wp_i rfl rfl rfl rfl ?_
    show pm_WP PT fr lo 194 (10, [some (.ref 162), none], [.ref 162], (mset h 16 (.int (nI (a + 1)))), 198, sl) _
    refine wp_callM (t := 194) (As := []) (rest := []) (mx := 2) rfl rfl rfl rfl (Nat.le_of_ble_eq_true rfl) (Nat.le_of_ble_eq_true rfl) (by omega) (by omega) rfl (mF_obj (mF_ne (by decide) p3)) (wp_mono (hT (m - 1) (by omega) _ _ _ (mset h 16 (.int (nI (a + 1)))) (a + 1) t n c d rc tp (pS_at p0) ht (by omega) (by omega) hn hd (by omega) (by omega) (by omega)) ?_)
    rintro _ ⟨b, h1, a1, n1, c1, rc1, rfl, s1, f1, g11, g21, g31, g41, g51⟩
    have f1 := pD_tr (pD_set (Or.inl rfl)) f1
    have k1 := s1
    obtain ⟨p11, p21, p31, p41, p51, p61, p71, p81⟩ := s1
    refine wp_i rfl rfl rfl rfl ?_
    refine wp_i rfl rfl rfl rfl ?_
    refine wp_i rfl rfl rfl rfl ?_
    show pm_WP PT fr lo 194 (18, [some (.ref 162), some (.int (cond b 1 0))], [.int 3000, .ref 162], h1, 198, sl) _
    refine wp_callM (t := 193) (As := [.int 3000]) (rest := []) (mx := 2) rfl rfl rfl rfl (Nat.le_of_ble_eq_true rfl) (Nat.le_of_ble_eq_true rfl) (by omega) (by omega) rfl (mF_obj p31) (wp_mono (hd_codes k1 (by omega) 3000) ?_)
    rintro _ rfl
    refine wp_i rfl rfl rfl rfl ?_
    show pm_WP PT fr lo 194 (22, [some (.ref 162), some (.int (cond b 1 0))], [.int (cond b 1 0)], (hcod h1 rc1 c1 3000), 198, sl) _
    refine wp_zret rfl rfl (by cases b; exact Or.inl rfl; exact Or.inr rfl) ⟨b, _, a1, n1, c1 + 1, _, rfl, pS_cod k1, pD_tr f1 pD_cod, by omega, g21, by omega, g41, fun q => ?_⟩
    obtain ⟨q1, q2, q3⟩ := g51 q
    exact ⟨q1, by omega, dep_put q3 (by unfold dst; rw [if_pos rfl, if_pos (by omega)])⟩
  · rw [decide_eq_false hq]
    show pm_WP PT fr lo 194 (6, [some (.ref 162), none], [.int 0], mset h 16 (.int (nI a)), 198, sl) _
    rw [mset_same p1]
    show pm_WP PT fr lo 194 (6, [some (.ref 162), none], [.int 0], h, 198, sl) _
    refine wp_i rfl rfl rfl rfl ?_
    refine wp_i rfl rfl rfl rfl ?_
    show pm_WP PT fr lo 194 (24, [some (.ref 162), none], [.ref 162], h, 198, sl) _
    refine wp_callM (t := 182) (As := []) (rest := []) (mx := 1) rfl rfl rfl rfl (Nat.le_of_ble_eq_true rfl) (Nat.le_of_ble_eq_true rfl) (by omega) (by omega) rfl (mF_obj p3) (wp_mono (hd_isDigit p1 p2 p3 p4 (by omega) (by omega) (by omega) (by omega)) ?_)
    rintro _ rfl
    cases hdg : dg tp a t with
    | true =>
      refine wp_i rfl rfl rfl rfl ?_
      refine wp_i rfl rfl rfl rfl ?_
      refine wp_i rfl rfl rfl rfl ?_
      refine wp_i rfl rfl rfl rfl ?_
      show pm_WP PT fr lo 194 (33, [some (.ref 162), none], [.int 3, .ref 162, .ref 162], h, 198, sl) _
      refine wp_callM (t := 184) (As := [.int 3]) (rest := [.ref 162]) (mx := 4) rfl rfl rfl rfl (Nat.le_of_ble_eq_true rfl) (Nat.le_of_ble_eq_true rfl) (by omega) (by omega) rfl (mF_obj p3) (wp_mono (hd_number (d := 3) p1 p2 p3 p4 (by omega) (by omega) (by omega) (by omega) (by decide)) ?_)
      rintro _ rfl
      rw [hdg]
      have hb := nbr_bd (tp := tp) t 2 (a + 1) (10 * 0 + tp a - 48) 9 ?_ ?_ (by decide) (by decide)
      rotate_left
      · exact (nbr_step (v := 0) (x := tp a) (m := 0) ⟨by decide, by decide⟩ (by decide) (dg_iv hdg).2).1
      · have := (nbr_step (v := 0) (x := tp a) (m := 0) ⟨by decide, by decide⟩ (by decide) (dg_iv hdg).2).2; omega
      rw [← nbr_gt t hdg] at hb
      generalize nbr tp t (2 + 1) a 0 = av at hb
      obtain ⟨a1, v1⟩ := av
      dsimp only at hb
      have hlt := (dg_iv hdg).1
      show pm_WP PT fr lo 194 (36, [some (.ref 162), none], [.int v1, .ref 162], (mset h 16 (.int (nI a1))), 198, sl) _
      have ev : dst d v1 = some (d + 1) := pr_small (by omega) (by omega)
      show pm_WP PT fr lo 194 (36, [some (.ref 162), none], [.int v1, .ref 162], (mset h 16 (.int (nI a1))), 198, sl) _
      refine wp_callM (t := 193) (As := [.int v1]) (rest := []) (mx := 2) rfl rfl rfl rfl (Nat.le_of_ble_eq_true rfl) (Nat.le_of_ble_eq_true rfl) (by omega) (by omega) rfl (mF_obj (mF_ne (by decide) p3)) (wp_mono (hd_codes (pS_at (b := a1) p0) (by omega) v1) ?_)
      rintro _ rfl
      refine wp_i rfl rfl rfl rfl ?_
      show pm_WP PT fr lo 194 (40, [some (.ref 162), none], [.int 1], (hcod (mset h 16 (.int (nI a1))) rc c v1), 198, sl) _
      exact wp_zret rfl rfl (by decide) ⟨true, _, a1, n, c + 1, _, rfl, pS_cod (pS_at p0), pD_tr (pD_set (Or.inl rfl)) pD_cod, by omega, by omega, by omega, hn, fun _ => ⟨rfl, by omega, dep_put hd ev⟩⟩
    | false =>
      refine wp_i rfl rfl rfl rfl ?_
      refine wp_i rfl rfl rfl rfl ?_
      refine wp_i rfl rfl rfl rfl ?_
      show pm_WP PT fr lo 194 (44, [some (.ref 162), none], [.retAddr 0, .ref 162], h, 198, sl) _
      refine wp_callM (t := 183) (As := [.retAddr 0]) (rest := []) (mx := 3) rfl rfl rfl rfl (Nat.le_of_ble_eq_true rfl) (Nat.le_of_ble_eq_true rfl) (by omega) (by omega) rfl (mF_obj p3) (wp_mono (hd_takesOf p1 p2 p3 p4 (by omega) (by omega) (by omega) (by omega) (show 0 < 5 by decide)) ?_)
      rintro _ rfl
      cases hk2 : tko 0 tp a t (st_tx 0).length 0 with
      | some j =>
        obtain ⟨j1, j2, j3⟩ := tko_some hk2
        have j4 : (st_tx 0).length = 7 := rfl
        show pm_WP PT fr lo 194 (47, [some (.ref 162), none], [.int (nI j)], (mset h 16 (.int (nI (a + 1)))), 198, sl) _
        refine wp_i rfl rfl rfl rfl ?_
        refine wp_i rfl rfl rfl rfl ?_
        show pm_WP PT fr lo 194 (49, [some (.ref 162), some (.int (nI j))], [.int (nI j)], (mset h 16 (.int (nI (a + 1)))), 198, sl) _
        refine wp_if (c := .lt) (off := 14) (t := 63) rfl rfl (fun q => absurd (q.symm.trans ((hI_lt (b := 0) (by omega) (by omega)).trans (decide_eq_false (by omega)))) (by decide)) (fun _ => ?_)
        refine wp_i rfl rfl rfl rfl ?_
        refine wp_i rfl rfl rfl rfl ?_
        refine wp_i rfl rfl rfl rfl ?_
        refine wp_i rfl rfl rfl rfl ?_
        have ev : dst d (1000 + nI j) = some (d + 1) := pr_thing (by omega)
        show pm_WP PT fr lo 194 (58, [some (.ref 162), some (.int (nI j))], [.int (1000 + (nI j)), .ref 162], (mset h 16 (.int (nI (a + 1)))), 198, sl) _
        refine wp_callM (t := 193) (As := [.int (1000 + (nI j))]) (rest := []) (mx := 2) rfl rfl rfl rfl (Nat.le_of_ble_eq_true rfl) (Nat.le_of_ble_eq_true rfl) (by omega) (by omega) rfl (mF_obj (mF_ne (by decide) p3)) (wp_mono (hd_codes (pS_at (b := a + 1) p0) (by omega) (1000 + nI j)) ?_)
        rintro _ rfl
        refine wp_i rfl rfl rfl rfl ?_
        show pm_WP PT fr lo 194 (62, [some (.ref 162), some (.int (nI j))], [.int 1], (hcod (mset h 16 (.int (nI (a + 1)))) rc c (1000 + nI j)), 198, sl) _
        exact wp_zret rfl rfl (by decide) ⟨true, _, a + 1, n, c + 1, _, rfl, pS_cod (pS_at p0), pD_tr (pD_set (Or.inl rfl)) pD_cod, by omega, by omega, by omega, hn, fun _ => ⟨rfl, by omega, dep_put hd ev⟩⟩
      | none =>
        show pm_WP PT fr lo 194 (47, [some (.ref 162), none], [.int (-1)], h, 198, sl) _
        refine wp_i rfl rfl rfl rfl ?_
        refine wp_i rfl rfl rfl rfl ?_
        refine wp_i rfl rfl rfl rfl ?_
        refine wp_i rfl rfl rfl rfl ?_
        show pm_WP PT fr lo 194 (64, [some (.ref 162), some (.int (-1))], [.ref 162], h, 198, sl) _
        refine wp_gfm rfl rfl p5 ?_
        refine wp_i rfl rfl rfl rfl ?_
        show pm_WP PT fr lo 194 (68, [some (.ref 162), some (.int (-1))], [.int 4, .int (nI n)], h, 198, sl) _
        refine wp_icmp (c := .eq) (off := 12) (t := 80) rfl rfl (fun q => ?_) (fun q => ?_)
        · refine wp_i rfl rfl rfl rfl ?_
          show pm_WP PT fr lo 194 (81, [some (.ref 162), some (.int (-1))], [.int 0], h, 198, sl) _
          exact wp_zret rfl rfl (by decide) ⟨false, h, a, n, c, rc, rfl, p0, pD_rf h, by omega, by omega, by omega, by omega, fun q => by cases q⟩
        · have hn4 : ¬ n = 4 := of_decide_eq_false ((hI_eq (b := 4) (by omega) (by omega)).symm.trans q)
          refine wp_i rfl rfl rfl rfl ?_
          refine wp_i rfl rfl rfl rfl ?_
          show pm_WP PT fr lo 194 (74, [some (.ref 162), some (.int (-1))], [.int 40, .ref 162], h, 198, sl) _
          refine wp_callM (t := 181) (As := [.int 40]) (rest := []) (mx := 3) rfl rfl rfl rfl (Nat.le_of_ble_eq_true rfl) (Nat.le_of_ble_eq_true rfl) (by omega) (by omega) rfl (mF_obj p3) (wp_mono (hd_takes p1 p2 p3 p4 (by omega) (by omega) (by omega) (by omega) 40) ?_)
          rintro _ rfl
          show pm_WP PT fr lo 194 (77, [some (.ref 162), some (.int (-1))], [.int (cond (decide (a < t ∧ tp a = 40)) 1 0)], (mset h 16 (.int (nI (a + cond (decide (a < t ∧ tp a = 40)) 1 0)))), 198, sl) _
          by_cases hq4 : a < t ∧ tp a = 40
          · rw [decide_eq_true hq4]
            show pm_WP PT fr lo 194 (77, [some (.ref 162), some (.int (-1))], [.int 1], (mset h 16 (.int (nI (a + 1)))), 198, sl) _
            refine wp_i rfl rfl rfl rfl ?_
            refine wp_i rfl rfl rfl rfl ?_
            refine wp_i rfl rfl rfl rfl ?_
            show pm_WP PT fr lo 194 (84, [some (.ref 162), some (.int (-1))], [.ref 162, .ref 162], (mset h 16 (.int (nI (a + 1)))), 198, sl) _
            refine wp_gfm rfl rfl (mF_ne (by decide) p5) ?_
            refine wp_i rfl rfl rfl rfl ?_
            refine wp_i rfl rfl rfl rfl ?_
            show pm_WP PT fr lo 194 (89, [some (.ref 162), some (.int (-1))], [.int (nI n + 1), .ref 162], (mset h 16 (.int (nI (a + 1)))), 198, sl) _
            rw [nI_1 n]
            show pm_WP PT fr lo 194 (89, [some (.ref 162), some (.int (-1))], [.int (nI (n + 1)), .ref 162], (mset h 16 (.int (nI (a + 1)))), 198, sl) _
            refine wp_pfm rfl rfl rfl (by decide) (mF_ne (by decide) p5) ?_
            refine wp_i rfl rfl rfl rfl ?_
            refine wp_i rfl rfl rfl rfl ?_
            show pm_WP PT fr lo 194 (94, [some (.ref 162), some (.int (-1))], [.int 0, .ref 162], (mset (mset h 16 (.int (nI (a + 1)))) 18 (.int (nI (n + 1)))), 198, sl) _
            refine wp_callM (t := 195) (As := [.int 0]) (rest := []) (mx := 4) rfl rfl rfl rfl (Nat.le_of_ble_eq_true rfl) (Nat.le_of_ble_eq_true rfl) (by omega) (by omega) rfl (mF_obj (mF_ne (by decide) (mF_ne (by decide) p3))) (wp_mono (hR (m - 1) (by omega) _ _ _ (mset (mset h 16 (.int (nI (a + 1)))) 18 (.int (nI (n + 1)))) (a + 1) t (n + 1) c d rc tp (pS_nest (pS_at p0)) ht (by omega) (by omega) (by omega) hd (by omega) (by omega) (by omega)) ?_)
            rintro _ ⟨b, h1, a1, n1, c1, rc1, rfl, s1, f1, g11, g21, g31, g41, g51⟩
            have f1 := pD_tr (pD_tr (pD_set (Or.inl rfl)) (pD_set (Or.inr (Or.inl rfl)))) f1
            cases b with
            | false =>
              refine wp_i rfl rfl rfl rfl ?_
              refine wp_i rfl rfl rfl rfl ?_
              show pm_WP PT fr lo 194 (110, [some (.ref 162), some (.int (-1))], [.int 0], h1, 198, sl) _
              exact wp_zret rfl rfl (by decide) ⟨false, h1, a1, n1, c1, rc1, rfl, s1, f1, by omega, by omega, by omega, by omega, fun q => by cases q⟩
            | true =>
              obtain ⟨q1, q2, q3⟩ := g51 rfl
              subst q1
              have k1 := s1
              obtain ⟨p11, p21, p31, p41, p51, p61, p71, p81⟩ := s1
              refine wp_i rfl rfl rfl rfl ?_
              refine wp_i rfl rfl rfl rfl ?_
              refine wp_i rfl rfl rfl rfl ?_
              show pm_WP PT fr lo 194 (103, [some (.ref 162), some (.int (-1))], [.int 41, .ref 162], h1, 198, sl) _
              refine wp_callM (t := 181) (As := [.int 41]) (rest := []) (mx := 3) rfl rfl rfl rfl (Nat.le_of_ble_eq_true rfl) (Nat.le_of_ble_eq_true rfl) (by omega) (by omega) rfl (mF_obj p31) (wp_mono (hd_takes p11 p21 p31 p41 (by omega) (by omega) (by omega) (by omega) 41) ?_)
              rintro _ rfl
              show pm_WP PT fr lo 194 (106, [some (.ref 162), some (.int (-1))], [.int (cond (decide (a1 < t ∧ tp a1 = 41)) 1 0)], (mset h1 16 (.int (nI (a1 + cond (decide (a1 < t ∧ tp a1 = 41)) 1 0)))), 198, sl) _
              by_cases hq5 : a1 < t ∧ tp a1 = 41
              · rw [decide_eq_true hq5]
                show pm_WP PT fr lo 194 (106, [some (.ref 162), some (.int (-1))], [.int 1], (mset h1 16 (.int (nI (a1 + 1)))), 198, sl) _
                refine wp_i rfl rfl rfl rfl ?_
                refine wp_i rfl rfl rfl rfl ?_
                refine wp_i rfl rfl rfl rfl ?_
                show pm_WP PT fr lo 194 (113, [some (.ref 162), some (.int (-1))], [.ref 162, .ref 162], (mset h1 16 (.int (nI (a1 + 1)))), 198, sl) _
                refine wp_gfm rfl rfl (mF_ne (by decide) p51) ?_
                refine wp_i rfl rfl rfl rfl ?_
                refine wp_i rfl rfl rfl rfl ?_
                show pm_WP PT fr lo 194 (118, [some (.ref 162), some (.int (-1))], [.int (nI (n + 1) - 1), .ref 162], (mset h1 16 (.int (nI (a1 + 1)))), 198, sl) _
                rw [nI_pred n]
                show pm_WP PT fr lo 194 (118, [some (.ref 162), some (.int (-1))], [.int (nI n), .ref 162], (mset h1 16 (.int (nI (a1 + 1)))), 198, sl) _
                refine wp_pfm rfl rfl rfl (by decide) (mF_ne (by decide) p51) ?_
                refine wp_i rfl rfl rfl rfl ?_
                show pm_WP PT fr lo 194 (122, [some (.ref 162), some (.int (-1))], [.int 1], (mset (mset h1 16 (.int (nI (a1 + 1)))) 18 (.int (nI n))), 198, sl) _
                exact wp_zret rfl rfl (by decide) ⟨true, _, a1 + 1, n, c1, rc1, rfl, pS_nest (pS_at k1), pD_tr f1 (pD_tr (pD_set (Or.inl rfl)) (pD_set (Or.inr (Or.inl rfl)))), by omega, by omega, by omega, hn, fun _ => ⟨rfl, by omega, q3⟩⟩
              · rw [decide_eq_false hq5]
                show pm_WP PT fr lo 194 (106, [some (.ref 162), some (.int (-1))], [.int 0], mset h1 16 (.int (nI a1)), 198, sl) _
                rw [mset_same p11]
                show pm_WP PT fr lo 194 (106, [some (.ref 162), some (.int (-1))], [.int 0], h1, 198, sl) _
                refine wp_i rfl rfl rfl rfl ?_
                refine wp_i rfl rfl rfl rfl ?_
                show pm_WP PT fr lo 194 (110, [some (.ref 162), some (.int (-1))], [.int 0], h1, 198, sl) _
                exact wp_zret rfl rfl (by decide) ⟨false, h1, a1, (n + 1), c1, rc1, rfl, k1, f1, by omega, by omega, by omega, by omega, fun q => by cases q⟩
          · rw [decide_eq_false hq4]
            show pm_WP PT fr lo 194 (77, [some (.ref 162), some (.int (-1))], [.int 0], mset h 16 (.int (nI a)), 198, sl) _
            rw [mset_same p1]
            show pm_WP PT fr lo 194 (77, [some (.ref 162), some (.int (-1))], [.int 0], h, 198, sl) _
            refine wp_i rfl rfl rfl rfl ?_
            refine wp_i rfl rfl rfl rfl ?_
            show pm_WP PT fr lo 194 (81, [some (.ref 162), some (.int (-1))], [.int 0], h, 198, sl) _
            exact wp_zret rfl rfl (by decide) ⟨false, h, a, n, c, rc, rfl, p0, pD_rf h, by omega, by omega, by omega, by omega, fun q => by cases q⟩
theorem pr_all : ∀ m, sT m ∧ sR 0 m := by
  intro m
  induction m using Nat.strongRecOn with
  | _ m ih =>
    have hT := pr_T (m := m) (fun m' h => (ih m' h).1) (fun m' h => (ih m' h).2)
    exact ⟨hT, pr_R0 (pr_R1 (pr_R2 (pr_R3 hT)))⟩
end PRS
end MH47cx09x5
section MH47cx09x6
section MG53rulex0
/-! rules: begun, read to the end, laid, worked off; by hand -/
section RUL
variable {fr lo sl : Nat} {h : pm_H}
theorem aset_same {a n : Nat} {f : Nat → Int32} (e : h a = .inl (0, n, .inl f)) : aset h a n f = h := by
  funext i
  by_cases q : i = a
  · subst q; rw [aset_self, e]
  · exact aset_nei q
theorem hI_min {n m : Nat} (hn : n < 2 ^ 31) (hm : m < 2 ^ 31) : (if nI m < nI n then nI m else nI n) = nI (min n m) := by
  by_cases q : m < n
  · rw [if_pos ((nI_ltI hm hn).mpr q), Nat.min_eq_right (by omega)]
  · rw [if_neg (fun z => q ((nI_ltI hm hn).mp z)), Nat.min_eq_left (by omega)]
/-- behind begins: the text's length, how far it is read -/
def hbeg (h : pm_H) (n m : Nat) : pm_H := mset (mset (mset (mset h 15 (.int 0)) 16 (.int 0)) 18 (.int 0)) 17 (.int (nI (min n m)))
theorem hd_begins {n m : Nat} {x16 x17 x18 : Value} (h15 : mF h 15 (.int (nI n))) (h16 : mF h 16 x16) (h17 : mF h 17 x17) (h18 : mF h 18 x18) (hn : n ≤ 80) (hm : m ≤ 80) (hf : 1 ≤ fr) (hl : 20 ≤ lo) : pm_WP PT fr lo 180 (0, pm_l0 [.ref 162, .int (nI m)] 3, [], h, 198, sl) (fun r => r = (some (.int (nI n)), hbeg h n m, 198, sl)) := by
  refine wp_i rfl rfl rfl rfl ?_
  show pm_WP PT fr lo 180 (1, [some (.ref 162), some (.int (nI m)), none], [.ref 162], h, 198, sl) _
  refine wp_gfm rfl rfl h15 ?_
  refine wp_i rfl rfl rfl rfl ?_
  refine wp_i rfl rfl rfl rfl ?_
  refine wp_i rfl rfl rfl rfl ?_
  show pm_WP PT fr lo 180 (7, [some (.ref 162), some (.int (nI m)), some (.int (nI n))], [.int 0, .ref 162], h, 198, sl) _
  refine wp_pfm rfl rfl rfl (by decide) h15 ?_
  refine wp_i rfl rfl rfl rfl ?_
  refine wp_i rfl rfl rfl rfl ?_
  show pm_WP PT fr lo 180 (12, [some (.ref 162), some (.int (nI m)), some (.int (nI n))], [.int 0, .ref 162], (mset h 15 (.int 0)), 198, sl) _
  refine wp_pfm rfl rfl rfl (by decide) (mF_ne (by decide) h16) ?_
  refine wp_i rfl rfl rfl rfl ?_
  refine wp_i rfl rfl rfl rfl ?_
  show pm_WP PT fr lo 180 (17, [some (.ref 162), some (.int (nI m)), some (.int (nI n))], [.int 0, .ref 162], (mset (mset h 15 (.int 0)) 16 (.int 0)), 198, sl) _
  refine wp_pfm rfl rfl rfl (by decide) (mF_ne (by decide) (mF_ne (by decide) h18)) ?_
  refine wp_i rfl rfl rfl rfl ?_
  refine wp_i rfl rfl rfl rfl ?_
  refine wp_i rfl rfl rfl rfl ?_
  show pm_WP PT fr lo 180 (23, [some (.ref 162), some (.int (nI m)), some (.int (nI n))], [.int (nI m), .int (nI n), .ref 162], (mset (mset (mset h 15 (.int 0)) 16 (.int 0)) 18 (.int 0)), 198, sl) _
  refine wp_min rfl rfl hf (by show pm_sum [Value.ref 162] + 13 ≤ lo; have : pm_sum [Value.ref 162] = 1 := rfl; omega) ?_
  rw [hI_min (by omega) (by omega)]
  show pm_WP PT fr lo 180 (26, [some (.ref 162), some (.int (nI m)), some (.int (nI n))], [.int (nI (min n m)), .ref 162], (mset (mset (mset h 15 (.int 0)) 16 (.int 0)) 18 (.int 0)), 198, sl) _
  refine wp_pfm rfl rfl rfl (by decide) (mF_ne (by decide) (mF_ne (by decide) (mF_ne (by decide) h17))) ?_
  refine wp_i rfl rfl rfl rfl ?_
  show pm_WP PT fr lo 180 (30, [some (.ref 162), some (.int (nI m)), some (.int (nI n))], [.int (nI n)], (mset (mset (mset (mset h 15 (.int 0)) 16 (.int 0)) 18 (.int 0)) 17 (.int (nI (min n m)))), 198, sl) _
  exact wp_iret rfl rfl rfl
/-- the fault of a text of n signs, read up to a of t -/
def flt (n m a t : Nat) (b : Bool) : Int32 := if m < n ∧ ((b = true ∧ a = t) ∨ m ≤ a) then -1 - nI m else if b = true ∧ a = t then 0 else -1 - nI a
theorem hd_faultOf {n m a t : Nat} {b : Bool} (h16 : mF h 16 (.int (nI a))) (h17 : mF h 17 (.int (nI t))) (hn : n ≤ 80) (hm : m ≤ 80) (ha : a ≤ 80) (ht : t ≤ 80) : pm_WP PT fr lo 186 (0, pm_l0 [.ref 162, .int (nI n), .int (nI m), .int (cond b 1 0)] 5, [], h, 198, sl) (fun r => r = (some (.int (flt n m a t b)), h, 198, sl)) := by
  have tail : ∀ c : Bool, (c = true ↔ (b = true ∧ a = t)) → pm_WP PT fr lo 186 (20, [some (.ref 162), some (.int (nI n)), some (.int (nI m)), some (.int (cond b 1 0)), none], [.int (cond c 1 0)], h, 198, sl) (fun r => r = (some (.int (flt n m a t b)), h, 198, sl)) := by
    intro c hc
    refine wp_i rfl rfl rfl rfl ?_
    refine wp_i rfl rfl rfl rfl ?_
    refine wp_i rfl rfl rfl rfl ?_
    show pm_WP PT fr lo 186 (24, [some (.ref 162), some (.int (nI n)), some (.int (nI m)), some (.int (cond b 1 0)), some (.int (cond c 1 0))], [.int (nI m), .int (nI n)], h, 198, sl) _
    refine wp_icmp (c := .le) (off := 20) (t := 44) rfl rfl (fun q => ?_) (fun q => ?_)
    · have q : n ≤ m := of_decide_eq_true ((hI_le (by omega) (by omega)).symm.trans q)
      have e : flt n m a t b = cond c 0 (-1 - nI a) := by
        unfold flt
        rw [if_neg (by omega)]
        cases c with
        | true => rw [if_pos (hc.mp rfl)]; rfl
        | false => rw [if_neg (fun z => by cases hc.mpr z)]; rfl
      rw [e]
      refine wp_i rfl rfl rfl rfl ?_
      cases c with
      | true =>
        refine wp_i rfl rfl rfl rfl ?_
        refine wp_i rfl rfl rfl rfl ?_
        refine wp_i rfl rfl rfl rfl ?_
        show pm_WP PT fr lo 186 (59, [some (.ref 162), some (.int (nI n)), some (.int (nI m)), some (.int (cond b 1 0)), some (.int 1)], [.int 0], h, 198, sl) _
        exact wp_iret rfl rfl rfl
      | false =>
        refine wp_i rfl rfl rfl rfl ?_
        refine wp_i rfl rfl rfl rfl ?_
        refine wp_i rfl rfl rfl rfl ?_
        show pm_WP PT fr lo 186 (55, [some (.ref 162), some (.int (nI n)), some (.int (nI m)), some (.int (cond b 1 0)), some (.int 0)], [.ref 162, .int (-1)], h, 198, sl) _
        refine wp_gfm rfl rfl h16 ?_
        refine wp_i rfl rfl rfl rfl ?_
        show pm_WP PT fr lo 186 (59, [some (.ref 162), some (.int (nI n)), some (.int (nI m)), some (.int (cond b 1 0)), some (.int 0)], [.int ((-1) - (nI a))], h, 198, sl) _
        exact wp_iret rfl rfl rfl
    · have q : ¬ n ≤ m := of_decide_eq_false ((hI_le (by omega) (by omega)).symm.trans q)
      refine wp_i rfl rfl rfl rfl ?_
      cases c with
      | true =>
        have e : flt n m a t b = -1 - nI m := by
          unfold flt
          rw [if_pos ⟨by omega, Or.inl (hc.mp rfl)⟩]
        rw [e]
        refine wp_i rfl rfl rfl rfl ?_
        refine wp_i rfl rfl rfl rfl ?_
        refine wp_i rfl rfl rfl rfl ?_
        refine wp_i rfl rfl rfl rfl ?_
        show pm_WP PT fr lo 186 (43, [some (.ref 162), some (.int (nI n)), some (.int (nI m)), some (.int (cond b 1 0)), some (.int 1)], [.int ((-1) - (nI m))], h, 198, sl) _
        exact wp_iret rfl rfl rfl
      | false =>
        have hc2 : ¬ (b = true ∧ a = t) := fun z => by cases hc.mpr z
        refine wp_i rfl rfl rfl rfl ?_
        refine wp_i rfl rfl rfl rfl ?_
        show pm_WP PT fr lo 186 (33, [some (.ref 162), some (.int (nI n)), some (.int (nI m)), some (.int (cond b 1 0)), some (.int 0)], [.ref 162], h, 198, sl) _
        refine wp_gfm rfl rfl h16 ?_
        refine wp_i rfl rfl rfl rfl ?_
        show pm_WP PT fr lo 186 (37, [some (.ref 162), some (.int (nI n)), some (.int (nI m)), some (.int (cond b 1 0)), some (.int 0)], [.int (nI m), .int (nI a)], h, 198, sl) _
        refine wp_icmp (c := .lt) (off := 7) (t := 44) rfl rfl (fun q => ?_) (fun q => ?_)
        · rename_i q0
          have q2 : a < m := of_decide_eq_true ((hI_lt (by omega) (by omega)).symm.trans q)
          have e : flt n m a t b = -1 - nI a := by
            unfold flt
            rw [if_neg (fun z => by rcases z.2 with z2 | z2; exact hc2 z2; omega), if_neg hc2]
          rw [e]
          refine wp_i rfl rfl rfl rfl ?_
          refine wp_i rfl rfl rfl rfl ?_
          refine wp_i rfl rfl rfl rfl ?_
          refine wp_i rfl rfl rfl rfl ?_
          show pm_WP PT fr lo 186 (55, [some (.ref 162), some (.int (nI n)), some (.int (nI m)), some (.int (cond b 1 0)), some (.int 0)], [.ref 162, .int (-1)], h, 198, sl) _
          refine wp_gfm rfl rfl h16 ?_
          refine wp_i rfl rfl rfl rfl ?_
          show pm_WP PT fr lo 186 (59, [some (.ref 162), some (.int (nI n)), some (.int (nI m)), some (.int (cond b 1 0)), some (.int 0)], [.int ((-1) - (nI a))], h, 198, sl) _
          exact wp_iret rfl rfl rfl
        · have q2 : ¬ a < m := of_decide_eq_false ((hI_lt (by omega) (by omega)).symm.trans q)
          have e : flt n m a t b = -1 - nI m := by
            unfold flt
            rw [if_pos ⟨by omega, Or.inr (by omega)⟩]
          rw [e]
          refine wp_i rfl rfl rfl rfl ?_
          refine wp_i rfl rfl rfl rfl ?_
          refine wp_i rfl rfl rfl rfl ?_
          show pm_WP PT fr lo 186 (43, [some (.ref 162), some (.int (nI n)), some (.int (nI m)), some (.int (cond b 1 0)), some (.int 0)], [.int ((-1) - (nI m))], h, 198, sl) _
          exact wp_iret rfl rfl rfl
  refine wp_i rfl rfl rfl rfl ?_
  cases b with
  | false =>
    refine wp_i rfl rfl rfl rfl ?_
    refine wp_i rfl rfl rfl rfl ?_
    show pm_WP PT fr lo 186 (20, [some (.ref 162), some (.int (nI n)), some (.int (nI m)), some (.int 0), none], [.int 0], h, 198, sl) _
    exact tail false ⟨fun z => (by cases z), fun z => (by cases z.1)⟩
  | true =>
    refine wp_i rfl rfl rfl rfl ?_
    refine wp_i rfl rfl rfl rfl ?_
    show pm_WP PT fr lo 186 (5, [some (.ref 162), some (.int (nI n)), some (.int (nI m)), some (.int 1), none], [.ref 162], h, 198, sl) _
    refine wp_gfm rfl rfl h16 ?_
    refine wp_i rfl rfl rfl rfl ?_
    show pm_WP PT fr lo 186 (9, [some (.ref 162), some (.int (nI n)), some (.int (nI m)), some (.int 1), none], [.ref 162, .int (nI a)], h, 198, sl) _
    refine wp_gfm rfl rfl h17 ?_
    show pm_WP PT fr lo 186 (12, [some (.ref 162), some (.int (nI n)), some (.int (nI m)), some (.int 1), none], [.int (nI t), .int (nI a)], h, 198, sl) _
    refine wp_icmp (c := .ne) (off := 7) (t := 19) rfl rfl (fun q => ?_) (fun q => ?_)
    · have q : ¬ a = t := of_decide_eq_true ((hI_ne (by omega) (by omega)).symm.trans q)
      refine wp_i rfl rfl rfl rfl ?_
      show pm_WP PT fr lo 186 (20, [some (.ref 162), some (.int (nI n)), some (.int (nI m)), some (.int 1), none], [.int 0], h, 198, sl) _
      exact tail false ⟨fun z => (by cases z), fun z => absurd z.2 q⟩
    · have q : a = t := Decidable.not_not.mp (of_decide_eq_false ((hI_ne (by omega) (by omega)).symm.trans q))
      refine wp_i rfl rfl rfl rfl ?_
      refine wp_i rfl rfl rfl rfl ?_
      show pm_WP PT fr lo 186 (20, [some (.ref 162), some (.int (nI n)), some (.int (nI m)), some (.int 1), none], [.int 1], h, 198, sl) _
      exact tail true ⟨fun _ => ⟨rfl, q⟩, fun _ => rfl⟩
def rDC (i : Nat) : Bool := Nat.beq i 175
def rDG (g : Nat) : Bool := Nat.beq g 15 || (Nat.beq g 16 || (Nat.beq g 17 || (Nat.beq g 18 || Nat.beq g 24)))
theorem rD_of {h h' : pm_H} (p : pD h h') : dD rDC rDG h h' := dD_mono p (fun i q => q) (fun g q => by
  unfold rDG at q
  unfold pDG
  simp only [Bool.or_eq_false_iff] at q ⊢
  exact ⟨q.2.1, q.2.2.2.1, q.2.2.2.2⟩)
theorem flt_bd {n m a t : Nat} {b : Bool} (hm : m ≤ 80) (ha : a ≤ 80) : -81 ≤ (flt n m a t b).toInt ∧ (flt n m a t b).toInt ≤ 0 ∧ ((flt n m a t b).toInt = 0 ↔ flt n m a t b = 0) ∧ (flt n m a t b = 0 → b = true ∧ a = t) := by
  have key : ∀ k : Nat, k ≤ 80 → (-1 - nI k).toInt = -1 - (k : Int) := by decide +kernel
  unfold flt
  split
  · have := key m hm
    refine ⟨by omega, by omega, ⟨fun z => by omega, fun z => ?_⟩, fun z => ?_⟩
    · rw [z] at this; have h0 : (0 : Int32).toInt = 0 := rfl; omega
    · rw [z] at this; have h0 : (0 : Int32).toInt = 0 := rfl; omega
  · split
    · rename_i q
      exact ⟨by decide, by decide, ⟨fun _ => rfl, fun _ => rfl⟩, fun _ => q⟩
    · have := key a ha
      refine ⟨by omega, by omega, ⟨fun z => by omega, fun z => ?_⟩, fun z => ?_⟩
      · rw [z] at this; have h0 : (0 : Int32).toInt = 0 := rfl; omega
      · rw [z] at this; have h0 : (0 : Int32).toInt = 0 := rfl; omega
/-- behind readsRule: a fault, or a row that can be worked off -/
def rrPost (h : pm_H) (sl : Nat) (r : pm_Rs) : Prop := ∃ (f : Int32) (h' : pm_H) (a t n c : Nat) (rc tp : Nat → Int32), r = (some (.int f), h', 198, sl) ∧ dD rDC rDG h h' ∧ pS h' a t n c rc tp ∧ mF h' 15 (.int 0) ∧ a ≤ 40 ∧ t ≤ 40 ∧ n ≤ 4 ∧ c ≤ 40 ∧ -81 ≤ f.toInt ∧ f.toInt ≤ 0 ∧ (f = 0 → c = 0 ∨ dep rc c = some 1)
theorem hd_readsRule {n : Nat} {x16 x17 x18 x24 : Value} {rc tp : Nat → Int32} (h15 : mF h 15 (.int (nI n))) (h16 : mF h 16 x16) (h17 : mF h 17 x17) (h18 : mF h 18 x18) (h24 : mF h 24 x24) (h14 : mF h 14 (.ref 172)) (hA : h 172 = .inl (0, 80, .inl tp)) (h22 : mF h 22 (.ref 175)) (hR : h 175 = .inl (0, 80, .inl rc)) (hn : n ≤ 80) (hf : 400 ≤ fr) (hl : 10000 ≤ lo) : pm_WP PT fr lo 196 (0, pm_l0 [.ref 162] 3, [], h, 198, sl) (rrPost h sl) := by
  refine wp_i rfl rfl rfl rfl ?_
  refine wp_i rfl rfl rfl rfl ?_
  show pm_WP PT fr lo 196 (3, [some (.ref 162), none, none], [.int 40, .ref 162], h, 198, sl) _
  refine wp_callM (t := 180) (As := [.int 40]) (rest := []) (mx := 3) rfl rfl rfl rfl (Nat.le_of_ble_eq_true rfl) (Nat.le_of_ble_eq_true rfl) (by omega) (by omega) rfl (mF_obj h15) (wp_mono (hd_begins (m := 40) h15 h16 h17 h18 hn (by decide) (by omega) (by omega)) ?_)
  rintro _ rfl
  unfold hbeg
  refine wp_i rfl rfl rfl rfl ?_
  refine wp_i rfl rfl rfl rfl ?_
  refine wp_i rfl rfl rfl rfl ?_
  show pm_WP PT fr lo 196 (9, [some (.ref 162), some (.int (nI n)), none], [.int 0, .ref 162], (mset (mset (mset (mset h 15 (.int 0)) 16 (.int 0)) 18 (.int 0)) 17 (.int (nI (min n 40)))), 198, sl) _
  refine wp_pfm rfl rfl rfl (by decide) (mF_ne (by decide) (mF_ne (by decide) (mF_ne (by decide) (mF_ne (by decide) h24)))) ?_
  refine wp_i rfl rfl rfl rfl ?_
  have f0 : dD rDC rDG h (mset (mset (mset (mset (mset h 15 (.int 0)) 16 (.int 0)) 18 (.int 0)) 17 (.int (nI (min n 40)))) 24 (.int 0)) := dD_tr (dD_tr (dD_tr (dD_tr (dD_set rfl) (dD_set rfl)) (dD_set rfl)) (dD_set rfl)) (dD_set rfl)
  have s0 : pS (mset (mset (mset (mset (mset h 15 (.int 0)) 16 (.int 0)) 18 (.int 0)) 17 (.int (nI (min n 40)))) 24 (.int 0)) 0 (min n 40) 0 0 rc tp := ⟨(mF_ne (by decide) (mF_ne (by decide) (mF_ne (by decide) (mF_self (mF_ne (by decide) h16))))), (mF_ne (by decide) (mF_self (mF_ne (by decide) (mF_ne (by decide) (mF_ne (by decide) h17))))), mF_ne (by decide) (mF_ne (by decide) (mF_ne (by decide) (mF_ne (by decide) (mF_ne (by decide) h14)))), mset_arr (by decide) (mset_arr (by decide) (mset_arr (by decide) (mset_arr (by decide) (mset_arr (by decide) hA)))), (mF_ne (by decide) (mF_ne (by decide) (mF_self (mF_ne (by decide) (mF_ne (by decide) h18))))), (mF_self (mF_ne (by decide) (mF_ne (by decide) (mF_ne (by decide) (mF_ne (by decide) h24))))), mF_ne (by decide) (mF_ne (by decide) (mF_ne (by decide) (mF_ne (by decide) (mF_ne (by decide) h22)))), mset_arr (by decide) (mset_arr (by decide) (mset_arr (by decide) (mset_arr (by decide) (mset_arr (by decide) hR))))⟩
  have m0 : mF (mset (mset (mset (mset (mset h 15 (.int 0)) 16 (.int 0)) 18 (.int 0)) 17 (.int (nI (min n 40)))) 24 (.int 0)) 15 (.int 0) := (mF_ne (by decide) (mF_ne (by decide) (mF_ne (by decide) (mF_ne (by decide) (mF_self h15)))))
  have ho : ∃ fs, (mset (mset (mset (mset (mset h 15 (.int 0)) 16 (.int 0)) 18 (.int 0)) 17 (.int (nI (min n 40)))) 24 (.int 0)) 162 = .inr (11, fs) := mF_obj m0
  generalize (mset (mset (mset (mset (mset h 15 (.int 0)) 16 (.int 0)) 18 (.int 0)) 17 (.int (nI (min n 40)))) 24 (.int 0)) = h1 at f0 s0 m0 ho ⊢
  have last : ∀ (b : Bool) (h2 : pm_H) (a t nn c : Nat) (rc2 : Nat → Int32), dD rDC rDG h h2 → pS h2 a t nn c rc2 tp → mF h2 15 (.int 0) → a ≤ 40 → t ≤ 40 → nn ≤ 4 → c ≤ 40 → (b = true → c = 0 ∨ dep rc2 c = some 1) → pm_WP PT fr lo 196 (29, [some (.ref 162), some (.int (nI n)), none], [.int (cond b 1 0)], h2, 198, sl) (rrPost h sl) := by
    intro b h2 a t nn c rc2 f2 s2 m2 ha ht hnn hc hb
    refine wp_i rfl rfl rfl rfl ?_
    refine wp_i rfl rfl rfl rfl ?_
    refine wp_i rfl rfl rfl rfl ?_
    refine wp_i rfl rfl rfl rfl ?_
    refine wp_i rfl rfl rfl rfl ?_
    show pm_WP PT fr lo 196 (35, [some (.ref 162), some (.int (nI n)), some (.int (cond b 1 0))], [.int (cond b 1 0), .int 40, .int (nI n), .ref 162], h2, 198, sl) _
    refine wp_callM (t := 186) (As := [.int (nI n), .int 40, .int (cond b 1 0)]) (rest := []) (mx := 5) rfl rfl rfl rfl (Nat.le_of_ble_eq_true rfl) (Nat.le_of_ble_eq_true rfl) (by omega) (by omega) rfl (mF_obj m2) (wp_mono (hd_faultOf (m := 40) (b := b) s2.1 s2.2.1 hn (by decide) (by omega) (by omega)) ?_)
    rintro _ rfl
    show pm_WP PT fr lo 196 (38, [some (.ref 162), some (.int (nI n)), some (.int (cond b 1 0))], [.int (flt n 40 a t b)], h2, 198, sl) _
    obtain ⟨e1, e2, -, e4⟩ := flt_bd (n := n) (m := 40) (a := a) (t := t) (b := b) (by decide) (by omega)
    exact wp_iret rfl rfl ⟨_, h2, a, t, nn, c, rc2, tp, rfl, f2, s2, m2, ha, ht, hnn, hc, e1, e2, fun z => hb (e4 z).1⟩
  show pm_WP PT fr lo 196 (13, [some (.ref 162), some (.int (nI n)), none], [.int (nI n)], h1, 198, sl) _
  refine wp_if (c := .eq) (off := 11) (t := 24) rfl rfl (fun q => ?_) (fun q => ?_)
  · refine wp_i rfl rfl rfl rfl ?_
    refine wp_i rfl rfl rfl rfl ?_
    show pm_WP PT fr lo 196 (29, [some (.ref 162), some (.int (nI n)), none], [.int 1], h1, 198, sl) _
    exact last true h1 0 (min n 40) 0 0 rc f0 s0 m0 (by omega) (by omega) (by omega) (by omega) (fun _ => Or.inl rfl)
  · refine wp_i rfl rfl rfl rfl ?_
    refine wp_i rfl rfl rfl rfl ?_
    show pm_WP PT fr lo 196 (18, [some (.ref 162), some (.int (nI n)), none], [.int 0, .ref 162], h1, 198, sl) _
    refine wp_callM (t := 195) (As := [.int 0]) (rest := []) (mx := 4) rfl rfl rfl rfl (Nat.le_of_ble_eq_true rfl) (Nat.le_of_ble_eq_true rfl) (by omega) (by omega) rfl (mF_obj m0) (wp_mono ((pr_all 40).2 _ _ _ h1 0 (min n 40) 0 0 0 rc tp s0 (by omega) (by omega) (by omega) (by omega) rfl (by omega) (by omega) (by omega)) ?_)
    rintro _ ⟨b, h2, a2, n2, c2, rc2, rfl, s2, f2, g1, g2, g3, g4, g5⟩
    have m2 : mF h2 15 (.int 0) := dD_mF f2 rfl m0
    have f2 := dD_tr f0 (rD_of f2)
    cases b with
    | true =>
      refine wp_i rfl rfl rfl rfl ?_
      refine wp_i rfl rfl rfl rfl ?_
      refine wp_i rfl rfl rfl rfl ?_
      show pm_WP PT fr lo 196 (29, [some (.ref 162), some (.int (nI n)), none], [.int 1], h2, 198, sl) _
      exact last true h2 a2 (min n 40) n2 c2 rc2 f2 s2 m2 (by omega) (by omega) g4 (by omega) (fun _ => Or.inr (g5 rfl).2.2)
    | false =>
      refine wp_i rfl rfl rfl rfl ?_
      refine wp_i rfl rfl rfl rfl ?_
      show pm_WP PT fr lo 196 (29, [some (.ref 162), some (.int (nI n)), none], [.int 0], h2, 198, sl) _
      exact last false h2 a2 (min n 40) n2 c2 rc2 f2 s2 m2 (by omega) (by omega) g4 (by omega) (fun z => by cases z)
def cpf (f g : Nat → Int32) (n : Nat) : Nat → Int32 := fun j => if j < n then f j else g j
theorem cpf_0 (f g : Nat → Int32) : cpf f g 0 = g := by funext j; simp [cpf]
theorem cpf_up (f g : Nat → Int32) (n : Nat) : upd (cpf f g n) n (f n) = cpf f g (n + 1) := by
  funext j
  unfold upd cpf
  by_cases e : j = n
  · subst e
    simp
  · simp only [if_neg e]
    by_cases q : j < n
    · rw [if_pos q, if_pos (by omega)]
    · rw [if_neg q, if_neg (by omega)]
theorem hd_laysL175 {f : Nat → Int32} {n : Nat} (hn : n ≤ 80) : ∀ (m k : Nat) (g : Nat → Int32) (h : pm_H), k + m = n → mF h 21 (.ref 174) → h 175 = .inl (0, 80, .inl f) → h 174 = .inl (0, 80, .inl g) → pm_WP PT fr lo 197 (7, [some (.ref 162), some (.ref 175), some (.int (nI n)), some (.int (nI k))], [], h, 198, sl) (fun r => ∃ g2 : Nat → Int32, r = (none, aset h 174 80 g2, 198, sl) ∧ (∀ j, j < k → g2 j = g j) ∧ ∀ j, k ≤ j → j < n → g2 j = f j) := by
  intro m
  induction m with
  | zero =>
    intro k g h hk h21 hS hC
    refine wp_i rfl rfl rfl rfl ?_
    refine wp_i rfl rfl rfl rfl ?_
    show pm_WP PT fr lo 197 (9, [some (.ref 162), some (.ref 175), some (.int (nI n)), some (.int (nI k))], [.int (nI n), .int (nI k)], h, 198, sl) _
    refine wp_icmp (c := .ge) (off := 18) (t := 27) rfl rfl (fun _ => ?_) (fun q => absurd (q.symm.trans ((hI_ge (by omega) (by omega)).trans (decide_eq_true (by omega)))) (by decide))
    show pm_WP PT fr lo 197 (27, [some (.ref 162), some (.ref 175), some (.int (nI n)), some (.int (nI k))], [], h, 198, sl) _
    refine wp_vret rfl rfl ⟨g, ?_, fun _ _ => rfl, fun j a b => by omega⟩
    rw [aset_same hC]
  | succ m ih =>
    intro k g h hk h21 hS hC
    refine wp_i rfl rfl rfl rfl ?_
    refine wp_i rfl rfl rfl rfl ?_
    show pm_WP PT fr lo 197 (9, [some (.ref 162), some (.ref 175), some (.int (nI n)), some (.int (nI k))], [.int (nI n), .int (nI k)], h, 198, sl) _
    refine wp_icmp (c := .ge) (off := 18) (t := 27) rfl rfl (fun q => absurd (q.symm.trans ((hI_ge (by omega) (by omega)).trans (decide_eq_false (by omega)))) (by decide)) (fun _ => ?_)
    refine wp_i rfl rfl rfl rfl ?_
    show pm_WP PT fr lo 197 (13, [some (.ref 162), some (.ref 175), some (.int (nI n)), some (.int (nI k))], [.ref 162], h, 198, sl) _
    refine wp_gfm rfl rfl h21 ?_
    refine wp_i rfl rfl rfl rfl ?_
    refine wp_i rfl rfl rfl rfl ?_
    refine wp_i rfl rfl rfl rfl ?_
    show pm_WP PT fr lo 197 (19, [some (.ref 162), some (.ref 175), some (.int (nI n)), some (.int (nI k))], [.int (nI k), .ref 175, .int (nI k), .ref 174], h, 198, sl) _
    refine wp_iam rfl hS (hI_in (by omega) (by omega)) (by decide) ?_
    rw [nI_clamp (by omega)]
    show pm_WP PT fr lo 197 (20, [some (.ref 162), some (.ref 175), some (.int (nI n)), some (.int (nI k))], [.int (f k), .int (nI k), .ref 174], h, 198, sl) _
    refine wp_ism rfl hC (hI_in (by omega) (by omega)) (by decide) ?_
    rw [upd_nI (by omega)]
    refine wp_i rfl rfl rfl rfl ?_
    refine wp_i rfl rfl rfl rfl ?_
    show pm_WP PT fr lo 197 (7, [some (.ref 162), some (.ref 175), some (.int (nI n)), some (.int (nI k + 1))], [], (aset h 174 80 (upd g k (f k))), 198, sl) _
    rw [nI_1 k]
    refine wp_mono (ih (k + 1) (upd g k (f k)) (aset h 174 80 (upd g k (f k))) (by omega) (mF_as (by decide) h21) (aset_ne (by decide) hS) (aset_self _ _ _ _)) ?_
    rintro _ ⟨g2, rfl, e1, e2⟩
    refine ⟨g2, by rw [aset_aset], fun j hj => ?_, fun j a b => ?_⟩
    · rw [e1 j (by omega)]; simp [upd, Nat.ne_of_lt hj]
    · by_cases q : j = k
      · subst q; rw [e1 j (by omega)]; simp [upd]
      · exact e2 j (by omega) b
theorem hd_lays175 {f g : Nat → Int32} {n : Nat} {x : Value} (hn : n ≤ 80) (h23 : mF h 23 x) (h21 : mF h 21 (.ref 174)) (hS : h 175 = .inl (0, 80, .inl f)) (hC : h 174 = .inl (0, 80, .inl g)) : pm_WP PT fr lo 197 (0, pm_l0 [.ref 162, .ref 175, .int (nI n)] 4, [], h, 198, sl) (fun r => ∃ g2 : Nat → Int32, r = (none, aset (mset h 23 (.int (nI n))) 174 80 g2, 198, sl) ∧ ∀ j, j < n → g2 j = f j) := by
  refine wp_i rfl rfl rfl rfl ?_
  refine wp_i rfl rfl rfl rfl ?_
  show pm_WP PT fr lo 197 (2, [some (.ref 162), some (.ref 175), some (.int (nI n)), none], [.int (nI n), .ref 162], h, 198, sl) _
  refine wp_pfm rfl rfl rfl (by decide) h23 ?_
  refine wp_i rfl rfl rfl rfl ?_
  refine wp_i rfl rfl rfl rfl ?_
  show pm_WP PT fr lo 197 (7, [some (.ref 162), some (.ref 175), some (.int (nI n)), some (.int 0)], [], (mset h 23 (.int (nI n))), 198, sl) _
  refine wp_mono (hd_laysL175 (f := f) hn n 0 g (mset h 23 (.int (nI n))) (by omega) (mF_ne (by decide) h21) (mset_arr (by decide) hS) (mset_arr (by decide) hC)) ?_
  rintro _ ⟨g2, rfl, e1, e2⟩
  exact ⟨g2, rfl, fun j hj => e2 j (by omega) hj⟩
theorem hd_laysL193 {f : Nat → Int32} {n : Nat} (hn : n ≤ 80) : ∀ (m k : Nat) (g : Nat → Int32) (h : pm_H), k + m = n → mF h 21 (.ref 174) → h 193 = .inl (0, 80, .inl f) → h 174 = .inl (0, 80, .inl g) → pm_WP PT fr lo 197 (7, [some (.ref 162), some (.ref 193), some (.int (nI n)), some (.int (nI k))], [], h, 198, sl) (fun r => ∃ g2 : Nat → Int32, r = (none, aset h 174 80 g2, 198, sl) ∧ (∀ j, j < k → g2 j = g j) ∧ ∀ j, k ≤ j → j < n → g2 j = f j) := by
  intro m
  induction m with
  | zero =>
    intro k g h hk h21 hS hC
    refine wp_i rfl rfl rfl rfl ?_
    refine wp_i rfl rfl rfl rfl ?_
    show pm_WP PT fr lo 197 (9, [some (.ref 162), some (.ref 193), some (.int (nI n)), some (.int (nI k))], [.int (nI n), .int (nI k)], h, 198, sl) _
    refine wp_icmp (c := .ge) (off := 18) (t := 27) rfl rfl (fun _ => ?_) (fun q => absurd (q.symm.trans ((hI_ge (by omega) (by omega)).trans (decide_eq_true (by omega)))) (by decide))
    show pm_WP PT fr lo 197 (27, [some (.ref 162), some (.ref 193), some (.int (nI n)), some (.int (nI k))], [], h, 198, sl) _
    refine wp_vret rfl rfl ⟨g, ?_, fun _ _ => rfl, fun j a b => by omega⟩
    rw [aset_same hC]
  | succ m ih =>
    intro k g h hk h21 hS hC
    refine wp_i rfl rfl rfl rfl ?_
    refine wp_i rfl rfl rfl rfl ?_
    show pm_WP PT fr lo 197 (9, [some (.ref 162), some (.ref 193), some (.int (nI n)), some (.int (nI k))], [.int (nI n), .int (nI k)], h, 198, sl) _
    refine wp_icmp (c := .ge) (off := 18) (t := 27) rfl rfl (fun q => absurd (q.symm.trans ((hI_ge (by omega) (by omega)).trans (decide_eq_false (by omega)))) (by decide)) (fun _ => ?_)
    refine wp_i rfl rfl rfl rfl ?_
    show pm_WP PT fr lo 197 (13, [some (.ref 162), some (.ref 193), some (.int (nI n)), some (.int (nI k))], [.ref 162], h, 198, sl) _
    refine wp_gfm rfl rfl h21 ?_
    refine wp_i rfl rfl rfl rfl ?_
    refine wp_i rfl rfl rfl rfl ?_
    refine wp_i rfl rfl rfl rfl ?_
    show pm_WP PT fr lo 197 (19, [some (.ref 162), some (.ref 193), some (.int (nI n)), some (.int (nI k))], [.int (nI k), .ref 193, .int (nI k), .ref 174], h, 198, sl) _
    refine wp_iam rfl hS (hI_in (by omega) (by omega)) (by decide) ?_
    rw [nI_clamp (by omega)]
    show pm_WP PT fr lo 197 (20, [some (.ref 162), some (.ref 193), some (.int (nI n)), some (.int (nI k))], [.int (f k), .int (nI k), .ref 174], h, 198, sl) _
    refine wp_ism rfl hC (hI_in (by omega) (by omega)) (by decide) ?_
    rw [upd_nI (by omega)]
    refine wp_i rfl rfl rfl rfl ?_
    refine wp_i rfl rfl rfl rfl ?_
    show pm_WP PT fr lo 197 (7, [some (.ref 162), some (.ref 193), some (.int (nI n)), some (.int (nI k + 1))], [], (aset h 174 80 (upd g k (f k))), 198, sl) _
    rw [nI_1 k]
    refine wp_mono (ih (k + 1) (upd g k (f k)) (aset h 174 80 (upd g k (f k))) (by omega) (mF_as (by decide) h21) (aset_ne (by decide) hS) (aset_self _ _ _ _)) ?_
    rintro _ ⟨g2, rfl, e1, e2⟩
    refine ⟨g2, by rw [aset_aset], fun j hj => ?_, fun j a b => ?_⟩
    · rw [e1 j (by omega)]; simp [upd, Nat.ne_of_lt hj]
    · by_cases q : j = k
      · subst q; rw [e1 j (by omega)]; simp [upd]
      · exact e2 j (by omega) b
theorem hd_lays193 {f g : Nat → Int32} {n : Nat} {x : Value} (hn : n ≤ 80) (h23 : mF h 23 x) (h21 : mF h 21 (.ref 174)) (hS : h 193 = .inl (0, 80, .inl f)) (hC : h 174 = .inl (0, 80, .inl g)) : pm_WP PT fr lo 197 (0, pm_l0 [.ref 162, .ref 193, .int (nI n)] 4, [], h, 198, sl) (fun r => ∃ g2 : Nat → Int32, r = (none, aset (mset h 23 (.int (nI n))) 174 80 g2, 198, sl) ∧ ∀ j, j < n → g2 j = f j) := by
  refine wp_i rfl rfl rfl rfl ?_
  refine wp_i rfl rfl rfl rfl ?_
  show pm_WP PT fr lo 197 (2, [some (.ref 162), some (.ref 193), some (.int (nI n)), none], [.int (nI n), .ref 162], h, 198, sl) _
  refine wp_pfm rfl rfl rfl (by decide) h23 ?_
  refine wp_i rfl rfl rfl rfl ?_
  refine wp_i rfl rfl rfl rfl ?_
  show pm_WP PT fr lo 197 (7, [some (.ref 162), some (.ref 193), some (.int (nI n)), some (.int 0)], [], (mset h 23 (.int (nI n))), 198, sl) _
  refine wp_mono (hd_laysL193 (f := f) hn n 0 g (mset h 23 (.int (nI n))) (by omega) (mF_ne (by decide) h21) (mset_arr (by decide) hS) (mset_arr (by decide) hC)) ?_
  rintro _ ⟨g2, rfl, e1, e2⟩
  exact ⟨g2, rfl, fun j hj => e2 j (by omega) hj⟩
theorem wp_idiv {k pc : Nat} {L : pm_L} {r : List Value} {x y : Int32} {Q : pm_Rs → Prop} (hi : pm_ins PT k pc = some (.idiv, 1)) (hy : ¬ y = 0) (kk : pm_WP PT fr lo k (pc + 1, L, .int (x / y) :: r, h, 198, sl) Q) : pm_WP PT fr lo k (pc, L, .int y :: .int x :: r, h, 198, sl) Q := by
  refine wp_i hi rfl rfl ?_ kk
  show pm_bd (fun x y => x / y) pc L (.int y :: .int x :: r) h 198 sl = _
  unfold pm_bd
  dsimp only
  rw [if_neg hy]
theorem hd_worked0 (hf : 1 ≤ fr) (hl : 40 ≤ lo) (x y : Int32) : pm_WP PT fr lo 199 (0, pm_l0 [.int (nI 0), .int x, .int y] 3, [], h, 198, sl) (fun r => ∃ v : Int32, r = (some (.int v), h, 198, sl)) := by
  refine wp_i rfl rfl rfl rfl ?_
  refine wp_i rfl rfl rfl rfl ?_
  refine wp_i rfl rfl rfl rfl ?_
  refine wp_i rfl rfl rfl rfl ?_
  show pm_WP PT fr lo 199 (42, [some (.int (nI 0)), some (.int x), some (.int y)], [.int y, .int x], h, 198, sl) _
  refine wp_icmp (c := .ge) (off := 7) (t := 49) rfl rfl (fun q => ?_) (fun q => ?_)
  · refine wp_i rfl rfl rfl rfl ?_
    show pm_WP PT fr lo 199 (50, [some (.int (nI 0)), some (.int x), some (.int y)], [.int 0], h, 198, sl) _
    refine wp_callS (t := 165) (As := [.int 0]) (rest := []) (mx := 1) rfl rfl rfl rfl (Nat.le_of_ble_eq_true rfl) (Nat.le_of_ble_eq_true rfl) (by omega) (by omega) (wp_mono (hd_flag false) ?_)
    rintro _ rfl
    show pm_WP PT fr lo 199 (53, [some (.int (nI 0)), some (.int x), some (.int y)], [.int (cond false 1 0)], h, 198, sl) _
    exact wp_iret rfl rfl ⟨_, rfl⟩
  · refine wp_i rfl rfl rfl rfl ?_
    refine wp_i rfl rfl rfl rfl ?_
    show pm_WP PT fr lo 199 (50, [some (.int (nI 0)), some (.int x), some (.int y)], [.int 1], h, 198, sl) _
    refine wp_callS (t := 165) (As := [.int 1]) (rest := []) (mx := 1) rfl rfl rfl rfl (Nat.le_of_ble_eq_true rfl) (Nat.le_of_ble_eq_true rfl) (by omega) (by omega) (wp_mono (hd_flag true) ?_)
    rintro _ rfl
    show pm_WP PT fr lo 199 (53, [some (.int (nI 0)), some (.int x), some (.int y)], [.int (cond true 1 0)], h, 198, sl) _
    exact wp_iret rfl rfl ⟨_, rfl⟩
theorem hd_worked1 (hf : 1 ≤ fr) (hl : 40 ≤ lo) (x y : Int32) : pm_WP PT fr lo 199 (0, pm_l0 [.int (nI 1), .int x, .int y] 3, [], h, 198, sl) (fun r => ∃ v : Int32, r = (some (.int v), h, 198, sl)) := by
  refine wp_i rfl rfl rfl rfl ?_
  refine wp_i rfl rfl rfl rfl ?_
  refine wp_i rfl rfl rfl rfl ?_
  refine wp_i rfl rfl rfl rfl ?_
  show pm_WP PT fr lo 199 (56, [some (.int (nI 1)), some (.int x), some (.int y)], [.int y, .int x], h, 198, sl) _
  refine wp_icmp (c := .le) (off := 7) (t := 63) rfl rfl (fun q => ?_) (fun q => ?_)
  · refine wp_i rfl rfl rfl rfl ?_
    show pm_WP PT fr lo 199 (64, [some (.int (nI 1)), some (.int x), some (.int y)], [.int 0], h, 198, sl) _
    refine wp_callS (t := 165) (As := [.int 0]) (rest := []) (mx := 1) rfl rfl rfl rfl (Nat.le_of_ble_eq_true rfl) (Nat.le_of_ble_eq_true rfl) (by omega) (by omega) (wp_mono (hd_flag false) ?_)
    rintro _ rfl
    show pm_WP PT fr lo 199 (67, [some (.int (nI 1)), some (.int x), some (.int y)], [.int (cond false 1 0)], h, 198, sl) _
    exact wp_iret rfl rfl ⟨_, rfl⟩
  · refine wp_i rfl rfl rfl rfl ?_
    refine wp_i rfl rfl rfl rfl ?_
    show pm_WP PT fr lo 199 (64, [some (.int (nI 1)), some (.int x), some (.int y)], [.int 1], h, 198, sl) _
    refine wp_callS (t := 165) (As := [.int 1]) (rest := []) (mx := 1) rfl rfl rfl rfl (Nat.le_of_ble_eq_true rfl) (Nat.le_of_ble_eq_true rfl) (by omega) (by omega) (wp_mono (hd_flag true) ?_)
    rintro _ rfl
    show pm_WP PT fr lo 199 (67, [some (.int (nI 1)), some (.int x), some (.int y)], [.int (cond true 1 0)], h, 198, sl) _
    exact wp_iret rfl rfl ⟨_, rfl⟩
theorem hd_worked2 (hf : 1 ≤ fr) (hl : 40 ≤ lo) (x y : Int32) : pm_WP PT fr lo 199 (0, pm_l0 [.int (nI 2), .int x, .int y] 3, [], h, 198, sl) (fun r => ∃ v : Int32, r = (some (.int v), h, 198, sl)) := by
  refine wp_i rfl rfl rfl rfl ?_
  refine wp_i rfl rfl rfl rfl ?_
  refine wp_i rfl rfl rfl rfl ?_
  refine wp_i rfl rfl rfl rfl ?_
  show pm_WP PT fr lo 199 (70, [some (.int (nI 2)), some (.int x), some (.int y)], [.int y, .int x], h, 198, sl) _
  refine wp_icmp (c := .ne) (off := 7) (t := 77) rfl rfl (fun q => ?_) (fun q => ?_)
  · refine wp_i rfl rfl rfl rfl ?_
    show pm_WP PT fr lo 199 (78, [some (.int (nI 2)), some (.int x), some (.int y)], [.int 0], h, 198, sl) _
    refine wp_callS (t := 165) (As := [.int 0]) (rest := []) (mx := 1) rfl rfl rfl rfl (Nat.le_of_ble_eq_true rfl) (Nat.le_of_ble_eq_true rfl) (by omega) (by omega) (wp_mono (hd_flag false) ?_)
    rintro _ rfl
    show pm_WP PT fr lo 199 (81, [some (.int (nI 2)), some (.int x), some (.int y)], [.int (cond false 1 0)], h, 198, sl) _
    exact wp_iret rfl rfl ⟨_, rfl⟩
  · refine wp_i rfl rfl rfl rfl ?_
    refine wp_i rfl rfl rfl rfl ?_
    show pm_WP PT fr lo 199 (78, [some (.int (nI 2)), some (.int x), some (.int y)], [.int 1], h, 198, sl) _
    refine wp_callS (t := 165) (As := [.int 1]) (rest := []) (mx := 1) rfl rfl rfl rfl (Nat.le_of_ble_eq_true rfl) (Nat.le_of_ble_eq_true rfl) (by omega) (by omega) (wp_mono (hd_flag true) ?_)
    rintro _ rfl
    show pm_WP PT fr lo 199 (81, [some (.int (nI 2)), some (.int x), some (.int y)], [.int (cond true 1 0)], h, 198, sl) _
    exact wp_iret rfl rfl ⟨_, rfl⟩
theorem hd_worked3 (hf : 1 ≤ fr) (hl : 40 ≤ lo) (x y : Int32) : pm_WP PT fr lo 199 (0, pm_l0 [.int (nI 3), .int x, .int y] 3, [], h, 198, sl) (fun r => ∃ v : Int32, r = (some (.int v), h, 198, sl)) := by
  refine wp_i rfl rfl rfl rfl ?_
  refine wp_i rfl rfl rfl rfl ?_
  refine wp_i rfl rfl rfl rfl ?_
  refine wp_i rfl rfl rfl rfl ?_
  refine wp_i rfl rfl rfl rfl ?_
  show pm_WP PT fr lo 199 (85, [some (.int (nI 3)), some (.int x), some (.int y)], [.int (x + y)], h, 198, sl) _
  exact wp_iret rfl rfl ⟨_, rfl⟩
theorem hd_worked4 (hf : 1 ≤ fr) (hl : 40 ≤ lo) (x y : Int32) : pm_WP PT fr lo 199 (0, pm_l0 [.int (nI 4), .int x, .int y] 3, [], h, 198, sl) (fun r => ∃ v : Int32, r = (some (.int v), h, 198, sl)) := by
  refine wp_i rfl rfl rfl rfl ?_
  refine wp_i rfl rfl rfl rfl ?_
  refine wp_i rfl rfl rfl rfl ?_
  refine wp_i rfl rfl rfl rfl ?_
  refine wp_i rfl rfl rfl rfl ?_
  show pm_WP PT fr lo 199 (89, [some (.int (nI 4)), some (.int x), some (.int y)], [.int (x - y)], h, 198, sl) _
  exact wp_iret rfl rfl ⟨_, rfl⟩
theorem hd_worked5 (hf : 1 ≤ fr) (hl : 40 ≤ lo) (x y : Int32) : pm_WP PT fr lo 199 (0, pm_l0 [.int (nI 5), .int x, .int y] 3, [], h, 198, sl) (fun r => ∃ v : Int32, r = (some (.int v), h, 198, sl)) := by
  refine wp_i rfl rfl rfl rfl ?_
  refine wp_i rfl rfl rfl rfl ?_
  refine wp_i rfl rfl rfl rfl ?_
  refine wp_i rfl rfl rfl rfl ?_
  refine wp_i rfl rfl rfl rfl ?_
  show pm_WP PT fr lo 199 (93, [some (.int (nI 5)), some (.int x), some (.int y)], [.int (x * y)], h, 198, sl) _
  exact wp_iret rfl rfl ⟨_, rfl⟩
theorem hd_worked6 (hf : 1 ≤ fr) (hl : 40 ≤ lo) (x y : Int32) : pm_WP PT fr lo 199 (0, pm_l0 [.int (nI 6), .int x, .int y] 3, [], h, 198, sl) (fun r => ∃ v : Int32, r = (some (.int v), h, 198, sl)) := by
  refine wp_i rfl rfl rfl rfl ?_
  refine wp_i rfl rfl rfl rfl ?_
  refine wp_i rfl rfl rfl rfl ?_
  show pm_WP PT fr lo 199 (95, [some (.int (nI 6)), some (.int x), some (.int y)], [.int y], h, 198, sl) _
  refine wp_if (c := .ne) (off := 7) (t := 102) rfl rfl (fun q => ?_) (fun q => ?_)
  · have q : ¬ y = 0 := (rs_t (P := ¬ y = 0) rfl).1 q
    refine wp_i rfl rfl rfl rfl ?_
    refine wp_i rfl rfl rfl rfl ?_
    show pm_WP PT fr lo 199 (104, [some (.int (nI 6)), some (.int x), some (.int y)], [.int y, .int x], h, 198, sl) _
    refine wp_idiv rfl q ?_
    show pm_WP PT fr lo 199 (105, [some (.int (nI 6)), some (.int x), some (.int y)], [.int (x / y)], h, 198, sl) _
    exact wp_iret rfl rfl ⟨_, rfl⟩
  · refine wp_i rfl rfl rfl rfl ?_
    refine wp_i rfl rfl rfl rfl ?_
    show pm_WP PT fr lo 199 (105, [some (.int (nI 6)), some (.int x), some (.int y)], [.int 0], h, 198, sl) _
    exact wp_iret rfl rfl ⟨_, rfl⟩
theorem hd_worked {c : Nat} (hc : c ≤ 6) (hf : 1 ≤ fr) (hl : 40 ≤ lo) (x y : Int32) : pm_WP PT fr lo 199 (0, pm_l0 [.int (nI c), .int x, .int y] 3, [], h, 198, sl) (fun r => ∃ v : Int32, r = (some (.int v), h, 198, sl)) := by
  match c, hc with
  | 0, _ => exact hd_worked0 hf hl x y
  | 1, _ => exact hd_worked1 hf hl x y
  | 2, _ => exact hd_worked2 hf hl x y
  | 3, _ => exact hd_worked3 hf hl x y
  | 4, _ => exact hd_worked4 hf hl x y
  | 5, _ => exact hd_worked5 hf hl x y
  | 6, _ => exact hd_worked6 hf hl x y
theorem dep_le {f : Nat → Int32} : ∀ {k d : Nat}, dep f k = some d → d ≤ k
  | 0, d, e => by cases (Option.some.inj e : 0 = d); exact Nat.le_refl _
  | k + 1, d, e => by
    unfold dep at e
    cases hd : dep f k with
    | none => rw [hd] at e; cases e
    | some d0 =>
      rw [hd] at e
      have ih := dep_le hd
      have e : dst d0 (f k) = some d := e
      unfold dst at e
      repeat' split at e
      all_goals (first | (cases e; done) | (cases e; omega))
theorem dep_step {f : Nat → Int32} {k d : Nat} (e : dep f (k + 1) = some d) : ∃ d0, dep f k = some d0 ∧ dst d0 (f k) = some d := by
  unfold dep at e
  cases hd : dep f k with
  | none => rw [hd] at e; cases e
  | some d0 => rw [hd] at e; exact ⟨d0, rfl, e⟩
theorem dep_pre {f : Nat → Int32} {k : Nat} : ∀ {m d : Nat}, dep f (k + m) = some d → ∃ d0, dep f k = some d0
  | 0, d, h => ⟨d, h⟩
  | m + 1, d, h => by
    obtain ⟨d0, h0, -⟩ := dep_step (k := k + m) h
    exact dep_pre h0
theorem dst_less {d e : Nat} (h : dst d 3000 = some e) : 1 ≤ d ∧ e = d := by
  unfold dst at h
  rw [if_pos rfl] at h
  split at h
  · cases h; omega
  · cases h
theorem dst_act {d e : Nat} {c : Int32} (h1 : ¬ c = 3000) (h2 : ¬ c < 2000) (h : dst d c = some e) : ∃ j, j ≤ 6 ∧ c - 2000 = nI j ∧ 2 ≤ d ∧ e = d - 1 := by
  unfold dst at h
  have h2' : (2000 : Int32) ≤ c := by rw [Int32.le_iff_toInt_le]; rw [Int32.lt_iff_toInt_lt] at h2; omega
  rw [if_neg h1, if_pos h2'] at h
  split at h
  · rename_i q
    cases h
    have n1 : (2000 : Int32).toInt = 2000 := rfl
    have n2 : (2006 : Int32).toInt = 2006 := rfl
    have a1 := Int32.le_iff_toInt_le.mp h2'
    have a2 := Int32.le_iff_toInt_le.mp q.1
    rw [n1] at a1
    rw [n2] at a2
    obtain ⟨j, rfl, hj, ej⟩ := hI_of (show 0 ≤ c.toInt by omega)
    refine ⟨j - 2000, by omega, ?_, q.2, rfl⟩
    rw [show j = (j - 2000) + 2000 by omega, ← nI_add]
    rw [show nI 2000 = 2000 from rfl, show j - 2000 + 2000 - 2000 = j - 2000 by omega]
    simp
  · cases h
theorem dst_push {d e : Nat} {c : Int32} (h1 : ¬ c = 3000) (h2 : c < 2000) (h : dst d c = some e) : e = d + 1 ∧ (¬ c < 1000 → ∃ j, j < 7 ∧ c - 1000 = nI j) := by
  unfold dst at h
  have h2' : ¬ (2000 : Int32) ≤ c := by rw [Int32.le_iff_toInt_le]; rw [Int32.lt_iff_toInt_lt] at h2; omega
  rw [if_neg h1, if_neg h2'] at h
  split at h
  · rename_i q
    split at h
    · rename_i q2
      cases h
      refine ⟨rfl, fun _ => ?_⟩
      have n1 : (1000 : Int32).toInt = 1000 := rfl
      have n2 : (1007 : Int32).toInt = 1007 := rfl
      have a1 := Int32.le_iff_toInt_le.mp q
      have a2 := Int32.lt_iff_toInt_lt.mp q2
      rw [n1] at a1
      rw [n2] at a2
      obtain ⟨j, rfl, hj, ej⟩ := hI_of (show 0 ≤ c.toInt by omega)
      refine ⟨j - 1000, by omega, ?_⟩
      rw [show j = (j - 1000) + 1000 by omega, ← nI_add]
      rw [show nI 1000 = 1000 from rfl, show j - 1000 + 1000 - 1000 = j - 1000 by omega]
      simp
    · cases h
  · rename_i q
    cases h
    refine ⟨rfl, fun z => absurd ?_ q⟩
    rw [Int32.le_iff_toInt_le]
    rw [Int32.lt_iff_toInt_lt] at z
    omega
theorem nI_dec (n : Nat) : nI (n + 1) + (-1) = nI n := by
  rw [← nI_pred n, Int32.sub_eq_add_neg]
def uDC (i : Nat) : Bool := Nat.beq i 176
def uDG (_ : Nat) : Bool := false
theorem hd_ruledL {f as : Nat → Int32} {n dn : Nat} (hn : n ≤ 80) (hdn : n = 0 ∨ (dep f n = some dn ∧ 1 ≤ dn)) (hf : 2 ≤ fr) (hl : 100 ≤ lo) : ∀ (m k d : Nat) (st : Nat → Int32) (h1 : pm_H) (x : Option Value), k + m = n → dep f k = some d → mF h1 23 (.int (nI n)) → mF h1 21 (.ref 174) → h1 174 = .inl (0, 80, .inl f) → mF h1 25 (.ref 176) → h1 176 = .inl (0, 80, .inl st) → mF h1 26 (.ref 177) → h1 177 = .inl (0, 7, .inl as) → pm_WP PT fr lo 200 (4, [some (.ref 162), some (.int (nI d)), some (.int (nI k)), x], [], h1, 198, sl) (fun r => ∃ (v : Int32) (st2 : Nat → Int32), r = (some (.int v), aset h1 176 80 st2, 198, sl)) := by
  intro m
  induction m with
  | zero =>
    intro k d st h1 x hk hd h23 h21 hC h25 hS h26 hAs
    refine wp_i rfl rfl rfl rfl ?_
    refine wp_i rfl rfl rfl rfl ?_
    show pm_WP PT fr lo 200 (6, [some (.ref 162), some (.int (nI d)), some (.int (nI k)), x], [.ref 162, .int (nI k)], h1, 198, sl) _
    refine wp_gfm rfl rfl h23 ?_
    show pm_WP PT fr lo 200 (9, [some (.ref 162), some (.int (nI d)), some (.int (nI k)), x], [.int (nI n), .int (nI k)], h1, 198, sl) _
    refine wp_icmp (c := .ge) (off := 116) (t := 125) rfl rfl (fun _ => ?_) (fun q => absurd (q.symm.trans ((hI_ge (by omega) (by omega)).trans (decide_eq_true (by omega)))) (by decide))
    refine wp_i rfl rfl rfl rfl ?_
    show pm_WP PT fr lo 200 (126, [some (.ref 162), some (.int (nI d)), some (.int (nI k)), x], [.ref 162], h1, 198, sl) _
    refine wp_gfm rfl rfl h23 ?_
    show pm_WP PT fr lo 200 (129, [some (.ref 162), some (.int (nI d)), some (.int (nI k)), x], [.int (nI n)], h1, 198, sl) _
    by_cases hn0 : n = 0
    · show pm_WP PT fr lo 200 (129, [some (.ref 162), some (.int (nI d)), some (.int (nI k)), x], [.int (nI n)], h1, 198, sl) _
      refine wp_if (c := .ne) (off := 21) (t := 150) rfl rfl (fun q => absurd (q.symm.trans ((hI_ne (b := 0) (by omega) (by omega)).trans (decide_eq_false (by omega)))) (by decide)) (fun _ => ?_)
      refine wp_i rfl rfl rfl rfl ?_
      show pm_WP PT fr lo 200 (133, [some (.ref 162), some (.int (nI d)), some (.int (nI k)), x], [.ref 162], h1, 198, sl) _
      refine wp_gfm rfl rfl h26 ?_
      refine wp_i rfl rfl rfl rfl ?_
      show pm_WP PT fr lo 200 (137, [some (.ref 162), some (.int (nI d)), some (.int (nI k)), x], [.int 0, .ref 177], h1, 198, sl) _
      refine wp_iam rfl hAs (by decide) (by decide) ?_
      refine wp_i rfl rfl rfl rfl ?_
      show pm_WP PT fr lo 200 (139, [some (.ref 162), some (.int (nI d)), some (.int (nI k)), x], [.ref 162, .int (as (0 : Int32).toNatClampNeg)], h1, 198, sl) _
      refine wp_gfm rfl rfl h26 ?_
      refine wp_i rfl rfl rfl rfl ?_
      show pm_WP PT fr lo 200 (143, [some (.ref 162), some (.int (nI d)), some (.int (nI k)), x], [.int 1, .ref 177, .int (as (0 : Int32).toNatClampNeg)], h1, 198, sl) _
      refine wp_iam rfl hAs (by decide) (by decide) ?_
      refine wp_i rfl rfl rfl rfl ?_
      refine wp_i rfl rfl rfl rfl ?_
      show pm_WP PT fr lo 200 (146, [some (.ref 162), some (.int (nI d)), some (.int (nI k)), x], [.int 5, .int ((as (0 : Int32).toNatClampNeg) * (as (1 : Int32).toNatClampNeg))], h1, 198, sl) _
      refine wp_idiv rfl (by decide) ?_
      refine wp_i rfl rfl rfl rfl ?_
      show pm_WP PT fr lo 200 (156, [some (.ref 162), some (.int (nI d)), some (.int (nI k)), x], [.int (((as (0 : Int32).toNatClampNeg) * (as (1 : Int32).toNatClampNeg)) / 5)], h1, 198, sl) _
      exact wp_iret rfl rfl ⟨_, st, by rw [aset_same hS]⟩
    · show pm_WP PT fr lo 200 (129, [some (.ref 162), some (.int (nI d)), some (.int (nI k)), x], [.int (nI n)], h1, 198, sl) _
      refine wp_if (c := .ne) (off := 21) (t := 150) rfl rfl (fun _ => ?_) (fun q => absurd (q.symm.trans ((hI_ne (b := 0) (by omega) (by omega)).trans (decide_eq_true (by omega)))) (by decide))
      refine wp_i rfl rfl rfl rfl ?_
      show pm_WP PT fr lo 200 (151, [some (.ref 162), some (.int (nI d)), some (.int (nI k)), x], [.ref 162], h1, 198, sl) _
      refine wp_gfm rfl rfl h25 ?_
      refine wp_i rfl rfl rfl rfl ?_
      show pm_WP PT fr lo 200 (155, [some (.ref 162), some (.int (nI d)), some (.int (nI k)), x], [.int 0, .ref 176], h1, 198, sl) _
      refine wp_iam rfl hS (by decide) (by decide) ?_
      show pm_WP PT fr lo 200 (156, [some (.ref 162), some (.int (nI d)), some (.int (nI k)), x], [.int (st (0 : Int32).toNatClampNeg)], h1, 198, sl) _
      exact wp_iret rfl rfl ⟨_, st, by rw [aset_same hS]⟩
  | succ m ih =>
    intro k d st h1 x hk hd h23 h21 hC h25 hS h26 hAs
    have hdn2 : dep f n = some dn := by
      rcases hdn with q | q
      · omega
      · exact q.1
    obtain ⟨d2, hd2⟩ := dep_pre (f := f) (k := k + 1) (m := m) (d := dn) (by rw [show k + 1 + m = n by omega]; exact hdn2)
    obtain ⟨d1, hd1, hst⟩ := dep_step hd2
    rw [hd] at hd1
    cases hd1
    have hdk := dep_le hd
    refine wp_i rfl rfl rfl rfl ?_
    refine wp_i rfl rfl rfl rfl ?_
    show pm_WP PT fr lo 200 (6, [some (.ref 162), some (.int (nI d)), some (.int (nI k)), x], [.ref 162, .int (nI k)], h1, 198, sl) _
    refine wp_gfm rfl rfl h23 ?_
    show pm_WP PT fr lo 200 (9, [some (.ref 162), some (.int (nI d)), some (.int (nI k)), x], [.int (nI n), .int (nI k)], h1, 198, sl) _
    refine wp_icmp (c := .ge) (off := 116) (t := 125) rfl rfl (fun q => absurd (q.symm.trans ((hI_ge (by omega) (by omega)).trans (decide_eq_false (by omega)))) (by decide)) (fun _ => ?_)
    refine wp_i rfl rfl rfl rfl ?_
    show pm_WP PT fr lo 200 (13, [some (.ref 162), some (.int (nI d)), some (.int (nI k)), x], [.ref 162], h1, 198, sl) _
    refine wp_gfm rfl rfl h21 ?_
    refine wp_i rfl rfl rfl rfl ?_
    show pm_WP PT fr lo 200 (17, [some (.ref 162), some (.int (nI d)), some (.int (nI k)), x], [.int (nI k), .ref 174], h1, 198, sl) _
    refine wp_iam rfl hC (hI_in (by omega) (by omega)) (by decide) ?_
    rw [nI_clamp (by omega)]
    refine wp_i rfl rfl rfl rfl ?_
    refine wp_i rfl rfl rfl rfl ?_
    refine wp_i rfl rfl rfl rfl ?_
    show pm_WP PT fr lo 200 (23, [some (.ref 162), some (.int (nI d)), some (.int (nI k)), some (.int (f k))], [.int 3000, .int (f k)], h1, 198, sl) _
    refine wp_icmp (c := .ne) (off := 23) (t := 46) rfl rfl (fun q => ?_) (fun q => ?_)
    · have q1 : ¬ f k = 3000 := (rs_t (P := ¬ f k = 3000) rfl).1 q
      refine wp_i rfl rfl rfl rfl ?_
      refine wp_i rfl rfl rfl rfl ?_
      show pm_WP PT fr lo 200 (50, [some (.ref 162), some (.int (nI d)), some (.int (nI k)), some (.int (f k))], [.int 2000, .int (f k)], h1, 198, sl) _
      refine wp_icmp (c := .lt) (off := 39) (t := 89) rfl rfl (fun q => ?_) (fun q => ?_)
      · have q2 : f k < 2000 := (rs_t (P := f k < 2000) rfl).1 q
        obtain ⟨rfl, hthing⟩ := dst_push q1 q2 hst
        refine wp_i rfl rfl rfl rfl ?_
        show pm_WP PT fr lo 200 (90, [some (.ref 162), some (.int (nI d)), some (.int (nI k)), some (.int (f k))], [.ref 162], h1, 198, sl) _
        refine wp_gfm rfl rfl h25 ?_
        refine wp_i rfl rfl rfl rfl ?_
        refine wp_i rfl rfl rfl rfl ?_
        refine wp_i rfl rfl rfl rfl ?_
        show pm_WP PT fr lo 200 (98, [some (.ref 162), some (.int (nI d)), some (.int (nI k)), some (.int (f k))], [.int 1000, .int (f k), .int (nI d), .ref 176], h1, 198, sl) _
        refine wp_icmp (c := .lt) (off := 16) (t := 114) rfl rfl (fun q => ?_) (fun q => ?_)
        · refine wp_i rfl rfl rfl rfl ?_
          show pm_WP PT fr lo 200 (115, [some (.ref 162), some (.int (nI d)), some (.int (nI k)), some (.int (f k))], [.int (f k), .int (nI d), .ref 176], h1, 198, sl) _
          refine wp_ism rfl hS (hI_in (by omega) (by omega)) (by decide) ?_
          rw [upd_nI (by omega)]
          refine wp_i rfl rfl rfl rfl ?_
          show pm_WP PT fr lo 200 (119, [some (.ref 162), some (.int (nI d + 1)), some (.int (nI k)), some (.int (f k))], [], (aset h1 176 80 (upd st d (f k))), 198, sl) _
          rw [nI_1 d]
          refine wp_i rfl rfl rfl rfl ?_
          refine wp_i rfl rfl rfl rfl ?_
          show pm_WP PT fr lo 200 (4, [some (.ref 162), some (.int (nI (d + 1))), some (.int (nI k + 1)), some (.int (f k))], [], (aset h1 176 80 (upd st d (f k))), 198, sl) _
          rw [nI_1 k]
          refine wp_mono (ih (k + 1) (d + 1) (upd st d (f k)) (aset h1 176 80 (upd st d (f k))) _ (by omega) (hd2.trans (congrArg some (by omega))) (mF_as (by decide) h23) (mF_as (by decide) h21) (aset_ne (by decide) hC) (mF_as (by decide) h25) (aset_self _ _ _ _) (mF_as (by decide) h26) (aset_ne (by decide) hAs)) ?_
          rintro _ ⟨v, st2, rfl⟩
          exact ⟨v, st2, by rw [aset_aset]⟩
        · have q3 : ¬ f k < 1000 := (rs_t (P := f k < 1000) rfl).2 q
          obtain ⟨j, hj, ej⟩ := hthing q3
          refine wp_i rfl rfl rfl rfl ?_
          show pm_WP PT fr lo 200 (102, [some (.ref 162), some (.int (nI d)), some (.int (nI k)), some (.int (f k))], [.ref 162, .int (nI d), .ref 176], h1, 198, sl) _
          refine wp_gfm rfl rfl h26 ?_
          refine wp_i rfl rfl rfl rfl ?_
          refine wp_i rfl rfl rfl rfl ?_
          refine wp_i rfl rfl rfl rfl ?_
          show pm_WP PT fr lo 200 (110, [some (.ref 162), some (.int (nI d)), some (.int (nI k)), some (.int (f k))], [.int ((f k) - 1000), .ref 177, .int (nI d), .ref 176], h1, 198, sl) _
          rw [ej]
          show pm_WP PT fr lo 200 (110, [some (.ref 162), some (.int (nI d)), some (.int (nI k)), some (.int (f k))], [.int (nI j), .ref 177, .int (nI d), .ref 176], h1, 198, sl) _
          refine wp_iam rfl hAs (hI_in hj (by decide)) (by decide) ?_
          rw [nI_clamp (by omega)]
          refine wp_i rfl rfl rfl rfl ?_
          show pm_WP PT fr lo 200 (115, [some (.ref 162), some (.int (nI d)), some (.int (nI k)), some (.int (f k))], [.int (as j), .int (nI d), .ref 176], h1, 198, sl) _
          refine wp_ism rfl hS (hI_in (by omega) (by omega)) (by decide) ?_
          rw [upd_nI (by omega)]
          refine wp_i rfl rfl rfl rfl ?_
          show pm_WP PT fr lo 200 (119, [some (.ref 162), some (.int (nI d + 1)), some (.int (nI k)), some (.int (f k))], [], (aset h1 176 80 (upd st d (as j))), 198, sl) _
          rw [nI_1 d]
          refine wp_i rfl rfl rfl rfl ?_
          refine wp_i rfl rfl rfl rfl ?_
          show pm_WP PT fr lo 200 (4, [some (.ref 162), some (.int (nI (d + 1))), some (.int (nI k + 1)), some (.int (f k))], [], (aset h1 176 80 (upd st d (as j))), 198, sl) _
          rw [nI_1 k]
          refine wp_mono (ih (k + 1) (d + 1) (upd st d (as j)) (aset h1 176 80 (upd st d (as j))) _ (by omega) (hd2.trans (congrArg some (by omega))) (mF_as (by decide) h23) (mF_as (by decide) h21) (aset_ne (by decide) hC) (mF_as (by decide) h25) (aset_self _ _ _ _) (mF_as (by decide) h26) (aset_ne (by decide) hAs)) ?_
          rintro _ ⟨v, st2, rfl⟩
          exact ⟨v, st2, by rw [aset_aset]⟩
      · have q2 : ¬ f k < 2000 := (rs_t (P := f k < 2000) rfl).2 q
        obtain ⟨j, hj, ej, hd2', rfl⟩ := dst_act q1 q2 hst
        obtain ⟨e, rfl⟩ : ∃ e, d = e + 1 + 1 := ⟨d - 2, by omega⟩
        refine wp_i rfl rfl rfl rfl ?_
        show pm_WP PT fr lo 200 (56, [some (.ref 162), some (.int (nI (e + 1 + 1) + (-1))), some (.int (nI k)), some (.int (f k))], [], h1, 198, sl) _
        rw [nI_dec (e + 1)]
        refine wp_i rfl rfl rfl rfl ?_
        show pm_WP PT fr lo 200 (57, [some (.ref 162), some (.int (nI (e + 1))), some (.int (nI k)), some (.int (f k))], [.ref 162], h1, 198, sl) _
        refine wp_gfm rfl rfl h25 ?_
        refine wp_i rfl rfl rfl rfl ?_
        refine wp_i rfl rfl rfl rfl ?_
        refine wp_i rfl rfl rfl rfl ?_
        refine wp_i rfl rfl rfl rfl ?_
        refine wp_i rfl rfl rfl rfl ?_
        refine wp_i rfl rfl rfl rfl ?_
        refine wp_i rfl rfl rfl rfl ?_
        show pm_WP PT fr lo 200 (69, [some (.ref 162), some (.int (nI (e + 1))), some (.int (nI k)), some (.int (f k))], [.ref 162, .int ((f k) - 2000), .int ((nI (e + 1)) - 1), .ref 176], h1, 198, sl) _
        refine wp_gfm rfl rfl h25 ?_
        refine wp_i rfl rfl rfl rfl ?_
        refine wp_i rfl rfl rfl rfl ?_
        refine wp_i rfl rfl rfl rfl ?_
        show pm_WP PT fr lo 200 (75, [some (.ref 162), some (.int (nI (e + 1))), some (.int (nI k)), some (.int (f k))], [.int ((nI (e + 1)) - 1), .ref 176, .int ((f k) - 2000), .int ((nI (e + 1)) - 1), .ref 176], h1, 198, sl) _
        rw [nI_pred e, ej]
        show pm_WP PT fr lo 200 (75, [some (.ref 162), some (.int (nI (e + 1))), some (.int (nI k)), some (.int (f k))], [.int (nI e), .ref 176, .int (nI j), .int (nI e), .ref 176], h1, 198, sl) _
        show pm_WP PT fr lo 200 (75, [some (.ref 162), some (.int (nI (e + 1))), some (.int (nI k)), some (.int (f k))], [.int (nI e), .ref 176, .int (nI j), .int (nI e), .ref 176], h1, 198, sl) _
        refine wp_iam rfl hS (hI_in (by omega) (by omega)) (by decide) ?_
        rw [nI_clamp (by omega)]
        refine wp_i rfl rfl rfl rfl ?_
        show pm_WP PT fr lo 200 (77, [some (.ref 162), some (.int (nI (e + 1))), some (.int (nI k)), some (.int (f k))], [.ref 162, .int (st e), .int (nI j), .int (nI e), .ref 176], h1, 198, sl) _
        refine wp_gfm rfl rfl h25 ?_
        refine wp_i rfl rfl rfl rfl ?_
        show pm_WP PT fr lo 200 (81, [some (.ref 162), some (.int (nI (e + 1))), some (.int (nI k)), some (.int (f k))], [.int (nI (e + 1)), .ref 176, .int (st e), .int (nI j), .int (nI e), .ref 176], h1, 198, sl) _
        refine wp_iam rfl hS (hI_in (by omega) (by omega)) (by decide) ?_
        rw [nI_clamp (by omega)]
        show pm_WP PT fr lo 200 (82, [some (.ref 162), some (.int (nI (e + 1))), some (.int (nI k)), some (.int (f k))], [.int (st (e + 1)), .int (st e), .int (nI j), .int (nI e), .ref 176], h1, 198, sl) _
        refine wp_callS (t := 199) (As := [.int (nI j), .int (st e), .int (st (e + 1))]) (rest := [.int (nI e), .ref 176]) (mx := 3) rfl rfl rfl rfl (Nat.le_of_ble_eq_true rfl) (Nat.le_of_ble_eq_true rfl) (by omega) (by omega) (wp_mono (hd_worked hj (by omega) (by omega) (st e) (st (e + 1))) ?_)
        rintro _ ⟨wv, rfl⟩
        show pm_WP PT fr lo 200 (85, [some (.ref 162), some (.int (nI (e + 1))), some (.int (nI k)), some (.int (f k))], [.int wv, .int (nI e), .ref 176], h1, 198, sl) _
        refine wp_ism rfl hS (hI_in (by omega) (by omega)) (by decide) ?_
        rw [upd_nI (by omega)]
        refine wp_i rfl rfl rfl rfl ?_
        show pm_WP PT fr lo 200 (119, [some (.ref 162), some (.int (nI (e + 1))), some (.int (nI k)), some (.int (f k))], [], (aset h1 176 80 (upd st e wv)), 198, sl) _
        refine wp_i rfl rfl rfl rfl ?_
        refine wp_i rfl rfl rfl rfl ?_
        show pm_WP PT fr lo 200 (4, [some (.ref 162), some (.int (nI (e + 1))), some (.int (nI k + 1)), some (.int (f k))], [], (aset h1 176 80 (upd st e wv)), 198, sl) _
        rw [nI_1 k]
        refine wp_mono (ih (k + 1) (e + 1) (upd st e wv) (aset h1 176 80 (upd st e wv)) _ (by omega) (hd2.trans (congrArg some (by omega))) (mF_as (by decide) h23) (mF_as (by decide) h21) (aset_ne (by decide) hC) (mF_as (by decide) h25) (aset_self _ _ _ _) (mF_as (by decide) h26) (aset_ne (by decide) hAs)) ?_
        rintro _ ⟨v, st2, rfl⟩
        exact ⟨v, st2, by rw [aset_aset]⟩
    · have q1 : f k = 3000 := Decidable.not_not.mp ((rs_t (P := ¬ f k = 3000) rfl).2 q)
      rw [q1] at hst
      obtain ⟨hd1, rfl⟩ := dst_less hst
      obtain ⟨e, rfl⟩ : ∃ e, d2 = e + 1 := ⟨d2 - 1, by omega⟩
      refine wp_i rfl rfl rfl rfl ?_
      show pm_WP PT fr lo 200 (27, [some (.ref 162), some (.int (nI (e + 1))), some (.int (nI k)), some (.int (f k))], [.ref 162], h1, 198, sl) _
      refine wp_gfm rfl rfl h25 ?_
      refine wp_i rfl rfl rfl rfl ?_
      refine wp_i rfl rfl rfl rfl ?_
      refine wp_i rfl rfl rfl rfl ?_
      refine wp_i rfl rfl rfl rfl ?_
      show pm_WP PT fr lo 200 (34, [some (.ref 162), some (.int (nI (e + 1))), some (.int (nI k)), some (.int (f k))], [.ref 162, .int ((nI (e + 1)) - 1), .ref 176], h1, 198, sl) _
      refine wp_gfm rfl rfl h25 ?_
      refine wp_i rfl rfl rfl rfl ?_
      refine wp_i rfl rfl rfl rfl ?_
      refine wp_i rfl rfl rfl rfl ?_
      show pm_WP PT fr lo 200 (40, [some (.ref 162), some (.int (nI (e + 1))), some (.int (nI k)), some (.int (f k))], [.int ((nI (e + 1)) - 1), .ref 176, .int ((nI (e + 1)) - 1), .ref 176], h1, 198, sl) _
      rw [nI_pred e]
      show pm_WP PT fr lo 200 (40, [some (.ref 162), some (.int (nI (e + 1))), some (.int (nI k)), some (.int (f k))], [.int (nI e), .ref 176, .int (nI e), .ref 176], h1, 198, sl) _
      show pm_WP PT fr lo 200 (40, [some (.ref 162), some (.int (nI (e + 1))), some (.int (nI k)), some (.int (f k))], [.int (nI e), .ref 176, .int (nI e), .ref 176], h1, 198, sl) _
      refine wp_iam rfl hS (hI_in (by omega) (by omega)) (by decide) ?_
      rw [nI_clamp (by omega)]
      refine wp_i rfl rfl rfl rfl ?_
      show pm_WP PT fr lo 200 (42, [some (.ref 162), some (.int (nI (e + 1))), some (.int (nI k)), some (.int (f k))], [.int (-(st e)), .int (nI e), .ref 176], h1, 198, sl) _
      refine wp_ism rfl hS (hI_in (by omega) (by omega)) (by decide) ?_
      rw [upd_nI (by omega)]
      refine wp_i rfl rfl rfl rfl ?_
      show pm_WP PT fr lo 200 (119, [some (.ref 162), some (.int (nI (e + 1))), some (.int (nI k)), some (.int (f k))], [], (aset h1 176 80 (upd st e (-st e))), 198, sl) _
      refine wp_i rfl rfl rfl rfl ?_
      refine wp_i rfl rfl rfl rfl ?_
      show pm_WP PT fr lo 200 (4, [some (.ref 162), some (.int (nI (e + 1))), some (.int (nI k + 1)), some (.int (f k))], [], (aset h1 176 80 (upd st e (-st e))), 198, sl) _
      rw [nI_1 k]
      refine wp_mono (ih (k + 1) (e + 1) (upd st e (-st e)) (aset h1 176 80 (upd st e (-st e))) _ (by omega) (hd2.trans (congrArg some (by omega))) (mF_as (by decide) h23) (mF_as (by decide) h21) (aset_ne (by decide) hC) (mF_as (by decide) h25) (aset_self _ _ _ _) (mF_as (by decide) h26) (aset_ne (by decide) hAs)) ?_
      rintro _ ⟨v, st2, rfl⟩
      exact ⟨v, st2, by rw [aset_aset]⟩
theorem hd_ruled {f as st : Nat → Int32} {n dn : Nat} (hn : n ≤ 80) (hdn : n = 0 ∨ (dep f n = some dn ∧ 1 ≤ dn)) (hf : 2 ≤ fr) (hl : 100 ≤ lo) (h23 : mF h 23 (.int (nI n))) (h21 : mF h 21 (.ref 174)) (hC : h 174 = .inl (0, 80, .inl f)) (h25 : mF h 25 (.ref 176)) (hS : h 176 = .inl (0, 80, .inl st)) (h26 : mF h 26 (.ref 177)) (hAs : h 177 = .inl (0, 7, .inl as)) : pm_WP PT fr lo 200 (0, pm_l0 [.ref 162] 4, [], h, 198, sl) (fun r => ∃ (v : Int32) (st2 : Nat → Int32), r = (some (.int v), aset h 176 80 st2, 198, sl)) := by
  refine wp_i rfl rfl rfl rfl ?_
  refine wp_i rfl rfl rfl rfl ?_
  refine wp_i rfl rfl rfl rfl ?_
  refine wp_i rfl rfl rfl rfl ?_
  show pm_WP PT fr lo 200 (4, [some (.ref 162), some (.int 0), some (.int 0), none], [], h, 198, sl) _
  exact hd_ruledL hn hdn hf hl n 0 0 st h none (by omega) rfl h23 h21 hC h25 hS h26 hAs
end RUL
end MG53rulex0
section MG53rulex1
/-! rows that are copied, by hand -/
section CPY
variable {fr lo sl : Nat} {h : pm_H} {Q : pm_Rs → Prop}
theorem mset_aset {f a n : Nat} {v : Value} {g : Nat → Int32} : mset (aset h a n g) f v = (if a = 162 then mset (aset h a n g) f v else aset (mset h f v) a n g) := by
  by_cases e : a = 162
  · rw [if_pos e]
  · rw [if_neg e]
    have e1 : aset h a n g 162 = h 162 := aset_nei (fun q => e q.symm)
    unfold mset
    rw [e1]
    cases h 162 with
    | inl x => rfl
    | inr x =>
      obtain ⟨ci, fs⟩ := x
      dsimp only
      unfold aset
      funext i
      by_cases q : i = 162
      · subst q
        have : ¬ 162 = a := fun z => e z.symm
        simp [va_up, this]
      · by_cases q2 : i = a
        · subst q2; simp [va_up, q]
        · simp [va_up, q, q2]
theorem ix96 (u k : Nat) : (96 : Int32) * nI u + nI k = nI (96 * u + k) := by rw [show (96 : Int32) = nI 96 from rfl, hI_mul, nI_add]
theorem ixp (k : Nat) : nI k + 96 = nI (k + 96) := nI_add k 96
/-- n places from q on are those of f from p on, so far k of them -/
def cpk (f g gk : Nat → Int32) (p q k : Nat) : Prop := (∀ j, j < k → gk (q + j) = f (p + j)) ∧ ∀ j, (j < q ∨ q + k ≤ j) → gk j = g j
theorem cpk_0 (f g : Nat → Int32) (p q : Nat) : cpk f g g p q 0 := ⟨fun j hj => by omega, fun j _ => rfl⟩
theorem cpk_up {f g gk : Nat → Int32} {p q k : Nat} (h : cpk f g gk p q k) : cpk f g (upd gk (q + k) (f (p + k))) p q (k + 1) := by
  refine ⟨fun j hj => ?_, fun j hj => ?_⟩
  · by_cases e : j = k
    · subst e; simp [upd]
    · have : ¬ q + j = q + k := by omega
      simp only [upd, if_neg this]
      exact h.1 j (by omega)
  · have : ¬ j = q + k := by omega
    simp only [upd, if_neg this]
    exact h.2 j (by omega)

theorem cp_copies {f g : Nat → Int32} (h13 : mF h 13 (.ref 171)) (h12 : mF h 12 (.ref 170)) (hN : h 170 = .inl (0, 96, .inl f)) (kk : ∀ gk : Nat → Int32, cpk f g gk (0) (0) 96 → pm_WP PT fr lo 229 (26, [some (.ref 162), some (.int (nI 96))], [], aset h 171 96 gk, 198, sl) Q) : ∀ (m k : Nat) (gk : Nat → Int32), k + m = 96 → cpk f g gk (0) (0) k → pm_WP PT fr lo 229 (2, [some (.ref 162), some (.int (nI k))], [], aset h 171 96 gk, 198, sl) Q := by
  intro m
  induction m with
  | zero =>
    intro k gk hk hc
    obtain rfl : k = 96 := by omega
    refine wp_i rfl rfl rfl rfl ?_
    refine wp_i rfl rfl rfl rfl ?_
    show pm_WP PT fr lo 229 (5, [some (.ref 162), some (.int (nI 96))], [.int 96, .int (nI 96)], (aset h 171 96 gk), 198, sl) _
    refine wp_icmp (c := .ge) (off := 21) (t := 26) rfl rfl (fun _ => ?_) (fun q => absurd (q.symm.trans ((hI_ge (b := 96) (by omega) (by omega)).trans (decide_eq_true (by omega)))) (by decide))
    show pm_WP PT fr lo 229 (26, [some (.ref 162), some (.int (nI 96))], [], (aset h 171 96 gk), 198, sl) _
    exact kk gk hc
  | succ m ih =>
    intro k gk hk hc
    refine wp_i rfl rfl rfl rfl ?_
    refine wp_i rfl rfl rfl rfl ?_
    show pm_WP PT fr lo 229 (5, [some (.ref 162), some (.int (nI k))], [.int 96, .int (nI k)], (aset h 171 96 gk), 198, sl) _
    refine wp_icmp (c := .ge) (off := 21) (t := 26) rfl rfl (fun q => absurd (q.symm.trans ((hI_ge (b := 96) (by omega) (by omega)).trans (decide_eq_false (by omega)))) (by decide)) (fun _ => ?_)
    refine wp_i rfl rfl rfl rfl ?_
    show pm_WP PT fr lo 229 (9, [some (.ref 162), some (.int (nI k))], [.ref 162], (aset h 171 96 gk), 198, sl) _
    refine wp_gfm rfl rfl (mF_as (by decide) h13) ?_
    refine wp_i rfl rfl rfl rfl ?_
    refine wp_i rfl rfl rfl rfl ?_
    show pm_WP PT fr lo 229 (14, [some (.ref 162), some (.int (nI k))], [.ref 162, .int (nI k), .ref 171], (aset h 171 96 gk), 198, sl) _
    refine wp_gfm rfl rfl (mF_as (by decide) h12) ?_
    refine wp_i rfl rfl rfl rfl ?_
    show pm_WP PT fr lo 229 (18, [some (.ref 162), some (.int (nI k))], [.int (nI k), .ref 170, .int (nI k), .ref 171], (aset h 171 96 gk), 198, sl) _
    refine wp_iam rfl (aset_ne (by decide) hN) (hI_in (by omega) (by omega)) (by decide) ?_
    rw [nI_clamp (by omega)]
    show pm_WP PT fr lo 229 (19, [some (.ref 162), some (.int (nI k))], [.int (f k), .int (nI k), .ref 171], (aset h 171 96 gk), 198, sl) _
    refine wp_ism rfl (aset_self _ _ _ _) (hI_in (by omega) (by omega)) (by decide) ?_
    rw [nI_clamp (by omega)]
    have e0 : upd gk k (f k) = upd gk (0 + k) (f (0 + k)) := by rw [Nat.zero_add]
    rw [e0]
    refine wp_i rfl rfl rfl rfl ?_
    refine wp_i rfl rfl rfl rfl ?_
    show pm_WP PT fr lo 229 (2, [some (.ref 162), some (.int (nI k + 1))], [], (aset (aset h 171 96 gk) 171 96 (upd gk (0 + k) (f (0 + k)))), 198, sl) _
    rw [nI_1 k, aset_aset]
    exact ih (k + 1) _ (by omega) (cpk_up hc)
theorem hd_copies {f g : Nat → Int32} (h13 : mF h 13 (.ref 171)) (h12 : mF h 12 (.ref 170)) (hN : h 170 = .inl (0, 96, .inl f)) (hT : h 171 = .inl (0, 96, .inl g)) : pm_WP PT fr lo 229 (0, pm_l0 [.ref 162] 2, [], h, 198, sl) (fun r => ∃ g2 : Nat → Int32, r = (none, aset h 171 96 g2, 198, sl) ∧ ∀ j, j < 96 → g2 j = f j) := by
  refine wp_i rfl rfl rfl rfl ?_
  refine wp_i rfl rfl rfl rfl ?_
  show pm_WP PT fr lo 229 (2, [some (.ref 162), some (.int 0)], [], h, 198, sl) _
  have key := cp_copies (fr := fr) (lo := lo) (sl := sl) (h := h) (g := g) (Q := fun r => ∃ g2 : Nat → Int32, r = (none, aset h 171 96 g2, 198, sl) ∧ ∀ j, j < 96 → g2 j = f j) h13 h12 hN (fun gk hc => wp_vret rfl rfl ⟨gk, rfl, fun j hj => by have := hc.1 j hj; rwa [Nat.zero_add] at this⟩) 96 0 g (by omega) (cpk_0 f g 0 0)
  rw [aset_same hT] at key
  exact key
theorem cp_putsBy {f g : Nat → Int32} {u : Nat} (h28 : mF h 28 (.ref 178)) (h12 : mF h 12 (.ref 170)) (h27 : mF h 27 (.int (nI u))) (hu : u ≤ 15) (hN : h 170 = .inl (0, 96, .inl f)) (kk : ∀ gk : Nat → Int32, cpk f g gk (0) (96 * u) 96 → pm_WP PT fr lo 211 (34, [some (.ref 162), some (.int (nI 96))], [], aset h 178 1536 gk, 198, sl) Q) : ∀ (m k : Nat) (gk : Nat → Int32), k + m = 96 → cpk f g gk (0) (96 * u) k → pm_WP PT fr lo 211 (2, [some (.ref 162), some (.int (nI k))], [], aset h 178 1536 gk, 198, sl) Q := by
  intro m
  induction m with
  | zero =>
    intro k gk hk hc
    obtain rfl : k = 96 := by omega
    refine wp_i rfl rfl rfl rfl ?_
    refine wp_i rfl rfl rfl rfl ?_
    show pm_WP PT fr lo 211 (5, [some (.ref 162), some (.int (nI 96))], [.int 96, .int (nI 96)], (aset h 178 1536 gk), 198, sl) _
    refine wp_icmp (c := .ge) (off := 29) (t := 34) rfl rfl (fun _ => ?_) (fun q => absurd (q.symm.trans ((hI_ge (b := 96) (by omega) (by omega)).trans (decide_eq_true (by omega)))) (by decide))
    show pm_WP PT fr lo 211 (34, [some (.ref 162), some (.int (nI 96))], [], (aset h 178 1536 gk), 198, sl) _
    exact kk gk hc
  | succ m ih =>
    intro k gk hk hc
    refine wp_i rfl rfl rfl rfl ?_
    refine wp_i rfl rfl rfl rfl ?_
    show pm_WP PT fr lo 211 (5, [some (.ref 162), some (.int (nI k))], [.int 96, .int (nI k)], (aset h 178 1536 gk), 198, sl) _
    refine wp_icmp (c := .ge) (off := 29) (t := 34) rfl rfl (fun q => absurd (q.symm.trans ((hI_ge (b := 96) (by omega) (by omega)).trans (decide_eq_false (by omega)))) (by decide)) (fun _ => ?_)
    refine wp_i rfl rfl rfl rfl ?_
    show pm_WP PT fr lo 211 (9, [some (.ref 162), some (.int (nI k))], [.ref 162], (aset h 178 1536 gk), 198, sl) _
    refine wp_gfm rfl rfl (mF_as (by decide) h28) ?_
    refine wp_i rfl rfl rfl rfl ?_
    refine wp_i rfl rfl rfl rfl ?_
    show pm_WP PT fr lo 211 (15, [some (.ref 162), some (.int (nI k))], [.ref 162, .int 96, .ref 178], (aset h 178 1536 gk), 198, sl) _
    refine wp_gfm rfl rfl (mF_as (by decide) h27) ?_
    refine wp_i rfl rfl rfl rfl ?_
    refine wp_i rfl rfl rfl rfl ?_
    refine wp_i rfl rfl rfl rfl ?_
    refine wp_i rfl rfl rfl rfl ?_
    show pm_WP PT fr lo 211 (22, [some (.ref 162), some (.int (nI k))], [.ref 162, .int ((96 * (nI u)) + (nI k)), .ref 178], (aset h 178 1536 gk), 198, sl) _
    refine wp_gfm rfl rfl (mF_as (by decide) h12) ?_
    refine wp_i rfl rfl rfl rfl ?_
    show pm_WP PT fr lo 211 (26, [some (.ref 162), some (.int (nI k))], [.int (nI k), .ref 170, .int ((96 * (nI u)) + (nI k)), .ref 178], (aset h 178 1536 gk), 198, sl) _
    refine wp_iam rfl (aset_ne (by decide) hN) (hI_in (by omega) (by omega)) (by decide) ?_
    rw [nI_clamp (by omega), ix96 u k]
    show pm_WP PT fr lo 211 (27, [some (.ref 162), some (.int (nI k))], [.int (f k), .int (nI (96 * u + k)), .ref 178], (aset h 178 1536 gk), 198, sl) _
    refine wp_ism rfl (aset_self _ _ _ _) (hI_in (by omega) (by omega)) (by decide) ?_
    rw [nI_clamp (by omega)]
    have e0 : upd gk (96 * u + k) (f k) = upd gk (96 * u + k) (f (0 + k)) := by rw [Nat.zero_add]
    rw [e0]
    refine wp_i rfl rfl rfl rfl ?_
    refine wp_i rfl rfl rfl rfl ?_
    show pm_WP PT fr lo 211 (2, [some (.ref 162), some (.int (nI k + 1))], [], (aset (aset h 178 1536 gk) 178 1536 (upd gk (96 * u + k) (f (0 + k)))), 198, sl) _
    rw [nI_1 k, aset_aset]
    exact ih (k + 1) _ (by omega) (cpk_up hc)
theorem hd_putsBy {f g : Nat → Int32} {u : Nat} (h28 : mF h 28 (.ref 178)) (h12 : mF h 12 (.ref 170)) (h27 : mF h 27 (.int (nI u))) (hu : u ≤ 15) (hN : h 170 = .inl (0, 96, .inl f)) (hU : h 178 = .inl (0, 1536, .inl g)) : pm_WP PT fr lo 211 (0, pm_l0 [.ref 162] 2, [], h, 198, sl) (fun r => ∃ g2 : Nat → Int32, r = (none, aset h 178 1536 g2, 198, sl) ∧ cpk f g g2 0 (96 * u) 96) := by
  refine wp_i rfl rfl rfl rfl ?_
  refine wp_i rfl rfl rfl rfl ?_
  show pm_WP PT fr lo 211 (2, [some (.ref 162), some (.int 0)], [], h, 198, sl) _
  have key := cp_putsBy (fr := fr) (lo := lo) (sl := sl) (h := h) (g := g) (Q := fun r => ∃ g2 : Nat → Int32, r = (none, aset h 178 1536 g2, 198, sl) ∧ cpk f g g2 0 (96 * u) 96) h28 h12 h27 hu hN (fun gk hc => wp_vret rfl rfl ⟨gk, rfl, hc⟩) 96 0 g (by omega) (cpk_0 f g 0 (96 * u))
  rw [aset_same hU] at key
  exact key
theorem cp_adds {g : Nat → Int32} {x : Int32} (h28 : mF h 28 (.ref 178)) (kk : ∀ gk : Nat → Int32, cpk g g gk (96) (0) 1440 → pm_WP PT fr lo 212 (49, [some (.ref 162), some (.int x), some (.int (nI 1440))], [], aset h 178 1536 gk, 198, sl) Q) : ∀ (m k : Nat) (gk : Nat → Int32), k + m = 1440 → cpk g g gk (96) (0) k → pm_WP PT fr lo 212 (21, [some (.ref 162), some (.int x), some (.int (nI k))], [], aset h 178 1536 gk, 198, sl) Q := by
  intro m
  induction m with
  | zero =>
    intro k gk hk hc
    obtain rfl : k = 1440 := by omega
    refine wp_i rfl rfl rfl rfl ?_
    refine wp_i rfl rfl rfl rfl ?_
    show pm_WP PT fr lo 212 (25, [some (.ref 162), some (.int x), some (.int (nI 1440))], [.int 1440, .int (nI 1440)], (aset h 178 1536 gk), 198, sl) _
    refine wp_icmp (c := .ge) (off := 24) (t := 49) rfl rfl (fun _ => ?_) (fun q => absurd (q.symm.trans ((hI_ge (b := 1440) (by omega) (by omega)).trans (decide_eq_true (by omega)))) (by decide))
    show pm_WP PT fr lo 212 (49, [some (.ref 162), some (.int x), some (.int (nI 1440))], [], (aset h 178 1536 gk), 198, sl) _
    exact kk gk hc
  | succ m ih =>
    intro k gk hk hc
    refine wp_i rfl rfl rfl rfl ?_
    refine wp_i rfl rfl rfl rfl ?_
    show pm_WP PT fr lo 212 (25, [some (.ref 162), some (.int x), some (.int (nI k))], [.int 1440, .int (nI k)], (aset h 178 1536 gk), 198, sl) _
    refine wp_icmp (c := .ge) (off := 24) (t := 49) rfl rfl (fun q => absurd (q.symm.trans ((hI_ge (b := 1440) (by omega) (by omega)).trans (decide_eq_false (by omega)))) (by decide)) (fun _ => ?_)
    refine wp_i rfl rfl rfl rfl ?_
    show pm_WP PT fr lo 212 (29, [some (.ref 162), some (.int x), some (.int (nI k))], [.ref 162], (aset h 178 1536 gk), 198, sl) _
    refine wp_gfm rfl rfl (mF_as (by decide) h28) ?_
    refine wp_i rfl rfl rfl rfl ?_
    refine wp_i rfl rfl rfl rfl ?_
    show pm_WP PT fr lo 212 (34, [some (.ref 162), some (.int x), some (.int (nI k))], [.ref 162, .int (nI k), .ref 178], (aset h 178 1536 gk), 198, sl) _
    refine wp_gfm rfl rfl (mF_as (by decide) h28) ?_
    refine wp_i rfl rfl rfl rfl ?_
    refine wp_i rfl rfl rfl rfl ?_
    refine wp_i rfl rfl rfl rfl ?_
    show pm_WP PT fr lo 212 (41, [some (.ref 162), some (.int x), some (.int (nI k))], [.int ((nI k) + 96), .ref 178, .int (nI k), .ref 178], (aset h 178 1536 gk), 198, sl) _
    rw [ixp k]
    show pm_WP PT fr lo 212 (41, [some (.ref 162), some (.int x), some (.int (nI k))], [.int (nI (k + 96)), .ref 178, .int (nI k), .ref 178], (aset h 178 1536 gk), 198, sl) _
    refine wp_iam rfl (aset_self _ _ _ _) (hI_in (by omega) (by omega)) (by decide) ?_
    rw [nI_clamp (by omega), hc.2 (k + 96) (by omega)]
    show pm_WP PT fr lo 212 (42, [some (.ref 162), some (.int x), some (.int (nI k))], [.int (g (k + 96)), .int (nI k), .ref 178], (aset h 178 1536 gk), 198, sl) _
    refine wp_ism rfl (aset_self _ _ _ _) (hI_in (by omega) (by omega)) (by decide) ?_
    rw [nI_clamp (by omega)]
    have e0 : upd gk k (g (k + 96)) = upd gk (0 + k) (g (96 + k)) := by rw [Nat.zero_add, Nat.add_comm]
    rw [e0]
    refine wp_i rfl rfl rfl rfl ?_
    refine wp_i rfl rfl rfl rfl ?_
    show pm_WP PT fr lo 212 (21, [some (.ref 162), some (.int x), some (.int (nI k + 1))], [], (aset (aset h 178 1536 gk) 178 1536 (upd gk (0 + k) (g (96 + k)))), 198, sl) _
    rw [nI_1 k, aset_aset]
    exact ih (k + 1) _ (by omega) (cpk_up hc)
theorem hd_adds {g : Nat → Int32} {u : Nat} (x : Int32) (h28 : mF h 28 (.ref 178)) (h27 : mF h 27 (.int (nI u))) (hu : u ≤ 15) (hU : h 178 = .inl (0, 1536, .inl g)) : pm_WP PT fr lo 212 (0, pm_l0 [.ref 162, .int x] 3, [], h, 198, sl) (fun r => ∃ (g2 : Nat → Int32) (u2 : Nat), r = (some (.int x), aset (mset h 27 (.int (nI u2))) 178 1536 g2, 198, sl) ∧ 1 ≤ u2 ∧ u2 ≤ 15 ∧ ((u < 15 ∧ u2 = u + 1 ∧ g2 = g) ∨ (u = 15 ∧ u2 = 15 ∧ cpk g g g2 96 0 1440))) := by
  refine wp_i rfl rfl rfl rfl ?_
  refine wp_i rfl rfl rfl rfl ?_
  show pm_WP PT fr lo 212 (2, [some (.ref 162), some (.int x), none], [.ref 162, .ref 162], h, 198, sl) _
  refine wp_gfm rfl rfl h27 ?_
  refine wp_i rfl rfl rfl rfl ?_
  refine wp_i rfl rfl rfl rfl ?_
  show pm_WP PT fr lo 212 (7, [some (.ref 162), some (.int x), none], [.int (nI u + 1), .ref 162], h, 198, sl) _
  rw [nI_1 u]
  show pm_WP PT fr lo 212 (7, [some (.ref 162), some (.int x), none], [.int (nI (u + 1)), .ref 162], h, 198, sl) _
  refine wp_pfm rfl rfl rfl (by decide) h27 ?_
  refine wp_i rfl rfl rfl rfl ?_
  show pm_WP PT fr lo 212 (11, [some (.ref 162), some (.int x), none], [.ref 162], (mset h 27 (.int (nI (u + 1)))), 198, sl) _
  refine wp_gfm rfl rfl (mF_self h27) ?_
  refine wp_i rfl rfl rfl rfl ?_
  show pm_WP PT fr lo 212 (16, [some (.ref 162), some (.int x), none], [.int 15, .int (nI (u + 1))], (mset h 27 (.int (nI (u + 1)))), 198, sl) _
  refine wp_icmp (c := .le) (off := 43) (t := 59) rfl rfl (fun q => ?_) (fun q => ?_)
  · have q : u + 1 ≤ 15 := of_decide_eq_true ((hI_le (b := 15) (by omega) (by omega)).symm.trans q)
    refine wp_i rfl rfl rfl rfl ?_
    show pm_WP PT fr lo 212 (60, [some (.ref 162), some (.int x), none], [.int x], (mset h 27 (.int (nI (u + 1)))), 198, sl) _
    refine wp_iret rfl rfl ⟨g, u + 1, ?_, by omega, by omega, Or.inl ⟨by omega, rfl, rfl⟩⟩
    rw [aset_same (mset_arr (by decide) hU)]
  · have q : ¬ u + 1 ≤ 15 := of_decide_eq_false ((hI_le (b := 15) (by omega) (by omega)).symm.trans q)
    refine wp_i rfl rfl rfl rfl ?_
    refine wp_i rfl rfl rfl rfl ?_
    show pm_WP PT fr lo 212 (21, [some (.ref 162), some (.int x), some (.int 0)], [], (mset h 27 (.int (nI (u + 1)))), 198, sl) _
    have e9 := aset_same (mset_arr (f := 27) (v := .int (nI (u + 1))) (by decide) hU)
    rw [← e9]
    refine cp_adds (g := g) (x := x) (mF_ne (by decide) h28) (fun gk hc => ?_) 1440 0 g (by omega) (cpk_0 g g 96 0)
    refine wp_i rfl rfl rfl rfl ?_
    refine wp_i rfl rfl rfl rfl ?_
    show pm_WP PT fr lo 212 (51, [some (.ref 162), some (.int x), some (.int (nI 1440))], [.ref 162, .ref 162], (aset (mset h 27 (.int (nI (u + 1)))) 178 1536 gk), 198, sl) _
    refine wp_gfm rfl rfl (mF_as (by decide) (mF_self h27)) ?_
    refine wp_i rfl rfl rfl rfl ?_
    refine wp_i rfl rfl rfl rfl ?_
    show pm_WP PT fr lo 212 (56, [some (.ref 162), some (.int x), some (.int (nI 1440))], [.int (nI (u + 1) - 1), .ref 162], (aset (mset h 27 (.int (nI (u + 1)))) 178 1536 gk), 198, sl) _
    rw [nI_pred u]
    show pm_WP PT fr lo 212 (56, [some (.ref 162), some (.int x), some (.int (nI 1440))], [.int (nI u), .ref 162], (aset (mset h 27 (.int (nI (u + 1)))) 178 1536 gk), 198, sl) _
    refine wp_pfm rfl rfl rfl (by decide) (mF_as (by decide) (mF_self h27)) ?_
    refine wp_i rfl rfl rfl rfl ?_
    show pm_WP PT fr lo 212 (60, [some (.ref 162), some (.int x), some (.int (nI 1440))], [.int x], (mset (aset (mset h 27 (.int (nI (u + 1)))) 178 1536 gk) 27 (.int (nI u))), 198, sl) _
    refine wp_iret rfl rfl ⟨gk, u, ?_, by omega, by omega, Or.inr ⟨by omega, by omega, hc⟩⟩
    rw [mset_aset, if_neg (by decide), mset_mset]
theorem cp_undo {f g : Nat → Int32} {u : Nat} (h12 : mF h 12 (.ref 170)) (h28 : mF h 28 (.ref 178)) (h27 : mF h 27 (.int (nI u))) (hu : u ≤ 15) (hU : h 178 = .inl (0, 1536, .inl f)) (kk : ∀ gk : Nat → Int32, cpk f g gk (96 * u) (0) 96 → pm_WP PT fr lo 214 (58, [some (.ref 162), some (.int (nI 96))], [], aset h 170 96 gk, 198, sl) Q) : ∀ (m k : Nat) (gk : Nat → Int32), k + m = 96 → cpk f g gk (96 * u) (0) k → pm_WP PT fr lo 214 (26, [some (.ref 162), some (.int (nI k))], [], aset h 170 96 gk, 198, sl) Q := by
  intro m
  induction m with
  | zero =>
    intro k gk hk hc
    obtain rfl : k = 96 := by omega
    refine wp_i rfl rfl rfl rfl ?_
    refine wp_i rfl rfl rfl rfl ?_
    show pm_WP PT fr lo 214 (29, [some (.ref 162), some (.int (nI 96))], [.int 96, .int (nI 96)], (aset h 170 96 gk), 198, sl) _
    refine wp_icmp (c := .ge) (off := 29) (t := 58) rfl rfl (fun _ => ?_) (fun q => absurd (q.symm.trans ((hI_ge (b := 96) (by omega) (by omega)).trans (decide_eq_true (by omega)))) (by decide))
    show pm_WP PT fr lo 214 (58, [some (.ref 162), some (.int (nI 96))], [], (aset h 170 96 gk), 198, sl) _
    exact kk gk hc
  | succ m ih =>
    intro k gk hk hc
    refine wp_i rfl rfl rfl rfl ?_
    refine wp_i rfl rfl rfl rfl ?_
    show pm_WP PT fr lo 214 (29, [some (.ref 162), some (.int (nI k))], [.int 96, .int (nI k)], (aset h 170 96 gk), 198, sl) _
    refine wp_icmp (c := .ge) (off := 29) (t := 58) rfl rfl (fun q => absurd (q.symm.trans ((hI_ge (b := 96) (by omega) (by omega)).trans (decide_eq_false (by omega)))) (by decide)) (fun _ => ?_)
    refine wp_i rfl rfl rfl rfl ?_
    show pm_WP PT fr lo 214 (33, [some (.ref 162), some (.int (nI k))], [.ref 162], (aset h 170 96 gk), 198, sl) _
    refine wp_gfm rfl rfl (mF_as (by decide) h12) ?_
    refine wp_i rfl rfl rfl rfl ?_
    refine wp_i rfl rfl rfl rfl ?_
    show pm_WP PT fr lo 214 (38, [some (.ref 162), some (.int (nI k))], [.ref 162, .int (nI k), .ref 170], (aset h 170 96 gk), 198, sl) _
    refine wp_gfm rfl rfl (mF_as (by decide) h28) ?_
    refine wp_i rfl rfl rfl rfl ?_
    refine wp_i rfl rfl rfl rfl ?_
    show pm_WP PT fr lo 214 (44, [some (.ref 162), some (.int (nI k))], [.ref 162, .int 96, .ref 178, .int (nI k), .ref 170], (aset h 170 96 gk), 198, sl) _
    refine wp_gfm rfl rfl (mF_as (by decide) h27) ?_
    refine wp_i rfl rfl rfl rfl ?_
    refine wp_i rfl rfl rfl rfl ?_
    refine wp_i rfl rfl rfl rfl ?_
    show pm_WP PT fr lo 214 (50, [some (.ref 162), some (.int (nI k))], [.int ((96 * (nI u)) + (nI k)), .ref 178, .int (nI k), .ref 170], (aset h 170 96 gk), 198, sl) _
    rw [ix96 u k]
    show pm_WP PT fr lo 214 (50, [some (.ref 162), some (.int (nI k))], [.int (nI (96 * u + k)), .ref 178, .int (nI k), .ref 170], (aset h 170 96 gk), 198, sl) _
    refine wp_iam rfl (aset_ne (by decide) hU) (hI_in (by omega) (by omega)) (by decide) ?_
    rw [nI_clamp (by omega)]
    show pm_WP PT fr lo 214 (51, [some (.ref 162), some (.int (nI k))], [.int (f (96 * u + k)), .int (nI k), .ref 170], (aset h 170 96 gk), 198, sl) _
    refine wp_ism rfl (aset_self _ _ _ _) (hI_in (by omega) (by omega)) (by decide) ?_
    rw [nI_clamp (by omega)]
    have e0 : upd gk k (f (96 * u + k)) = upd gk (0 + k) (f (96 * u + k)) := by rw [Nat.zero_add]
    rw [e0]
    refine wp_i rfl rfl rfl rfl ?_
    refine wp_i rfl rfl rfl rfl ?_
    show pm_WP PT fr lo 214 (26, [some (.ref 162), some (.int (nI k + 1))], [], (aset (aset h 170 96 gk) 170 96 (upd gk (0 + k) (f (96 * u + k)))), 198, sl) _
    rw [nI_1 k, aset_aset]
    exact ih (k + 1) _ (by omega) (cpk_up hc)
theorem hd_undo {f g : Nat → Int32} {u : Nat} {x0 : Value} (h0 : mF h 0 x0) (h12 : mF h 12 (.ref 170)) (h28 : mF h 28 (.ref 178)) (h27 : mF h 27 (.int (nI u))) (hu : u ≤ 15) (hU : h 178 = .inl (0, 1536, .inl f)) (hN : h 170 = .inl (0, 96, .inl g)) : pm_WP PT fr lo 214 (0, pm_l0 [.ref 162] 2, [], h, 198, sl) (fun r => (u = 0 ∧ r = (some (.int (-1)), mset h 0 (.int 0), 198, sl)) ∨ ∃ (v : Nat) (g2 : Nat → Int32), u = v + 1 ∧ r = (some (.int (nI v)), aset (mset (mset h 0 (.int 0)) 27 (.int (nI v))) 170 96 g2, 198, sl) ∧ ∀ j, j < 96 → g2 j = f (96 * v + j)) := by
  refine wp_i rfl rfl rfl rfl ?_
  refine wp_i rfl rfl rfl rfl ?_
  show pm_WP PT fr lo 214 (2, [some (.ref 162), none], [.int 0, .ref 162], h, 198, sl) _
  refine wp_pfm rfl rfl rfl (by decide) h0 ?_
  refine wp_i rfl rfl rfl rfl ?_
  show pm_WP PT fr lo 214 (6, [some (.ref 162), none], [.ref 162], (mset h 0 (.int 0)), 198, sl) _
  refine wp_gfm rfl rfl (mF_ne (by decide) h27) ?_
  show pm_WP PT fr lo 214 (9, [some (.ref 162), none], [.int (nI u)], (mset h 0 (.int 0)), 198, sl) _
  refine wp_if (c := .ne) (off := 5) (t := 14) rfl rfl (fun q => ?_) (fun q => ?_)
  · have q : ¬ u = 0 := of_decide_eq_true ((hI_ne (b := 0) (by omega) (by omega)).symm.trans q)
    obtain ⟨v, rfl⟩ : ∃ v, u = v + 1 := ⟨u - 1, by omega⟩
    refine wp_i rfl rfl rfl rfl ?_
    refine wp_i rfl rfl rfl rfl ?_
    show pm_WP PT fr lo 214 (16, [some (.ref 162), none], [.ref 162, .ref 162], (mset h 0 (.int 0)), 198, sl) _
    refine wp_gfm rfl rfl (mF_ne (by decide) h27) ?_
    refine wp_i rfl rfl rfl rfl ?_
    refine wp_i rfl rfl rfl rfl ?_
    show pm_WP PT fr lo 214 (21, [some (.ref 162), none], [.int (nI (v + 1) - 1), .ref 162], (mset h 0 (.int 0)), 198, sl) _
    rw [nI_pred v]
    show pm_WP PT fr lo 214 (21, [some (.ref 162), none], [.int (nI v), .ref 162], (mset h 0 (.int 0)), 198, sl) _
    refine wp_pfm rfl rfl rfl (by decide) (mF_ne (by decide) h27) ?_
    refine wp_i rfl rfl rfl rfl ?_
    refine wp_i rfl rfl rfl rfl ?_
    show pm_WP PT fr lo 214 (26, [some (.ref 162), some (.int 0)], [], (mset (mset h 0 (.int 0)) 27 (.int (nI v))), 198, sl) _
    have e9 := aset_same (mset_arr (f := 27) (v := .int (nI v)) (by decide) (mset_arr (f := 0) (v := .int 0) (by decide) hN))
    rw [← e9]
    refine cp_undo (f := f) (g := g) (u := v) (mF_ne (by decide) (mF_ne (by decide) h12)) (mF_ne (by decide) (mF_ne (by decide) h28)) (mF_self (mF_ne (by decide) h27)) (by omega) (mset_arr (by decide) (mset_arr (by decide) hU)) (fun gk hc => ?_) 96 0 g (by omega) (cpk_0 f g (96 * v) 0)
    refine wp_i rfl rfl rfl rfl ?_
    show pm_WP PT fr lo 214 (59, [some (.ref 162), some (.int (nI 96))], [.ref 162], (aset (mset (mset h 0 (.int 0)) 27 (.int (nI v))) 170 96 gk), 198, sl) _
    refine wp_gfm rfl rfl (mF_as (by decide) (mF_self (mF_ne (by decide) h27))) ?_
    show pm_WP PT fr lo 214 (62, [some (.ref 162), some (.int (nI 96))], [.int (nI v)], (aset (mset (mset h 0 (.int 0)) 27 (.int (nI v))) 170 96 gk), 198, sl) _
    exact wp_iret rfl rfl (Or.inr ⟨v, gk, rfl, rfl, fun j hj => by have := hc.1 j hj; rwa [Nat.zero_add] at this⟩)
  · have q : u = 0 := Decidable.not_not.mp (of_decide_eq_false ((hI_ne (b := 0) (by omega) (by omega)).symm.trans q))
    refine wp_i rfl rfl rfl rfl ?_
    show pm_WP PT fr lo 214 (13, [some (.ref 162), none], [.int (-1)], (mset h 0 (.int 0)), 198, sl) _
    exact wp_iret rfl rfl (Or.inl ⟨q, rfl⟩)
end CPY
end MG53rulex1
end MH47cx09x6
section MH47cx09x7
section MG55keepx0
/-! keep and again, by hand -/
section KEP
variable {fr lo sl : Nat} {h : pm_H} {Q : pm_Rs → Prop}
/-- an array of booleans -/
def zset (h : pm_H) (a n : Nat) (f : Nat → Int32) : pm_H := va_up h a (.inl (3, n, .inl f))
theorem zset_nei {a b n : Nat} {f : Nat → Int32} (hn : b ≠ a) : zset h a n f b = h b := by simp [zset, va_up, hn]
theorem zset_self (h : pm_H) (a n : Nat) (f : Nat → Int32) : zset h a n f a = .inl (3, n, .inl f) := by simp [zset, va_up]
theorem mF_zs {a n g : Nat} {f : Nat → Int32} {w : Value} (hn : 162 ≠ a) (q : mF h g w) : mF (zset h a n f) g w := by
  obtain ⟨fs, e, e1⟩ := q
  exact ⟨fs, by rw [zset_nei hn]; exact e, e1⟩
theorem pm_iar_z {a n : Nat} {f : Nat → Int32} (ha : h a = .inl (3, n, .inl f)) (hl : a < 198) : pm_iar PT .boolean h 198 a = some (3, n, f) := by
  unfold pm_iar
  rw [if_pos hl, ha]
  exact if_pos rfl
theorem wp_zam {k pc : Nat} {L : pm_L} {r : List Value} {a n : Nat} {i : Int32} {f : Nat → Int32} (hi : pm_ins PT k pc = some (.baload, 1)) (ha : h a = .inl (3, n, .inl f)) (hin : pm_in i n = true) (hl : a < 198) (kk : pm_WP PT fr lo k (pc + 1, L, .int (f i.toNatClampNeg) :: r, h, 198, sl) Q) : pm_WP PT fr lo k (pc, L, .int i :: .ref a :: r, h, 198, sl) Q := by
  refine wp_i hi rfl rfl ?_ kk
  show pm_ia PT .boolean pc L (.int i :: .ref a :: r) h 198 sl = _
  unfold pm_ia
  dsimp only
  rw [pm_iar_z ha hl]
  dsimp only
  rw [if_pos hin]
theorem wp_zsm {k pc : Nat} {L : pm_L} {r : List Value} {a n : Nat} {i x : Int32} {f : Nat → Int32} (hi : pm_ins PT k pc = some (.bastore, 1)) (ha : h a = .inl (3, n, .inl f)) (hin : pm_in i n = true) (hl : a < 198) (kk : pm_WP PT fr lo k (pc + 1, L, r, zset h a n (upd f i.toNatClampNeg (vp_nar .boolean x)), 198, sl) Q) : pm_WP PT fr lo k (pc, L, .int x :: .int i :: .ref a :: r, h, 198, sl) Q := by
  refine wp_i hi rfl rfl ?_ kk
  show pm_iS PT .boolean (fun x => vp_nar .boolean x) pc L (.int x :: .int i :: .ref a :: r) h 198 sl = _
  unfold pm_iS
  dsimp only
  rw [pm_iar_z ha hl]
  dsimp only
  rw [if_pos hin]
  rfl
theorem in3 (i : Int32) : in_b i.toInt64 0 2 = true → ∃ j, j < 3 ∧ i = nI j := by
  intro q
  unfold in_b at q
  rw [Bool.and_eq_true] at q
  have e1 : ¬ i.toInt64 < 0 := by simpa using q.1
  have e2 : ¬ (2 : Int64) < i.toInt64 := by simpa using q.2
  rw [Int64.lt_iff_toInt_lt, Int32.toInt_toInt64] at e1 e2
  have n1 : (0 : Int64).toInt = 0 := by decide
  have n2 : (2 : Int64).toInt = 2 := by decide
  rw [n1] at e1
  rw [n2] at e2
  obtain ⟨j, rfl, hj, ej⟩ := hI_of (show 0 ≤ i.toInt by omega)
  exact ⟨j, by omega, rfl⟩
theorem cp_keep {f g : Nat → Int32} {i : Nat} (hi : i < 3) (h54 : mF h 54 (.ref 196)) (h12 : mF h 12 (.ref 170)) (hN : h 170 = .inl (0, 96, .inl f)) (kk : ∀ gk : Nat → Int32, cpk f g gk (0) (96 * i) 96 → pm_WP PT fr lo 264 (67, [some (.ref 162), some (.int (nI i)), some (.int (nI 96))], [], aset h 196 288 gk, 198, sl) Q) : ∀ (m k : Nat) (gk : Nat → Int32), k + m = 96 → cpk f g gk (0) (96 * i) k → pm_WP PT fr lo 264 (38, [some (.ref 162), some (.int (nI i)), some (.int (nI k))], [], aset h 196 288 gk, 198, sl) Q := by
  intro m
  induction m with
  | zero =>
    intro k gk hk hc
    obtain rfl : k = 96 := by omega
    refine wp_i rfl rfl rfl rfl ?_
    refine wp_i rfl rfl rfl rfl ?_
    show pm_WP PT fr lo 264 (41, [some (.ref 162), some (.int (nI i)), some (.int (nI 96))], [.int 96, .int (nI 96)], (aset h 196 288 gk), 198, sl) _
    refine wp_icmp (c := .ge) (off := 26) (t := 67) rfl rfl (fun _ => ?_) (fun q => absurd (q.symm.trans ((hI_ge (b := 96) (by omega) (by omega)).trans (decide_eq_true (by omega)))) (by decide))
    show pm_WP PT fr lo 264 (67, [some (.ref 162), some (.int (nI i)), some (.int (nI 96))], [], (aset h 196 288 gk), 198, sl) _
    exact kk gk hc
  | succ m ih =>
    intro k gk hk hc
    refine wp_i rfl rfl rfl rfl ?_
    refine wp_i rfl rfl rfl rfl ?_
    show pm_WP PT fr lo 264 (41, [some (.ref 162), some (.int (nI i)), some (.int (nI k))], [.int 96, .int (nI k)], (aset h 196 288 gk), 198, sl) _
    refine wp_icmp (c := .ge) (off := 26) (t := 67) rfl rfl (fun q => absurd (q.symm.trans ((hI_ge (b := 96) (by omega) (by omega)).trans (decide_eq_false (by omega)))) (by decide)) (fun _ => ?_)
    refine wp_i rfl rfl rfl rfl ?_
    show pm_WP PT fr lo 264 (45, [some (.ref 162), some (.int (nI i)), some (.int (nI k))], [.ref 162], (aset h 196 288 gk), 198, sl) _
    refine wp_gfm rfl rfl (mF_as (by decide) h54) ?_
    refine wp_i rfl rfl rfl rfl ?_
    refine wp_i rfl rfl rfl rfl ?_
    refine wp_i rfl rfl rfl rfl ?_
    refine wp_i rfl rfl rfl rfl ?_
    refine wp_i rfl rfl rfl rfl ?_
    refine wp_i rfl rfl rfl rfl ?_
    show pm_WP PT fr lo 264 (55, [some (.ref 162), some (.int (nI i)), some (.int (nI k))], [.ref 162, .int ((96 * (nI i)) + (nI k)), .ref 196], (aset h 196 288 gk), 198, sl) _
    refine wp_gfm rfl rfl (mF_as (by decide) h12) ?_
    refine wp_i rfl rfl rfl rfl ?_
    show pm_WP PT fr lo 264 (59, [some (.ref 162), some (.int (nI i)), some (.int (nI k))], [.int (nI k), .ref 170, .int ((96 * (nI i)) + (nI k)), .ref 196], (aset h 196 288 gk), 198, sl) _
    refine wp_iam rfl (aset_ne (by decide) hN) (hI_in (by omega) (by omega)) (by decide) ?_
    rw [nI_clamp (by omega), ix96 i k]
    show pm_WP PT fr lo 264 (60, [some (.ref 162), some (.int (nI i)), some (.int (nI k))], [.int (f k), .int (nI (96 * i + k)), .ref 196], (aset h 196 288 gk), 198, sl) _
    refine wp_ism rfl (aset_self _ _ _ _) (hI_in (by omega) (by omega)) (by decide) ?_
    rw [nI_clamp (by omega)]
    have e0 : upd gk (96 * i + k) (f k) = upd gk (96 * i + k) (f (0 + k)) := by rw [Nat.zero_add]
    rw [e0]
    refine wp_i rfl rfl rfl rfl ?_
    refine wp_i rfl rfl rfl rfl ?_
    show pm_WP PT fr lo 264 (38, [some (.ref 162), some (.int (nI i)), some (.int (nI k + 1))], [], (aset (aset h 196 288 gk) 196 288 (upd gk (96 * i + k) (f (0 + k)))), 198, sl) _
    rw [nI_1 k, aset_aset]
    exact ih (k + 1) _ (by omega) (cpk_up hc)
theorem hd_keep {f g b c : Nat → Int32} {ch : Int32} {x0 : Value} (v : Int32) (h0 : mF h 0 x0) (h5 : mF h 5 (.int ch)) (h52 : mF h 52 (.ref 194)) (h53 : mF h 53 (.ref 195)) (h54 : mF h 54 (.ref 196)) (h12 : mF h 12 (.ref 170)) (hN : h 170 = .inl (0, 96, .inl f)) (hK : h 196 = .inl (0, 288, .inl g)) (hB : h 194 = .inl (3, 3, .inl b)) (hCh : h 195 = .inl (0, 3, .inl c)) (hf : 1 ≤ fr) (hl : 30 ≤ lo) : pm_WP PT fr lo 264 (0, pm_l0 [.ref 162, .int v] 3, [], h, 198, sl) (fun r => (in_b v.toInt64 0 2 = false ∧ r = (some (.int 0), mset h 0 (.int 0), 198, sl)) ∨ ∃ (i : Nat) (g2 : Nat → Int32), i < 3 ∧ v = nI i ∧ r = (some (.int 1), aset (aset (zset (mset h 0 (.int 0)) 194 3 (upd b i 1)) 195 3 (upd c i ch)) 196 288 g2, 198, sl) ∧ cpk f g g2 0 (96 * i) 96) := by
  refine wp_i rfl rfl rfl rfl ?_
  refine wp_i rfl rfl rfl rfl ?_
  show pm_WP PT fr lo 264 (2, [some (.ref 162), some (.int v), none], [.int 0, .ref 162], h, 198, sl) _
  refine wp_pfm rfl rfl rfl (by decide) h0 ?_
  refine wp_i rfl rfl rfl rfl ?_
  refine wp_i rfl rfl rfl rfl ?_
  refine wp_i rfl rfl rfl rfl ?_
  refine wp_i rfl rfl rfl rfl ?_
  show pm_WP PT fr lo 264 (11, [some (.ref 162), some (.int v), none], [.long 2, .long 0, .long (v).toInt64], (mset h 0 (.int 0)), 198, sl) _
  refine wp_callS (t := 163) (As := [.long (v).toInt64, .long 0, .long 2]) (rest := []) (mx := 6) rfl rfl rfl rfl (Nat.le_of_ble_eq_true rfl) (Nat.le_of_ble_eq_true rfl) (by omega) (by omega) (wp_mono (hd_in v.toInt64 0 2) ?_)
  rintro _ rfl
  cases hin : in_b v.toInt64 0 2 with
  | false =>
    refine wp_i rfl rfl rfl rfl ?_
    refine wp_i rfl rfl rfl rfl ?_
    show pm_WP PT fr lo 264 (18, [some (.ref 162), some (.int v), none], [.int 0], (mset h 0 (.int 0)), 198, sl) _
    exact wp_zret rfl rfl (by decide) (Or.inl ⟨rfl, rfl⟩)
  | true =>
    obtain ⟨i, hi, rfl⟩ := in3 v hin
    refine wp_i rfl rfl rfl rfl ?_
    refine wp_i rfl rfl rfl rfl ?_
    show pm_WP PT fr lo 264 (20, [some (.ref 162), some (.int (nI i)), none], [.ref 162], (mset h 0 (.int 0)), 198, sl) _
    refine wp_gfm rfl rfl (mF_ne (by decide) h52) ?_
    refine wp_i rfl rfl rfl rfl ?_
    refine wp_i rfl rfl rfl rfl ?_
    show pm_WP PT fr lo 264 (25, [some (.ref 162), some (.int (nI i)), none], [.int 1, .int (nI i), .ref 194], (mset h 0 (.int 0)), 198, sl) _
    refine wp_zsm rfl (by rw [mset_ne (by decide)]; exact hB) (hI_in hi (by decide)) (by decide) ?_
    rw [nI_clamp (by omega), show vp_nar .boolean 1 = (1 : Int32) from rfl]
    have z5 : mF (zset (mset h 0 (.int 0)) 194 3 (upd b i 1)) 5 (.int ch) := mF_zs (by decide) (mF_ne (by decide) h5)
    have z53 : mF (zset (mset h 0 (.int 0)) 194 3 (upd b i 1)) 53 (.ref 195) := mF_zs (by decide) (mF_ne (by decide) h53)
    have z54 : mF (zset (mset h 0 (.int 0)) 194 3 (upd b i 1)) 54 (.ref 196) := mF_zs (by decide) (mF_ne (by decide) h54)
    have z12 : mF (zset (mset h 0 (.int 0)) 194 3 (upd b i 1)) 12 (.ref 170) := mF_zs (by decide) (mF_ne (by decide) h12)
    have zN : (zset (mset h 0 (.int 0)) 194 3 (upd b i 1)) 170 = .inl (0, 96, .inl f) := by rw [zset_nei (by decide), mset_ne (by decide)]; exact hN
    have zK : (zset (mset h 0 (.int 0)) 194 3 (upd b i 1)) 196 = .inl (0, 288, .inl g) := by rw [zset_nei (by decide), mset_ne (by decide)]; exact hK
    have zC : (zset (mset h 0 (.int 0)) 194 3 (upd b i 1)) 195 = .inl (0, 3, .inl c) := by rw [zset_nei (by decide), mset_ne (by decide)]; exact hCh
    generalize hz : (zset (mset h 0 (.int 0)) 194 3 (upd b i 1)) = hh at z5 z53 z54 z12 zN zK zC
    show pm_WP PT fr lo 264 (26, [some (.ref 162), some (.int (nI i)), none], [], hh, 198, sl) _
    refine wp_i rfl rfl rfl rfl ?_
    show pm_WP PT fr lo 264 (27, [some (.ref 162), some (.int (nI i)), none], [.ref 162], hh, 198, sl) _
    refine wp_gfm rfl rfl z53 ?_
    refine wp_i rfl rfl rfl rfl ?_
    refine wp_i rfl rfl rfl rfl ?_
    show pm_WP PT fr lo 264 (32, [some (.ref 162), some (.int (nI i)), none], [.ref 162, .int (nI i), .ref 195], hh, 198, sl) _
    refine wp_gfm rfl rfl z5 ?_
    show pm_WP PT fr lo 264 (35, [some (.ref 162), some (.int (nI i)), none], [.int ch, .int (nI i), .ref 195], hh, 198, sl) _
    refine wp_ism rfl zC (hI_in hi (by decide)) (by decide) ?_
    rw [nI_clamp (by omega)]
    refine wp_i rfl rfl rfl rfl ?_
    refine wp_i rfl rfl rfl rfl ?_
    show pm_WP PT fr lo 264 (38, [some (.ref 162), some (.int (nI i)), some (.int 0)], [], (aset hh 195 3 (upd c i ch)), 198, sl) _
    have e9 := aset_same (aset_ne (a := 195) (n := 3) (f := upd c i ch) (by decide) zK)
    rw [← e9]
    refine cp_keep (f := f) (g := g) hi (mF_as (by decide) z54) (mF_as (by decide) z12) (aset_ne (by decide) zN) (fun gk hc => ?_) 96 0 g (by omega) (cpk_0 f g 0 (96 * i))
    refine wp_i rfl rfl rfl rfl ?_
    show pm_WP PT fr lo 264 (68, [some (.ref 162), some (.int (nI i)), some (.int (nI 96))], [.int 1], (aset (aset hh 195 3 (upd c i ch)) 196 288 gk), 198, sl) _
    exact wp_zret rfl rfl (by decide) (Or.inr ⟨i, gk, hi, rfl, by rw [hz], hc⟩)
theorem cp_again {f g : Nat → Int32} {i : Nat} (hi : i < 3) (h54 : mF h 54 (.ref 196)) (h12 : mF h 12 (.ref 170)) (hK : h 196 = .inl (0, 288, .inl f)) (kk : ∀ gk : Nat → Int32, cpk f g gk (96 * i) (0) 96 → pm_WP PT fr lo 265 (72, [some (.ref 162), some (.int (nI i)), some (.int (nI 96))], [], aset h 170 96 gk, 198, sl) Q) : ∀ (m k : Nat) (gk : Nat → Int32), k + m = 96 → cpk f g gk (96 * i) (0) k → pm_WP PT fr lo 265 (43, [some (.ref 162), some (.int (nI i)), some (.int (nI k))], [], aset h 170 96 gk, 198, sl) Q := by
  intro m
  induction m with
  | zero =>
    intro k gk hk hc
    obtain rfl : k = 96 := by omega
    refine wp_i rfl rfl rfl rfl ?_
    refine wp_i rfl rfl rfl rfl ?_
    show pm_WP PT fr lo 265 (46, [some (.ref 162), some (.int (nI i)), some (.int (nI 96))], [.int 96, .int (nI 96)], (aset h 170 96 gk), 198, sl) _
    refine wp_icmp (c := .ge) (off := 26) (t := 72) rfl rfl (fun _ => ?_) (fun q => absurd (q.symm.trans ((hI_ge (b := 96) (by omega) (by omega)).trans (decide_eq_true (by omega)))) (by decide))
    show pm_WP PT fr lo 265 (72, [some (.ref 162), some (.int (nI i)), some (.int (nI 96))], [], (aset h 170 96 gk), 198, sl) _
    exact kk gk hc
  | succ m ih =>
    intro k gk hk hc
    refine wp_i rfl rfl rfl rfl ?_
    refine wp_i rfl rfl rfl rfl ?_
    show pm_WP PT fr lo 265 (46, [some (.ref 162), some (.int (nI i)), some (.int (nI k))], [.int 96, .int (nI k)], (aset h 170 96 gk), 198, sl) _
    refine wp_icmp (c := .ge) (off := 26) (t := 72) rfl rfl (fun q => absurd (q.symm.trans ((hI_ge (b := 96) (by omega) (by omega)).trans (decide_eq_false (by omega)))) (by decide)) (fun _ => ?_)
    refine wp_i rfl rfl rfl rfl ?_
    show pm_WP PT fr lo 265 (50, [some (.ref 162), some (.int (nI i)), some (.int (nI k))], [.ref 162], (aset h 170 96 gk), 198, sl) _
    refine wp_gfm rfl rfl (mF_as (by decide) h12) ?_
    refine wp_i rfl rfl rfl rfl ?_
    refine wp_i rfl rfl rfl rfl ?_
    show pm_WP PT fr lo 265 (55, [some (.ref 162), some (.int (nI i)), some (.int (nI k))], [.ref 162, .int (nI k), .ref 170], (aset h 170 96 gk), 198, sl) _
    refine wp_gfm rfl rfl (mF_as (by decide) h54) ?_
    refine wp_i rfl rfl rfl rfl ?_
    refine wp_i rfl rfl rfl rfl ?_
    refine wp_i rfl rfl rfl rfl ?_
    refine wp_i rfl rfl rfl rfl ?_
    refine wp_i rfl rfl rfl rfl ?_
    show pm_WP PT fr lo 265 (64, [some (.ref 162), some (.int (nI i)), some (.int (nI k))], [.int ((96 * (nI i)) + (nI k)), .ref 196, .int (nI k), .ref 170], (aset h 170 96 gk), 198, sl) _
    rw [ix96 i k]
    show pm_WP PT fr lo 265 (64, [some (.ref 162), some (.int (nI i)), some (.int (nI k))], [.int (nI (96 * i + k)), .ref 196, .int (nI k), .ref 170], (aset h 170 96 gk), 198, sl) _
    refine wp_iam rfl (aset_ne (by decide) hK) (hI_in (by omega) (by omega)) (by decide) ?_
    rw [nI_clamp (by omega)]
    show pm_WP PT fr lo 265 (65, [some (.ref 162), some (.int (nI i)), some (.int (nI k))], [.int (f (96 * i + k)), .int (nI k), .ref 170], (aset h 170 96 gk), 198, sl) _
    refine wp_ism rfl (aset_self _ _ _ _) (hI_in (by omega) (by omega)) (by decide) ?_
    rw [nI_clamp (by omega)]
    have e0 : upd gk k (f (96 * i + k)) = upd gk (0 + k) (f (96 * i + k)) := by rw [Nat.zero_add]
    rw [e0]
    refine wp_i rfl rfl rfl rfl ?_
    refine wp_i rfl rfl rfl rfl ?_
    show pm_WP PT fr lo 265 (43, [some (.ref 162), some (.int (nI i)), some (.int (nI k + 1))], [], (aset (aset h 170 96 gk) 170 96 (upd gk (0 + k) (f (96 * i + k)))), 198, sl) _
    rw [nI_1 k, aset_aset]
    exact ih (k + 1) _ (by omega) (cpk_up hc)
theorem hd_again {f g b c : Nat → Int32} {ch : Int32} {x0 x27 : Value} (v : Int32) (h0 : mF h 0 x0) (h5 : mF h 5 (.int ch)) (h27 : mF h 27 x27) (h52 : mF h 52 (.ref 194)) (h53 : mF h 53 (.ref 195)) (h54 : mF h 54 (.ref 196)) (h12 : mF h 12 (.ref 170)) (hN : h 170 = .inl (0, 96, .inl g)) (hK : h 196 = .inl (0, 288, .inl f)) (hB : h 194 = .inl (3, 3, .inl b)) (hCh : h 195 = .inl (0, 3, .inl c)) (hf : 1 ≤ fr) (hl : 30 ≤ lo) : pm_WP PT fr lo 265 (0, pm_l0 [.ref 162, .int v] 3, [], h, 198, sl) (fun r => r = (some (.int 0), mset h 0 (.int 0), 198, sl) ∨ ∃ (i : Nat) (g2 : Nat → Int32), i < 3 ∧ v = nI i ∧ r = (some (.int 1), mset (aset (mset h 0 (.int 0)) 170 96 g2) 27 (.int 0), 198, sl) ∧ ∀ j, j < 96 → g2 j = f (96 * i + j)) := by
  refine wp_i rfl rfl rfl rfl ?_
  refine wp_i rfl rfl rfl rfl ?_
  show pm_WP PT fr lo 265 (2, [some (.ref 162), some (.int v), none], [.int 0, .ref 162], h, 198, sl) _
  refine wp_pfm rfl rfl rfl (by decide) h0 ?_
  refine wp_i rfl rfl rfl rfl ?_
  refine wp_i rfl rfl rfl rfl ?_
  refine wp_i rfl rfl rfl rfl ?_
  refine wp_i rfl rfl rfl rfl ?_
  show pm_WP PT fr lo 265 (11, [some (.ref 162), some (.int v), none], [.long 2, .long 0, .long (v).toInt64], (mset h 0 (.int 0)), 198, sl) _
  refine wp_callS (t := 163) (As := [.long (v).toInt64, .long 0, .long 2]) (rest := []) (mx := 6) rfl rfl rfl rfl (Nat.le_of_ble_eq_true rfl) (Nat.le_of_ble_eq_true rfl) (by omega) (by omega) (wp_mono (hd_in v.toInt64 0 2) ?_)
  rintro _ rfl
  cases hin : in_b v.toInt64 0 2 with
  | false =>
    refine wp_i rfl rfl rfl rfl ?_
    refine wp_i rfl rfl rfl rfl ?_
    show pm_WP PT fr lo 265 (40, [some (.ref 162), some (.int v), none], [.int 0], (mset h 0 (.int 0)), 198, sl) _
    exact wp_zret rfl rfl (by decide) (Or.inl rfl)
  | true =>
    obtain ⟨i, hi, rfl⟩ := in3 v hin
    refine wp_i rfl rfl rfl rfl ?_
    refine wp_i rfl rfl rfl rfl ?_
    show pm_WP PT fr lo 265 (18, [some (.ref 162), some (.int (nI i)), none], [.ref 162], (mset h 0 (.int 0)), 198, sl) _
    refine wp_gfm rfl rfl (mF_ne (by decide) h52) ?_
    refine wp_i rfl rfl rfl rfl ?_
    show pm_WP PT fr lo 265 (22, [some (.ref 162), some (.int (nI i)), none], [.int (nI i), .ref 194], (mset h 0 (.int 0)), 198, sl) _
    refine wp_zam rfl (by rw [mset_ne (by decide)]; exact hB) (hI_in hi (by decide)) (by decide) ?_
    rw [nI_clamp (by omega)]
    show pm_WP PT fr lo 265 (23, [some (.ref 162), some (.int (nI i)), none], [.int (b i)], (mset h 0 (.int 0)), 198, sl) _
    refine wp_if (c := .eq) (off := 16) (t := 39) rfl rfl (fun q => ?_) (fun q => ?_)
    · refine wp_i rfl rfl rfl rfl ?_
      show pm_WP PT fr lo 265 (40, [some (.ref 162), some (.int (nI i)), none], [.int 0], (mset h 0 (.int 0)), 198, sl) _
      exact wp_zret rfl rfl (by decide) (Or.inl rfl)
    · refine wp_i rfl rfl rfl rfl ?_
      show pm_WP PT fr lo 265 (27, [some (.ref 162), some (.int (nI i)), none], [.ref 162], (mset h 0 (.int 0)), 198, sl) _
      refine wp_gfm rfl rfl (mF_ne (by decide) h53) ?_
      refine wp_i rfl rfl rfl rfl ?_
      show pm_WP PT fr lo 265 (31, [some (.ref 162), some (.int (nI i)), none], [.int (nI i), .ref 195], (mset h 0 (.int 0)), 198, sl) _
      refine wp_iam rfl (mset_arr (by decide) hCh) (hI_in hi (by decide)) (by decide) ?_
      rw [nI_clamp (by omega)]
      refine wp_i rfl rfl rfl rfl ?_
      show pm_WP PT fr lo 265 (33, [some (.ref 162), some (.int (nI i)), none], [.ref 162, .int (c i)], (mset h 0 (.int 0)), 198, sl) _
      refine wp_gfm rfl rfl (mF_ne (by decide) h5) ?_
      show pm_WP PT fr lo 265 (36, [some (.ref 162), some (.int (nI i)), none], [.int ch, .int (c i)], (mset h 0 (.int 0)), 198, sl) _
      refine wp_icmp (c := .eq) (off := 5) (t := 41) rfl rfl (fun q => ?_) (fun q => ?_)
      · refine wp_i rfl rfl rfl rfl ?_
        refine wp_i rfl rfl rfl rfl ?_
        show pm_WP PT fr lo 265 (43, [some (.ref 162), some (.int (nI i)), some (.int 0)], [], (mset h 0 (.int 0)), 198, sl) _
        have e9 := aset_same (mset_arr (f := 0) (v := .int 0) (by decide) hN)
        rw [← e9]
        refine cp_again (f := f) (g := g) hi (mF_ne (by decide) h54) (mF_ne (by decide) h12) (mset_arr (by decide) hK) (fun gk hc => ?_) 96 0 g (by omega) (cpk_0 f g (96 * i) 0)
        refine wp_i rfl rfl rfl rfl ?_
        refine wp_i rfl rfl rfl rfl ?_
        show pm_WP PT fr lo 265 (74, [some (.ref 162), some (.int (nI i)), some (.int (nI 96))], [.int 0, .ref 162], (aset (mset h 0 (.int 0)) 170 96 gk), 198, sl) _
        refine wp_pfm rfl rfl rfl (by decide) (mF_as (by decide) (mF_ne (by decide) h27)) ?_
        refine wp_i rfl rfl rfl rfl ?_
        show pm_WP PT fr lo 265 (78, [some (.ref 162), some (.int (nI i)), some (.int (nI 96))], [.int 1], (mset (aset (mset h 0 (.int 0)) 170 96 gk) 27 (.int 0)), 198, sl) _
        exact wp_zret rfl rfl (by decide) (Or.inr ⟨i, gk, hi, rfl, by rw [aset_aset], fun j hj => by have := hc.1 j hj; rwa [Nat.zero_add] at this⟩)
      · refine wp_i rfl rfl rfl rfl ?_
        show pm_WP PT fr lo 265 (40, [some (.ref 162), some (.int (nI i)), none], [.int 0], (mset h 0 (.int 0)), 198, sl) _
        exact wp_zret rfl rfl (by decide) (Or.inl rfl)
theorem j64_rem {x y : Int64} (hx : 0 ≤ x.toInt) : (x - x / y * y).toInt = x.toInt % y.toInt := by
  have h1 : (x - x / y * y).toInt = (x.toInt.tmod y.toInt).bmod (2 ^ 64) := by
    rw [Int64.toInt_sub, Int64.toInt_mul, Int64.toInt_div, Int.bmod_mul_bmod, Int.sub_bmod_bmod, Int.mul_comm, ← Int.tmod_def]
  have h2 := (x % y).toInt_lt
  have h3 := (x % y).le_toInt
  rw [Int64.toInt_mod] at h2 h3
  rw [h1, Int.bmod_def]
  rw [Int.tmod_eq_emod_of_nonneg hx] at h2 h3 ⊢
  omega
theorem wp_lrem {k pc : Nat} {L : pm_L} {r : List Value} {x y : Int64} (hi : pm_ins PT k pc = some (.lrem, 1)) (hy : ¬ y = 0) (kk : pm_WP PT fr lo k (pc + 1, L, .long (x - x / y * y) :: r, h, 198, sl) Q) : pm_WP PT fr lo k (pc, L, .long y :: .long x :: r, h, 198, sl) Q := by
  refine wp_i hi rfl rfl ?_ kk
  show pm_bdL (fun x y => x - x / y * y) pc L (.long y :: .long x :: r) h 198 sl = _
  unfold pm_bdL
  dsimp only
  rw [if_neg hy]
theorem hd_common : ∀ (k : Nat) (fr lo : Nat) (a b : Int64), 0 ≤ a.toInt → 0 ≤ b.toInt → 1 ≤ a.toInt + b.toInt → b.toInt < 2 ^ k → 2 * k + 2 ≤ fr → 60 * k + 60 ≤ lo → pm_WP PT fr lo 166 (0, pm_l0 [.long a, .long b] 4, [], h, 198, sl) (fun r => ∃ c : Int64, 1 ≤ c.toInt ∧ r = (some (.long c), h, 198, sl)) := by
  have two : ∀ (fr lo : Nat) (a b : Int64), 0 ≤ a.toInt → 0 ≤ b.toInt → 1 ≤ a.toInt + b.toInt → 1 ≤ fr → 23 ≤ lo → (∀ c : Int64, ¬ b = 0 → c.toInt = a.toInt % b.toInt → pm_WP PT (fr - 1) (lo - 23) 166 (0, pm_l0 [.long b, .long c] 4, [], h, 198, sl) (fun r => ∃ c : Int64, 1 ≤ c.toInt ∧ r = (some (.long c), h, 198, sl))) → pm_WP PT fr lo 166 (0, pm_l0 [.long a, .long b] 4, [], h, 198, sl) (fun r => ∃ c : Int64, 1 ≤ c.toInt ∧ r = (some (.long c), h, 198, sl)) := by
    intro fr lo a b ha hb hab hf hl hrec
    refine wp_i rfl rfl rfl rfl ?_
    refine wp_i rfl rfl rfl rfl ?_
    refine wp_i rfl rfl rfl rfl ?_
    show pm_WP PT fr lo 166 (3, [some (.long a), none, some (.long b), none], [.int (lg_cmp b 0)], h, 198, sl) _
    refine wp_if (c := .ne) (off := 7) (t := 10) rfl rfl (fun q => ?_) (fun q => ?_)
    · have q : ¬ b = 0 := fun e => by rw [e] at q; exact absurd q (by decide)
      refine wp_i rfl rfl rfl rfl ?_
      refine wp_i rfl rfl rfl rfl ?_
      refine wp_i rfl rfl rfl rfl ?_
      show pm_WP PT fr lo 166 (13, [some (.long a), none, some (.long b), none], [.long b, .long a, .long b], h, 198, sl) _
      refine wp_lrem rfl q ?_
      show pm_WP PT fr lo 166 (14, [some (.long a), none, some (.long b), none], [.long (a - a / b * b), .long b], h, 198, sl) _
      refine wp_callS (t := 166) (As := [.long b, .long (a - a / b * b)]) (rest := []) (mx := 4) rfl rfl rfl rfl (Nat.le_of_ble_eq_true rfl) (Nat.le_of_ble_eq_true rfl) hf (by omega) (wp_mono (hrec (a - a / b * b) q (j64_rem ha)) ?_)
      rintro _ ⟨c, hc, rfl⟩
      show pm_WP PT fr lo 166 (17, [some (.long a), none, some (.long b), none], [.long c], h, 198, sl) _
      exact wp_lret rfl rfl ⟨c, hc, rfl⟩
    · have q : b = 0 := by
        apply Int64.toInt_inj.1
        have q1 := Decidable.not_not.mp ((rs_t (P := ¬ lg_cmp b 0 = 0) rfl).2 q)
        have l1 : ¬ b < 0 := fun e => by have := (lg_cmp_lt b 0).mpr e; rw [q1] at this; exact absurd this (by decide)
        have l2 : ¬ 0 < b := fun e => by have := (lg_cmp_gt b 0).mpr e; rw [q1] at this; exact absurd this (by decide)
        rw [Int64.lt_iff_toInt_lt] at l1 l2
        omega
      have hb0 : b.toInt = 0 := by rw [q]; rfl
      refine wp_i rfl rfl rfl rfl ?_
      refine wp_i rfl rfl rfl rfl ?_
      show pm_WP PT fr lo 166 (17, [some (.long a), none, some (.long b), none], [.long a], h, 198, sl) _
      exact wp_lret rfl rfl ⟨a, by omega, rfl⟩
  intro k
  induction k with
  | zero =>
    intro fr lo a b ha hb hab hk hf hl
    have hb0 : b.toInt = 0 := by have : (2 : Int) ^ 0 = 1 := rfl; omega
    refine two fr lo a b ha hb hab (by omega) (by omega) (fun c hne _ => absurd ?_ hne)
    apply Int64.toInt_inj.1
    rw [hb0]
    rfl
  | succ k ih =>
    intro fr lo a b ha hb hab hk hf hl
    refine two fr lo a b ha hb hab (by omega) (by omega) (fun c hne hc => ?_)
    have hbp : 1 ≤ b.toInt := by
      have : ¬ b.toInt = 0 := fun e => hne (by apply Int64.toInt_inj.1; rw [e]; rfl)
      omega
    have c1 := Int.emod_nonneg a.toInt (show b.toInt ≠ 0 by omega)
    have c2 := Int.emod_lt_of_pos a.toInt (show 0 < b.toInt by omega)
    rw [← hc] at c1 c2
    refine two (fr - 1) (lo - 23) b c hb c1 (by omega) (by omega) (by omega) (fun e hne2 he => ?_)
    have hcp : 1 ≤ c.toInt := by
      have : ¬ c.toInt = 0 := fun z => hne2 (by apply Int64.toInt_inj.1; rw [z]; rfl)
      omega
    have e1 := Int.emod_nonneg b.toInt (show c.toInt ≠ 0 by omega)
    have e2 := Int.emod_lt_of_pos b.toInt (show 0 < c.toInt by omega)
    rw [← he] at e1 e2
    have e3 : e.toInt + c.toInt ≤ b.toInt := by
      have d1 := Int.emod_add_mul_ediv b.toInt c.toInt
      have d2 : 1 ≤ b.toInt / c.toInt := by
        apply Int.le_ediv_of_mul_le (by omega)
        omega
      have d3 : c.toInt * 1 ≤ c.toInt * (b.toInt / c.toInt) := Int.mul_le_mul_of_nonneg_left d2 (by omega)
      rw [he]
      omega
    have p2 : (2 : Int) ^ (k + 1) = 2 ^ k * 2 := Int.pow_succ 2 k
    exact ih (fr - 1 - 1) (lo - 23 - 23) c e c1 e1 (by omega) (by omega) (by omega) (by omega)
end KEP
end MG55keepx0
section MG55keepx1
/-! what is kept by the reference, and the callees that are known by hand -/
section RKN
def rowT (j : Nat) : av := match bB 170 with
  | .inr (_, as) => as.getD j (0, 0, 0)
  | _ => (0, 0, 0)
def rowsOk (h : pm_H) (a n : Nat) : Prop := ∃ f : Nat → Int32, h a = .inl (0, n, .inl f) ∧ ∀ j, j < n → av_ok (.int (f j)) (rowT (j % 96))
def codeOk (h : pm_H) : Prop := ∃ (n dn : Nat) (f : Nat → Int32), mF h 23 (.int (nI n)) ∧ h 174 = .inl (0, 80, .inl f) ∧ n ≤ 80 ∧ (n = 0 ∨ (dep f n = some dn ∧ 1 ≤ dn))
def cgOk (h : pm_H) : Prop := ∃ c g : Nat, mF h 3 (.int (nI c)) ∧ mF h 4 (.int (nI g)) ∧ c ≤ 6 ∧ g ≤ 8 ∧ (0 < g → 0 < c)
def rxQ (h : pm_H) : Prop := codeOk h ∧ cgOk h ∧ rowsOk h 178 1536 ∧ rowsOk h 196 288
def rxPf (ci f : Nat) : Bool := Nat.beq ci 11 && (Nat.beq f 3 || (Nat.beq f 4 || (Nat.beq f 23 || Nat.beq f 24)))
def rxC (i : Nat) : Bool := Nat.blt i 162 || (Nat.beq i 174 || (Nat.beq i 175 || Nat.beq i 193))
def rxF0 : fr_F := (fun i => rxC i || (Nat.beq i 178 || Nat.beq i 196), rxPf)
def rxF : fr_F := (rxC, rxPf)
variable {h h' : pm_H}
theorem rxle : ∀ h h', fm rxF0 h h' → fm rxF h h' := by
  intro h h' q
  refine ⟨fun i hi => q.1 i ?_, q.2⟩
  have hi : rxC i = true := hi
  show (rxC i || (Nat.beq i 178 || Nat.beq i 196)) = true
  rw [hi]
  rfl
theorem fm_mF {F : fr_F} {g : Nat} {v : Value} (q : fm F h h') (hg : F.2 11 g = true) (m : mF h g v) : mF h' g v := by
  obtain ⟨fs, e, e1⟩ := m
  obtain ⟨fs', e', -, hk⟩ := q.2 162 11 fs e
  exact ⟨fs', e', (hk g hg).trans e1⟩
theorem rxpp : pp_ok rxF0 rxQ := by
  intro h h' q hp
  obtain ⟨⟨n, dn, f, c1, c2, c3, c4⟩, ⟨c, g, d1, d2, d3⟩, ⟨f1, r1, r2⟩, f2, r3, r4⟩ := hp
  exact ⟨⟨n, dn, f, fm_mF q rfl c1, (q.1 174 rfl).trans c2, c3, c4⟩, ⟨c, g, fm_mF q rfl d1, fm_mF q rfl d2, d3⟩, ⟨f1, (q.1 178 rfl).trans r1, r2⟩, f2, (q.1 196 rfl).trans r3, r4⟩
theorem fm_ms {F : fr_F} {g : Nat} {v w : Value} (hF : F.1 162 = false) (hg : F.2 11 g = false) (m : mF h g w) : fm F h (mset h g v) := by
  obtain ⟨fs, e, -⟩ := m
  rw [mset_of e]
  exact fm_fld hF e hg
theorem fm_as {F : fr_F} {a n : Nat} {f g : Nat → Int32} (hF : F.1 a = false) (m : h a = .inl (0, n, .inl g)) : fm F h (aset h a n f) := fm_arr hF ⟨_, m⟩
/-! abstract heaps and updates -/
variable {o : ah} {as : List av}
theorem ob_fld (hh : ah_ok bB 198 o h) (e : ah_get bB o 162 = .inr (11, as)) {g : Nat} {a : av} (ha : as[g]? = some a) : ∃ v, mF h g v ∧ av_ok v a := by
  have h0 := hh 162 (by decide)
  rw [e] at h0
  obtain ⟨fs, ef, hl, hg⟩ := aE_obj h0 (by decide)
  have hlt : g < fs.length := by have := (List.getElem?_eq_some_iff.mp ha).1; omega
  exact ⟨fs[g], ⟨fs, ef, List.getElem?_eq_getElem hlt⟩, hg g fs[g] a (List.getElem?_eq_getElem hlt) ha⟩
theorem ob_ref (hh : ah_ok bB 198 o h) (e : ah_get bB o 162 = .inr (11, as)) {g p : Nat} (ha : as[g]? = some (2, (p : Int), 1)) : mF h g (.ref p) := by
  obtain ⟨v, h1, h2⟩ := ob_fld hh e ha
  obtain ⟨q, rfl, hq⟩ := av_ref rfl h2
  have : q = p := by simpa [av_ids] using hq
  subst this
  exact h1
theorem ob_nat (hh : ah_ok bB 198 o h) (e : ah_get bB o 162 = .inr (11, as)) {g : Nat} {l u : Int} (ha : as[g]? = some (0, l, u)) (hl : 0 ≤ l) (hu : u ≤ 1000000) : ∃ n : Nat, mF h g (.int (nI n)) ∧ l ≤ (n : Int) ∧ (n : Int) ≤ u := by
  obtain ⟨v, h1, h2⟩ := ob_fld hh e ha
  obtain ⟨x, rfl, h3, h4⟩ := av_int rfl h2
  dsimp only at h3 h4
  obtain ⟨n, rfl, hn, en⟩ := hI_of (show 0 ≤ x.toInt by omega)
  exact ⟨n, h1, by omega, by omega⟩
theorem ob_set (hh : ah_ok bB 198 o h) (e : ah_get bB o 162 = .inr (11, as)) {g : Nat} {v : Value} {a : av} (hv : av_ok v a) : ah_ok bB 198 (ah_put o 162 (.inr (11, as.set g a))) (mset h g v) := by
  have h0 := hh 162 (by decide)
  rw [e] at h0
  obtain ⟨fs, ef, hl, hg⟩ := aE_obj h0 (by decide)
  intro i hi
  rw [ah_put_get]
  by_cases q : i = 162
  · subst q
    rw [if_pos rfl, mset_of ef]
    simp only [va_up, if_pos]
    refine ⟨⟨rfl, by decide⟩, by simp [hl], fun j w b hw hb => ?_⟩
    by_cases ej : g = j
    · subst ej
      have hlt : g < fs.length := by
        have := (List.getElem?_eq_some_iff.mp hw).1
        simpa using this
      rw [List.getElem?_set_self hlt] at hw
      rw [List.getElem?_set_self (by omega)] at hb
      cases hw
      cases hb
      exact hv
    · rw [List.getElem?_set_ne ej] at hw hb
      exact hg j w b hw hb
  · rw [if_neg q, mset_ne q]
    exact hh i hi
theorem ob_arr (hh : ah_ok bB 198 o h) {i n : Nat} {c : ac} {f : Nat → Int32} (hc : ac_ok (.inl (0, n, .inl f)) c) : ah_ok bB 198 (ah_put o i c) (aset h i n f) := by
  intro j hj
  rw [ah_put_get]
  by_cases q : j = i
  · subst q; rw [if_pos rfl, aset_self]; exact hc
  · rw [if_neg q, aset_nei q]; exact hh j hj
theorem ob_int (hh : ah_ok bB 198 o h) {i n : Nat} {a : av} (hi : i < 198) (e : ah_get bB o i = .inl (0, n, a)) (ha : a.1 = 0) (hn : 0 < n) : ∃ f : Nat → Int32, h i = .inl (0, n, .inl f) ∧ ∀ j, j < n → av_ok (.int (f j)) a := by
  have h0 := hh i hi
  rw [e] at h0
  cases e2 : h i with
  | inr q => rw [e2] at h0; obtain ⟨ci, fs⟩ := q; exact h0.elim
  | inl q =>
    rw [e2] at h0
    obtain ⟨kd, m, f | f | f | f | f⟩ := q
    · obtain ⟨rfl, rfl, q⟩ := h0
      exact ⟨f, rfl, q⟩
    · obtain ⟨rfl, rfl, q⟩ := h0
      have := (q 0 hn).1
      omega
    · exact h0.elim
    · exact h0.elim
    · obtain ⟨rfl, rfl, q⟩ := h0
      have q := q 0 hn
      unfold aq at q
      rw [if_neg (by omega)] at q
      cases e3 : f 0 with
      | none => rw [e3] at q; have q : a.1 = 3 := q; omega
      | some p => rw [e3] at q; have := q.1; omega
theorem ob_intE (hh : ah_ok bB 198 o h) {i : Nat} {bs : List av} (hi : i < 198) (e : ah_get bB o i = .inr (1000, bs)) : ∃ f : Nat → Int32, h i = .inl (0, bs.length, .inl f) ∧ ∀ j a, bs[j]? = some a → av_ok (.int (f j)) a := by
  have h0 := hh i hi
  rw [e] at h0
  cases e2 : h i with
  | inr q => rw [e2] at h0; obtain ⟨ci, fs⟩ := q; have h1 := h0.1.1; have h2 := h0.1.2; omega
  | inl q =>
    rw [e2] at h0
    obtain ⟨kd, m, f | f | f | f | f⟩ := q
    · obtain ⟨q1, rfl, q⟩ := h0
      have : kd = 0 := by omega
      subst this
      exact ⟨f, rfl, q⟩
    · exact h0.elim
    · exact h0.elim
    · exact h0.elim
    · exact h0.elim
/-- the object is there and its field g holds a -/
def ob_is (o : ah) (g : Nat) (a : av) : Bool := match ah_get bB o 162 with
  | .inr (ci, as) => Nat.beq ci 11 && decide (as[g]? = some a)
  | _ => false
theorem ob_is_ok {g : Nat} {a : av} (e : ob_is o g a = true) : ∃ as, ah_get bB o 162 = .inr (11, as) ∧ as[g]? = some a := by
  unfold ob_is at e
  split at e
  · rename_i ci as eo
    rw [Bool.and_eq_true] at e
    have := Nat.eq_of_beq_eq_true e.1
    subst this
    exact ⟨as, eo, of_decide_eq_true e.2⟩
  · cases e
/-- the text is being read: from where on, how far -/
def rk_txt (o : ah) : Option (List av × av) := match ah_get bB o 162, ah_get bB o 172 with
  | .inr (ci, as), .inl (kd, n, b) => (match as[16]?, as[17]? with
    | some x, some y => cond (Nat.beq ci 11 && (decide (as[14]? = some (2, 172, 1)) && (decide (x.1 = 0 ∧ 0 ≤ x.2.1 ∧ x.2.2 ≤ 900) && (decide (y.1 = 0 ∧ 0 ≤ y.2.1 ∧ y.2.2 ≤ 80) && decide (kd = 0 ∧ n = 80 ∧ b.1 = 0))))) (some (as, x)) none
    | _, _ => none)
  | _, _ => none
theorem rk_txt_ok {x : av} (hh : ah_ok bB 198 o h) (e : rk_txt o = some (as, x)) : ah_get bB o 162 = .inr (11, as) ∧ as[16]? = some x ∧ x.1 = 0 ∧ ∃ (a t : Nat) (tp : Nat → Int32), mF h 16 (.int (nI a)) ∧ mF h 17 (.int (nI t)) ∧ mF h 14 (.ref 172) ∧ h 172 = .inl (0, 80, .inl tp) ∧ t ≤ 80 ∧ a < 1000 ∧ x.2.1 ≤ (a : Int) ∧ (a : Int) ≤ x.2.2 := by
  unfold rk_txt at e
  split at e
  · rename_i ci as' kd n b e1 e2
    split at e
    · rename_i x' y ex ey
      cases hc : (Nat.beq ci 11 && (decide (as'[14]? = some (2, 172, 1)) && (decide (x'.1 = 0 ∧ 0 ≤ x'.2.1 ∧ x'.2.2 ≤ 900) && (decide (y.1 = 0 ∧ 0 ≤ y.2.1 ∧ y.2.2 ≤ 80) && decide (kd = 0 ∧ n = 80 ∧ b.1 = 0))))) with
      | false => rw [hc] at e; cases e
      | true =>
        rw [hc] at e
        cases e
        rw [Bool.and_eq_true, Bool.and_eq_true, Bool.and_eq_true, Bool.and_eq_true] at hc
        obtain ⟨g1, g2, g3, g4, g5⟩ := hc
        have g1 := Nat.eq_of_beq_eq_true g1
        subst g1
        have g2 := of_decide_eq_true g2
        obtain ⟨x1, x2, x3⟩ := of_decide_eq_true g3
        obtain ⟨y1, y2, y3⟩ := of_decide_eq_true g4
        obtain ⟨rfl, rfl, b1⟩ := of_decide_eq_true g5
        obtain ⟨xk, xl, xu⟩ := x
        obtain ⟨yk, yl, yu⟩ := y
        dsimp only at x1 x2 x3 y1 y2 y3
        subst x1 y1
        obtain ⟨a, m16, a1, a2⟩ := ob_nat hh e1 ex x2 (by omega)
        obtain ⟨t, m17, t1, t2⟩ := ob_nat hh e1 ey y2 (by omega)
        obtain ⟨tp, ht, -⟩ := ob_int hh (by decide) e2 b1 (by decide)
        exact ⟨e1, ex, rfl, a, t, tp, m16, m17, ob_ref hh e1 g2, ht, by omega, by omega, a1, a2⟩
    · cases e
  · cases e
def rk_bump (o : ah) (as : List av) (x : av) (l u : Int) : ah := ah_put o 162 (.inr (11, as.set 16 (0, x.2.1 + l, x.2.2 + u)))
theorem rk_bump_ok {x : av} {b : Nat} {l u : Int} (hh : ah_ok bB 198 o h) (e : ah_get bB o 162 = .inr (11, as)) (h1 : x.2.1 + l ≤ (b : Int)) (h2 : (b : Int) ≤ x.2.2 + u) (hb : b < 100000) : ah_ok bB 198 (rk_bump o as x l u) (mset h 16 (.int (nI b))) := ob_set hh e ⟨rfl, by rw [nI_toInt (by omega)]; exact h1, by rw [nI_toInt (by omega)]; exact h2⟩
theorem rk_keep {g : Nat} {v w : Value} (hg : rxPf 11 g = false) (m : mF h g w) (hp : rxQ h) : fm rxF h (mset h g v) ∧ rxQ (mset h g v) := ⟨fm_ms rfl hg m, rxpp _ _ (fm_ms rfl hg m) hp⟩
end RKN
end MG55keepx1
section MG55keepx2
/-! the callees that are known by hand -/
section RKF
def kn1_ok (F : fr_F) (PP : pm_H → Prop) (t : Nat) (f : List av → ah → Option (List ar × Nat × Nat)) : Prop := ∀ (as : List av) (o : ah) (R : List ar) (Fr Lo : Nat), f as o = some (R, Fr, Lo) → ∀ (As : List Value) (h : pm_H) (fr lo sl : Nat), as_ok As as → ah_ok bB 198 o h → PP h → Fr ≤ fr → Lo ≤ lo → pm_WP PT fr lo t (0, pm_l0 As (pm_max PT t), [], h, 198, sl) (fun x => (∃ r, r ∈ R ∧ ar_ok bB 198 sl r x) ∧ fm F h x.2.1 ∧ PP x.2.1)
def kn_of (t : Nat) (f : List av → ah → Option (List ar × Nat × Nat)) : kn := fun t' as o => cond (Nat.beq t' t) (f as o) none
theorem kn_of_ok {F : fr_F} {PP : pm_H → Prop} {t : Nat} {f : List av → ah → Option (List ar × Nat × Nat)} (h : kn1_ok F PP t f) : kn_ok (kn_of t f) PT bB 198 F PP := by
  intro t' as o R Fr Lo e
  unfold kn_of at e
  cases hb : Nat.beq t' t with
  | false => rw [hb] at e; cases e
  | true =>
    rw [hb] at e
    have := Nat.eq_of_beq_eq_true hb
    subst this
    exact h as o R Fr Lo e
theorem rf162 {v : Value} (q : av_ok v (2, 162, 1)) : v = .ref 162 := by
  obtain ⟨p, rfl, hp⟩ := av_ref rfl q
  have : p = 162 := by simpa [av_ids] using hp
  rw [this]
theorem as1 {As : List Value} {a : av} (q : as_ok As [a]) : ∃ v, As = [v] ∧ av_ok v a := by
  obtain ⟨v, r, rfl, hv, hr⟩ := as_cons q
  cases as_nil hr
  exact ⟨v, rfl, hv⟩
theorem as2 {As : List Value} {a b : av} (q : as_ok As [a, b]) : ∃ v w, As = [v, w] ∧ av_ok v a ∧ av_ok w b := by
  obtain ⟨v, r, rfl, hv, hr⟩ := as_cons q
  obtain ⟨w, rfl, hw⟩ := as1 hr
  exact ⟨v, w, rfl, hv, hw⟩
theorem as3 {As : List Value} {a b c : av} (q : as_ok As [a, b, c]) : ∃ v w x, As = [v, w, x] ∧ av_ok v a ∧ av_ok w b ∧ av_ok x c := by
  obtain ⟨v, r, rfl, hv, hr⟩ := as_cons q
  obtain ⟨w, x, rfl, hw, hx⟩ := as2 hr
  exact ⟨v, w, x, rfl, hv, hw, hx⟩
/-- where the place in the text may move -/
def at_ok (F : fr_F) (PP : pm_H → Prop) : Prop := ∀ (h : pm_H) (v w : Value), mF h 16 w → PP h → fm F h (mset h 16 v) ∧ PP (mset h 16 v)
theorem at_rx : at_ok rxF rxQ := fun _ _ _ m hp => rk_keep rfl m hp
variable {F : fr_F} {PP : pm_H → Prop}
/-- takes(sign) -/
def rk_takes (as : List av) (o : ah) : Option (List ar × Nat × Nat) := match as with
  | [m, s] => cond (decide (m = (2, 162, 1)) && Nat.beq s.1 0) (match rk_txt o with
    | some (bs, x) => some ([(some (0, 0, 0), o), (some (0, 1, 1), rk_bump o bs x 1 1)], 5, 300)
    | none => none) none
  | _ => none
theorem rk_takes_ok (hat : at_ok F PP) : kn1_ok F PP 181 rk_takes := by
  intro as o R Fr Lo e As h fr lo sl hAs hh hp hF hL
  unfold rk_takes at e
  split at e
  · rename_i m s
    cases hb : (decide (m = (2, 162, 1)) && Nat.beq s.1 0) with
    | false => rw [hb] at e; cases e
    | true =>
      rw [hb] at e
      dsimp only [cond] at e
      rw [Bool.and_eq_true] at hb
      have hm := of_decide_eq_true hb.1
      subst hm
      obtain ⟨v, w, rfl, hv, hw⟩ := as2 hAs
      cases rf162 hv
      obtain ⟨s1, rfl, -, -⟩ := av_int (Nat.eq_of_beq_eq_true hb.2) hw
      split at e
      · rename_i bs x ex
        cases e
        obtain ⟨e1, e2, e3, a, t, tp, m16, m17, m14, hA, ht, ha, x1, x2⟩ := rk_txt_ok hh ex
        refine wp_mono (hd_takes m16 m17 m14 hA ht ha (by omega) (by omega) s1) ?_
        rintro _ rfl
        by_cases q : a < t ∧ tp a = s1
        · rw [decide_eq_true q]
          exact ⟨⟨_, List.mem_cons_of_mem _ (List.mem_singleton_self _), ⟨rfl, by decide⟩, rk_bump_ok (b := a + 1) hh e1 (by omega) (by omega) (by omega), rfl, rfl⟩, hat _ _ _ m16 hp⟩
        · rw [decide_eq_false q]
          refine ⟨⟨_, List.mem_cons_self, ⟨rfl, by decide⟩, ?_, rfl, rfl⟩, hat _ _ _ m16 hp⟩
          show ah_ok bB 198 o (mset h 16 (.int (nI a)))
          rw [mset_same m16]
          exact hh
      · cases e
  · cases e
/-- isDigit() -/
def rk_isDigit (as : List av) (o : ah) : Option (List ar × Nat × Nat) := match as with
  | [m] => cond (decide (m = (2, 162, 1))) (match rk_txt o with
    | some _ => some ([(some (0, 0, 1), o)], 5, 300)
    | none => none) none
  | _ => none
theorem rk_isDigit_ok (hat : at_ok F PP) : kn1_ok F PP 182 rk_isDigit := by
  intro as o R Fr Lo e As h fr lo sl hAs hh hp hF hL
  unfold rk_isDigit at e
  split at e
  · rename_i m
    cases hb : decide (m = (2, 162, 1)) with
    | false => rw [hb] at e; cases e
    | true =>
      rw [hb] at e
      dsimp only [cond] at e
      have hm := of_decide_eq_true hb
      subst hm
      obtain ⟨v, rfl, hv⟩ := as1 hAs
      cases rf162 hv
      split at e
      · rename_i bsx ex
        obtain ⟨bs, x⟩ := bsx
        cases e
        obtain ⟨e1, e2, e3, a, t, tp, m16, m17, m14, hA, ht, ha, x1, x2⟩ := rk_txt_ok hh ex
        refine wp_mono (hd_isDigit m16 m17 m14 hA ht ha (by omega) (by omega)) ?_
        rintro _ rfl
        refine ⟨⟨_, List.mem_cons_self, ?_, hh, rfl, rfl⟩, fm_rf _, hp⟩
        cases dg tp a t
        · exact ⟨rfl, by decide⟩
        · exact ⟨rfl, by decide⟩
      · cases e
  · cases e
/-- takesOf(String) -/
def rk_takesOf (as : List av) (o : ah) : Option (List ar × Nat × Nat) := match as with
  | [m, s] => cond (decide (m = (2, 162, 1)) && decide (s.1 = 4 ∧ 0 ≤ s.2.1 ∧ s.2.1 < 5)) (match rk_txt o with
    | some (bs, x) => some ([(some (0, -1, -1), o), (some (0, 0, 6), rk_bump o bs x 1 1)], 6, 300)
    | none => none) none
  | _ => none
theorem st_le7 : ∀ i, i < 5 → (st_tx i).length ≤ 7 := by decide
theorem rk_takesOf_ok (hat : at_ok F PP) : kn1_ok F PP 183 rk_takesOf := by
  intro as o R Fr Lo e As h fr lo sl hAs hh hp hF hL
  unfold rk_takesOf at e
  split at e
  · rename_i m s
    cases hb : (decide (m = (2, 162, 1)) && decide (s.1 = 4 ∧ 0 ≤ s.2.1 ∧ s.2.1 < 5)) with
    | false => rw [hb] at e; cases e
    | true =>
      rw [hb] at e
      dsimp only [cond] at e
      rw [Bool.and_eq_true] at hb
      have hm := of_decide_eq_true hb.1
      subst hm
      obtain ⟨v, w, rfl, hv, hw⟩ := as2 hAs
      cases rf162 hv
      obtain ⟨k1, k2, k3⟩ := of_decide_eq_true hb.2
      have hw2 : ∃ i : Nat, w = .retAddr i ∧ s.2.1 = (i : Int) := by
        cases w with
        | retAddr i => exact ⟨i, rfl, hw.2⟩
        | int x => have := hw.1; omega
        | long x => have := hw.1; omega
        | ref x => have := hw.1; omega
        | null => have hw : s.1 = 3 := hw; omega
        | _ => exact hw.elim
      obtain ⟨i, rfl, hi⟩ := hw2
      have hi5 : i < 5 := by omega
      split at e
      · rename_i bs x ex
        cases e
        obtain ⟨e1, e2, e3, a, t, tp, m16, m17, m14, hA, ht, ha, x1, x2⟩ := rk_txt_ok hh ex
        refine wp_mono (hd_takesOf m16 m17 m14 hA ht ha (by omega) (by omega) hi5) ?_
        rintro _ rfl
        cases hk : tko i tp a t (st_tx i).length 0 with
        | none => exact ⟨⟨_, List.mem_cons_self, ⟨rfl, by decide⟩, hh, rfl, rfl⟩, fm_rf _, hp⟩
        | some j =>
          obtain ⟨j1, j2, j3⟩ := tko_some hk
          have j4 := st_le7 i hi5
          refine ⟨⟨_, List.mem_cons_of_mem _ (List.mem_singleton_self _), ⟨rfl, ?_, ?_⟩, rk_bump_ok hh e1 (by omega) (by omega) (by omega), rfl, rfl⟩, hat _ _ _ m16 hp⟩
          · rw [nI_toInt (by omega)]; dsimp only; omega
          · rw [nI_toInt (by omega)]; dsimp only; omega
      · cases e
  · cases e
/-- number(digits) -/
def rk_number (as : List av) (o : ah) : Option (List ar × Nat × Nat) := match as with
  | [m, s] => cond (decide (m = (2, 162, 1)) && decide (s.1 = 0 ∧ s.2.1 = s.2.2 ∧ 1 ≤ s.2.1 ∧ s.2.1 ≤ 3)) (match rk_txt o with
    | some (bs, x) => some ([(some (0, -1, -1), o), (some (0, 0, 10 ^ s.2.1.toNat - 1), rk_bump o bs x 1 s.2.1)], 5, 300)
    | none => none) none
  | _ => none
theorem rk_number_ok (hat : at_ok F PP) : kn1_ok F PP 184 rk_number := by
  intro as o R Fr Lo e As h fr lo sl hAs hh hp hF hL
  unfold rk_number at e
  split at e
  · rename_i m s
    cases hb : (decide (m = (2, 162, 1)) && decide (s.1 = 0 ∧ s.2.1 = s.2.2 ∧ 1 ≤ s.2.1 ∧ s.2.1 ≤ 3)) with
    | false => rw [hb] at e; cases e
    | true =>
      rw [hb] at e
      dsimp only [cond] at e
      rw [Bool.and_eq_true] at hb
      have hm := of_decide_eq_true hb.1
      subst hm
      obtain ⟨v, w, rfl, hv, hw⟩ := as2 hAs
      cases rf162 hv
      obtain ⟨k1, k2, k3, k4⟩ := of_decide_eq_true hb.2
      obtain ⟨dv, rfl, d1, d2⟩ := av_int k1 hw
      obtain ⟨d, rfl, hd, ed⟩ := hI_of (show 0 ≤ dv.toInt by omega)
      have hs : s.2.1 = (d : Int) := by omega
      split at e
      · rename_i bs x ex
        cases e
        obtain ⟨e1, e2, e3, a, t, tp, m16, m17, m14, hA, ht, ha, x1, x2⟩ := rk_txt_ok hh ex
        refine wp_mono (hd_number m16 m17 m14 hA ht ha (by omega) (by omega) (d := d) (by omega)) ?_
        rintro _ rfl
        cases hg : dg tp a t with
        | false => exact ⟨⟨_, List.mem_cons_self, ⟨rfl, by decide⟩, hh, rfl, rfl⟩, fm_rf _, hp⟩
        | true =>
          have hpow : (10 : Int) ^ d * (0 + 1) ≤ 10000 := by
            have : d = 1 ∨ d = 2 ∨ d = 3 := by omega
            rcases this with rfl | rfl | rfl <;> decide
          have b1 := nbr_bd (tp := tp) t d a 0 0 (by decide) (by decide) (by decide) hpow
          obtain ⟨d', rfl⟩ : ∃ d', d = d' + 1 := ⟨d - 1, by omega⟩
          have hlt := (dg_iv hg).1
          have b2 : a + 1 ≤ (nbr tp t (d' + 1) a 0).1 := by
            rw [nbr_gt t hg]
            obtain ⟨q1, q2⟩ := nbr_step (v := 0) (x := tp a) (m := 0) ⟨by decide, by decide⟩ (by decide) (dg_iv hg).2
            have hpow2 : (10 : Int) ^ d' * (9 + 1) ≤ 10000 := by
              have : d' = 0 ∨ d' = 1 ∨ d' = 2 := by omega
              rcases this with rfl | rfl | rfl <;> decide
            exact (nbr_bd (tp := tp) t d' (a + 1) (10 * 0 + tp a - 48) 9 q1 (by omega) (by decide) hpow2).1
          refine ⟨⟨_, List.mem_cons_of_mem _ (List.mem_singleton_self _), ⟨rfl, ?_, ?_⟩, rk_bump_ok hh e1 (by omega) (by rw [hs]; omega) (by omega), rfl, rfl⟩, hat _ _ _ m16 hp⟩
          · exact b1.2.2.2.1
          · dsimp only
            rw [hs]
            have := b1.2.2.2.2
            rw [show ((d' + 1 : Nat) : Int).toNat = d' + 1 by omega]
            omega
      · cases e
  · cases e
/-- digitIn(low, high) -/
def rk_digitIn (as : List av) (o : ah) : Option (List ar × Nat × Nat) := match as with
  | [m, l, u] => cond (decide (m = (2, 162, 1)) && (Nat.beq l.1 0 && Nat.beq u.1 0)) (match rk_txt o with
    | some (bs, x) => some ((some (0, -1, -1), o) :: cond (decide (l.2.1 ≤ u.2.2)) [(some (0, l.2.1, u.2.2), rk_bump o bs x 1 1)] [], 5, 300)
    | none => none) none
  | _ => none
theorem in_b_iv {v l u : Int32} (q : in_b v.toInt64 l.toInt64 u.toInt64 = true) : l.toInt ≤ v.toInt ∧ v.toInt ≤ u.toInt := by
  unfold in_b at q
  rw [Bool.and_eq_true] at q
  have e1 : ¬ v.toInt64 < l.toInt64 := by simpa using q.1
  have e2 : ¬ u.toInt64 < v.toInt64 := by simpa using q.2
  rw [Int64.lt_iff_toInt_lt, Int32.toInt_toInt64, Int32.toInt_toInt64] at e1 e2
  omega
theorem rk_digitIn_ok (hat : at_ok F PP) : kn1_ok F PP 185 rk_digitIn := by
  intro as o R Fr Lo e As h fr lo sl hAs hh hp hF hL
  unfold rk_digitIn at e
  split at e
  · rename_i m l u
    cases hb : (decide (m = (2, 162, 1)) && (Nat.beq l.1 0 && Nat.beq u.1 0)) with
    | false => rw [hb] at e; cases e
    | true =>
      rw [hb] at e
      dsimp only [cond] at e
      rw [Bool.and_eq_true, Bool.and_eq_true] at hb
      have hm := of_decide_eq_true hb.1
      subst hm
      obtain ⟨v, w, z, rfl, hv, hw, hz⟩ := as3 hAs
      cases rf162 hv
      obtain ⟨lv, rfl, l1, l2⟩ := av_int (Nat.eq_of_beq_eq_true hb.2.1) hw
      obtain ⟨uv, rfl, u1, u2⟩ := av_int (Nat.eq_of_beq_eq_true hb.2.2) hz
      split at e
      · rename_i bs x ex
        cases e
        obtain ⟨e1, e2, e3, a, t, tp, m16, m17, m14, hA, ht, ha, x1, x2⟩ := rk_txt_ok hh ex
        refine wp_mono (hd_digitIn m16 m17 m14 hA ht ha (by omega) (by omega) lv uv) ?_
        rintro _ rfl
        cases hg : dgi tp a t lv uv with
        | false => exact ⟨⟨_, List.mem_cons_self, ⟨rfl, by decide⟩, hh, rfl, rfl⟩, fm_rf _, hp⟩
        | true =>
          unfold dgi at hg
          rw [Bool.and_eq_true] at hg
          obtain ⟨i1, i2⟩ := in_b_iv hg.2
          have hlt := of_decide_eq_true hg.1
          rw [decide_eq_true (show l.2.1 ≤ u.2.2 by omega)]
          exact ⟨⟨_, List.mem_cons_of_mem _ (List.mem_singleton_self _), ⟨rfl, (by dsimp only; omega), (by dsimp only; omega)⟩, rk_bump_ok hh e1 (by omega) (by omega) (by omega), rfl, rfl⟩, hat _ _ _ m16 hp⟩
      · cases e
  · cases e
/-- ruled() -/
def rk_ruled (as : List av) (o : ah) : Option (List ar × Nat × Nat) := match as with
  | [m] => cond (decide (m = (2, 162, 1)) && (ob_is o 21 (2, 174, 1) && (ob_is o 25 (2, 176, 1) && ob_is o 26 (2, 177, 1)))) (match ah_get bB o 176, ah_get bB o 177 with
    | .inl (k1, n1, b1), .inl (k2, n2, b2) => cond (decide (k1 = 0 ∧ n1 = 80 ∧ b1.1 = 0) && decide (k2 = 0 ∧ n2 = 7 ∧ b2.1 = 0)) (some ([(some ai_top, ah_put o 176 (.inl (0, 80, ai_top)))], 5, 300)) none
    | _, _ => none) none
  | _ => none
theorem rk_ruled_ok : kn1_ok rxF rxQ 200 rk_ruled := by
  intro as o R Fr Lo e As h fr lo sl hAs hh hp hF hL
  unfold rk_ruled at e
  split at e
  · rename_i m
    cases hb : (decide (m = (2, 162, 1)) && (ob_is o 21 (2, 174, 1) && (ob_is o 25 (2, 176, 1) && ob_is o 26 (2, 177, 1)))) with
    | false => rw [hb] at e; cases e
    | true =>
      rw [hb] at e
      dsimp only [cond] at e
      rw [Bool.and_eq_true, Bool.and_eq_true, Bool.and_eq_true] at hb
      obtain ⟨b1, b2, b3, b4⟩ := hb
      have hm := of_decide_eq_true b1
      subst hm
      obtain ⟨v, rfl, hv⟩ := as1 hAs
      cases rf162 hv
      obtain ⟨a1, e1, f1⟩ := ob_is_ok b2
      obtain ⟨a2, e2, f2⟩ := ob_is_ok b3
      obtain ⟨a3, e3, f3⟩ := ob_is_ok b4
      split at e
      · rename_i k1 n1 c1 k2 n2 c2 g1 g2
        cases hc : (decide (k1 = 0 ∧ n1 = 80 ∧ c1.1 = 0) && decide (k2 = 0 ∧ n2 = 7 ∧ c2.1 = 0)) with
        | false => rw [hc] at e; cases e
        | true =>
          rw [hc] at e
          cases e
          rw [Bool.and_eq_true] at hc
          obtain ⟨rfl, rfl, i1⟩ := of_decide_eq_true hc.1
          obtain ⟨rfl, rfl, i2⟩ := of_decide_eq_true hc.2
          obtain ⟨st, hS, -⟩ := ob_int hh (by decide) g1 i1 (by decide)
          obtain ⟨ask, hAk, -⟩ := ob_int hh (by decide) g2 i2 (by decide)
          obtain ⟨⟨n, dn, f, c1', c2', c3', c4'⟩, hp2⟩ := id hp
          refine wp_mono (hd_ruled c3' c4' (by omega) (by omega) c1' (ob_ref hh e1 f1) c2' (ob_ref hh e2 f2) hS (ob_ref hh e3 f3) hAk) ?_
          rintro _ ⟨v, st2, rfl⟩
          have hf0 : fm rxF0 h (aset h 176 80 st2) := fm_as rfl hS
          exact ⟨⟨_, List.mem_singleton_self _, ai_top_ok v, ob_arr hh ⟨rfl, rfl, fun j _ => ai_top_ok _⟩, rfl, rfl⟩, rxle _ _ hf0, rxpp _ _ hf0 hp⟩
      · cases e
  · cases e
/-- copies() -/
def rk_copies (as : List av) (o : ah) : Option (List ar × Nat × Nat) := match as with
  | [m] => cond (decide (m = (2, 162, 1)) && (ob_is o 12 (2, 170, 1) && ob_is o 13 (2, 171, 1))) (match ah_get bB o 170, ah_get bB o 171 with
    | .inr (k1, bs), .inr (k2, cs) => cond (decide (k1 = 1000 ∧ bs.length = 96) && decide (k2 = 1000 ∧ cs.length = 96)) (some ([(none, ah_put o 171 (.inr (1000, bs)))], 5, 300)) none
    | _, _ => none) none
  | _ => none
theorem rk_copies_ok : kn1_ok rxF rxQ 229 rk_copies := by
  intro as o R Fr Lo e As h fr lo sl hAs hh hp hF hL
  unfold rk_copies at e
  split at e
  · rename_i m
    cases hb : (decide (m = (2, 162, 1)) && (ob_is o 12 (2, 170, 1) && ob_is o 13 (2, 171, 1))) with
    | false => rw [hb] at e; cases e
    | true =>
      rw [hb] at e
      dsimp only [cond] at e
      rw [Bool.and_eq_true, Bool.and_eq_true] at hb
      obtain ⟨b1, b2, b3⟩ := hb
      have hm := of_decide_eq_true b1
      subst hm
      obtain ⟨v, rfl, hv⟩ := as1 hAs
      cases rf162 hv
      obtain ⟨a1, e1, f1⟩ := ob_is_ok b2
      obtain ⟨a2, e2, f2⟩ := ob_is_ok b3
      split at e
      · rename_i k1 bs k2 cs g1 g2
        cases hc : (decide (k1 = 1000 ∧ bs.length = 96) && decide (k2 = 1000 ∧ cs.length = 96)) with
        | false => rw [hc] at e; cases e
        | true =>
          rw [hc] at e
          cases e
          rw [Bool.and_eq_true] at hc
          obtain ⟨rfl, i1⟩ := of_decide_eq_true hc.1
          obtain ⟨rfl, i2⟩ := of_decide_eq_true hc.2
          obtain ⟨f, hN, tN⟩ := ob_intE hh (by decide) g1
          obtain ⟨g, hT, -⟩ := ob_intE hh (by decide) g2
          rw [i1] at hN
          rw [i2] at hT
          refine wp_mono (hd_copies (ob_ref hh e2 f2) (ob_ref hh e1 f1) hN hT) ?_
          rintro _ ⟨g3, rfl, q⟩
          have hf0 : fm rxF0 h (aset h 171 96 g3) := fm_as rfl hT
          refine ⟨⟨_, List.mem_singleton_self _, trivial, ob_arr hh ⟨rfl, i1.symm, fun j a ha => ?_⟩, rfl, rfl⟩, rxle _ _ hf0, rxpp _ _ hf0 hp⟩
          rw [q j (by have := (List.getElem?_eq_some_iff.mp ha).1; omega)]
          exact tN j a ha
      · cases e
  · cases e
/-- the rows that are put by lie as they must -/
theorem rowT_of {bs : List av} (e : ac_le (.inr (1000, bs)) (bB 170) = true) {f : Nat → Int32} (t : ∀ (j : Nat) (a : av), bs[j]? = some a → av_ok (.int (f j)) a) : ∀ j, j < 96 → av_ok (.int (f j)) (rowT j) := by
  intro j hj
  have hb : ∃ cs, bB 170 = .inr (1000, cs) ∧ cs.length = 96 := ⟨_, rfl, rfl⟩
  obtain ⟨cs, eb, hl⟩ := hb
  have er : rowT j = cs.getD j (0, 0, 0) := by unfold rowT; rw [eb]
  rw [eb] at e
  have e : (Nat.beq 1000 1000 && al_le bs cs) = true := e
  rw [Bool.and_eq_true] at e
  obtain ⟨l1, l2⟩ := al_le_get e.2
  have hc : cs[j]? = some cs[j] := List.getElem?_eq_getElem (by omega)
  obtain ⟨a, ha, hle⟩ := l2 j _ hc
  rw [er, List.getD_eq_getElem?_getD, hc]
  exact av_le_ok hle (t j a ha)
/-- putsBy() -/
def rk_putsBy (as : List av) (o : ah) : Option (List ar × Nat × Nat) := match as with
  | [m] => cond (decide (m = (2, 162, 1)) && (ob_is o 12 (2, 170, 1) && (ob_is o 28 (2, 178, 1) && decide (ah_get bB o 178 = .inl (0, 1536, ai_top))))) (match ah_get bB o 162, ah_get bB o 170 with
    | .inr (ci, cs), .inr (k1, bs) => (match cs[27]? with
      | some u => cond (decide (ci = 11 ∧ k1 = 1000 ∧ bs.length = 96) && (decide (u.1 = 0 ∧ 0 ≤ u.2.1 ∧ u.2.2 ≤ 15) && ac_le (.inr (1000, bs)) (bB 170))) (some ([(none, o)], 5, 300)) none
      | none => none)
    | _, _ => none) none
  | _ => none
theorem rk_putsBy_ok : kn1_ok rxF rxQ 211 rk_putsBy := by
  intro as o R Fr Lo e As h fr lo sl hAs hh hp hF hL
  unfold rk_putsBy at e
  split at e
  · rename_i m
    cases hb : (decide (m = (2, 162, 1)) && (ob_is o 12 (2, 170, 1) && (ob_is o 28 (2, 178, 1) && decide (ah_get bB o 178 = .inl (0, 1536, ai_top))))) with
    | false => rw [hb] at e; cases e
    | true =>
      rw [hb] at e
      dsimp only [cond] at e
      rw [Bool.and_eq_true, Bool.and_eq_true, Bool.and_eq_true] at hb
      obtain ⟨b1, b2, b3, b4⟩ := hb
      have hm := of_decide_eq_true b1
      subst hm
      obtain ⟨v, rfl, hv⟩ := as1 hAs
      cases rf162 hv
      obtain ⟨a1, e1, f1⟩ := ob_is_ok b2
      obtain ⟨a2, e2, f2⟩ := ob_is_ok b3
      have g178 := of_decide_eq_true b4
      split at e
      · rename_i ci cs k1 bs g1 g2
        split at e
        · rename_i u hu
          cases hc : (decide (ci = 11 ∧ k1 = 1000 ∧ bs.length = 96) && (decide (u.1 = 0 ∧ 0 ≤ u.2.1 ∧ u.2.2 ≤ 15) && ac_le (.inr (1000, bs)) (bB 170))) with
          | false => rw [hc] at e; cases e
          | true =>
            rw [hc] at e
            cases e
            rw [Bool.and_eq_true, Bool.and_eq_true] at hc
            obtain ⟨rfl, rfl, i1⟩ := of_decide_eq_true hc.1
            obtain ⟨u1, u2, u3⟩ := of_decide_eq_true hc.2.1
            obtain ⟨uk, ul, uu⟩ := u
            dsimp only at u1 u2 u3
            subst u1
            obtain ⟨un, m27, w1, w2⟩ := ob_nat hh g1 hu u2 (by omega)
            obtain ⟨f, hN, tN⟩ := ob_intE hh (by decide) g2
            rw [i1] at hN
            obtain ⟨hp1, hp2, ⟨g, hU, tU⟩, hp4⟩ := id hp
            refine wp_mono (hd_putsBy (ob_ref hh e2 f2) (ob_ref hh e1 f1) m27 (by omega) hN hU) ?_
            rintro _ ⟨g3, rfl, q1, q2⟩
            have tf := rowT_of hc.2.2 tN
            have hrow : rowsOk (aset h 178 1536 g3) 178 1536 := by
              refine ⟨g3, aset_self _ _ _ _, fun j hj => ?_⟩
              by_cases z : 96 * un ≤ j ∧ j < 96 * un + 96
              · have := q1 (j - 96 * un) (by omega)
                rw [show 96 * un + (j - 96 * un) = j by omega, Nat.zero_add] at this
                rw [this, show j % 96 = j - 96 * un by omega]
                exact tf _ (by omega)
              · rw [q2 j (by omega)]
                exact tU j hj
            have hf : fm rxF h (aset h 178 1536 g3) := fm_as rfl hU
            refine ⟨⟨_, List.mem_singleton_self _, trivial, fun i hi => ?_, rfl, rfl⟩, hf, ?_⟩
            · by_cases z : i = 178
              · subst z
                show ac_ok (aset h 178 1536 g3 178) (ah_get bB o 178)
                rw [aset_self, g178]
                exact ⟨rfl, rfl, fun j _ => ai_top_ok _⟩
              · show ac_ok (aset h 178 1536 g3 i) _
                rw [aset_nei z]
                exact hh i hi
            · show rxQ (aset h 178 1536 g3)
              obtain ⟨n, dn, ff, c1, c2, c3⟩ := hp1
              obtain ⟨c, gg, d1, d2, d3⟩ := hp2
              obtain ⟨f4, r1, r2⟩ := hp4
              exact ⟨⟨n, dn, ff, mF_as (by decide) c1, aset_ne (by decide) c2, c3⟩, ⟨c, gg, mF_as (by decide) d1, mF_as (by decide) d2, d3⟩, hrow, f4, aset_ne (by decide) r1, r2⟩
        · cases e
      · cases e
  · cases e
/-- adds(answer) -/
def rk_adds (as : List av) (o : ah) : Option (List ar × Nat × Nat) := match as with
  | [m, x] => cond (decide (m = (2, 162, 1)) && (Nat.beq x.1 0 && (ob_is o 28 (2, 178, 1) && decide (ah_get bB o 178 = .inl (0, 1536, ai_top))))) (match ah_get bB o 162 with
    | .inr (ci, cs) => (match cs[27]? with
      | some u => cond (decide (ci = 11) && decide (u.1 = 0 ∧ 0 ≤ u.2.1 ∧ u.2.2 ≤ 15)) (some ([(some x, ah_put o 162 (.inr (11, cs.set 27 (0, 1, 15))))], 5, 300)) none
      | none => none)
    | _ => none) none
  | _ => none
theorem rk_adds_ok : kn1_ok rxF rxQ 212 rk_adds := by
  intro as o R Fr Lo e As h fr lo sl hAs hh hp hF hL
  unfold rk_adds at e
  split at e
  · rename_i m x
    cases hb : (decide (m = (2, 162, 1)) && (Nat.beq x.1 0 && (ob_is o 28 (2, 178, 1) && decide (ah_get bB o 178 = .inl (0, 1536, ai_top))))) with
    | false => rw [hb] at e; cases e
    | true =>
      rw [hb] at e
      dsimp only [cond] at e
      rw [Bool.and_eq_true, Bool.and_eq_true, Bool.and_eq_true] at hb
      obtain ⟨b1, b2, b3, b4⟩ := hb
      have hm := of_decide_eq_true b1
      subst hm
      obtain ⟨v, w, rfl, hv, hw⟩ := as2 hAs
      cases rf162 hv
      obtain ⟨xv, rfl, x1, x2⟩ := av_int (Nat.eq_of_beq_eq_true b2) hw
      obtain ⟨a2, e2, f2⟩ := ob_is_ok b3
      have g178 := of_decide_eq_true b4
      split at e
      · rename_i ci cs g1
        split at e
        · rename_i u hu
          cases hc : (decide (ci = 11) && decide (u.1 = 0 ∧ 0 ≤ u.2.1 ∧ u.2.2 ≤ 15)) with
          | false => rw [hc] at e; cases e
          | true =>
            rw [hc] at e
            cases e
            rw [Bool.and_eq_true] at hc
            have hci := of_decide_eq_true hc.1
            subst hci
            obtain ⟨u1, u2, u3⟩ := of_decide_eq_true hc.2
            obtain ⟨uk, ul, uu⟩ := u
            dsimp only at u1 u2 u3
            subst u1
            obtain ⟨un, m27, w1, w2⟩ := ob_nat hh g1 hu u2 (by omega)
            obtain ⟨hp1, hp2, ⟨g, hU, tU⟩, hp4⟩ := id hp
            refine wp_mono (hd_adds xv (ob_ref hh e2 f2) m27 (by omega) hU) ?_
            rintro _ ⟨g3, u2', rfl, q1, q2, q3⟩
            have hrow : rowsOk (aset (mset h 27 (.int (nI u2'))) 178 1536 g3) 178 1536 := by
              refine ⟨g3, aset_self _ _ _ _, fun j hj => ?_⟩
              rcases q3 with ⟨-, -, rfl⟩ | ⟨-, -, c1, c2⟩
              · exact tU j hj
              · by_cases z : j < 1440
                · have := c1 j z
                  rw [Nat.zero_add] at this
                  rw [this]
                  have t := tU (96 + j) (by omega)
                  rw [show (96 + j) % 96 = j % 96 by omega] at t
                  exact t
                · rw [c2 j (by omega)]
                  exact tU j hj
            have hf1 : fm rxF h (mset h 27 (.int (nI u2'))) := fm_ms rfl rfl m27
            have hf : fm rxF h (aset (mset h 27 (.int (nI u2'))) 178 1536 g3) := fm_tr hf1 (fm_as rfl (mset_arr (by decide) hU))
            have hs := ob_set (v := .int (nI u2')) (g := 27) (a := (0, 1, 15)) hh g1 ⟨rfl, by rw [nI_toInt (by omega)]; dsimp only; omega, by rw [nI_toInt (by omega)]; dsimp only; omega⟩
            refine ⟨⟨_, List.mem_singleton_self _, hw, fun i hi => ?_, rfl, rfl⟩, hf, ?_⟩
            · by_cases z : i = 178
              · subst z
                have e9 : ah_get bB (ah_put o 162 (.inr (11, cs.set 27 (0, 1, 15)))) 178 = ah_get bB o 178 := by rw [ah_put_get, if_neg (by decide)]
                show ac_ok (aset (mset h 27 (.int (nI u2'))) 178 1536 g3 178) (ah_get bB (ah_put o 162 (.inr (11, cs.set 27 (0, 1, 15)))) 178)
                rw [aset_self, e9, g178]
                exact ⟨rfl, rfl, fun j _ => ai_top_ok _⟩
              · show ac_ok (aset (mset h 27 (.int (nI u2'))) 178 1536 g3 i) _
                rw [aset_nei z]
                exact hs i hi
            · show rxQ (aset (mset h 27 (.int (nI u2'))) 178 1536 g3)
              obtain ⟨n, dn, ff, c1, c2, c3⟩ := hp1
              obtain ⟨c, gg, d1, d2, d3⟩ := hp2
              obtain ⟨f4, r1, r2⟩ := hp4
              exact ⟨⟨n, dn, ff, mF_as (by decide) (mF_ne (by decide) c1), aset_ne (by decide) (mset_arr (by decide) c2), c3⟩, ⟨c, gg, mF_as (by decide) (mF_ne (by decide) d1), mF_as (by decide) (mF_ne (by decide) d2), d3⟩, hrow, f4, aset_ne (by decide) (mset_arr (by decide) r1), r2⟩
        · cases e
      · cases e
  · cases e
/-- reading alone -/
def rkp : kn := kn_or (kn_of 181 rk_takes) (kn_or (kn_of 182 rk_isDigit) (kn_or (kn_of 183 rk_takesOf) (kn_or (kn_of 184 rk_number) (kn_of 185 rk_digitIn))))
theorem rkp_ok (hat : at_ok F PP) : kn_ok rkp PT bB 198 F PP := kn_or_ok (kn_of_ok (rk_takes_ok hat)) (kn_or_ok (kn_of_ok (rk_isDigit_ok hat)) (kn_or_ok (kn_of_ok (rk_takesOf_ok hat)) (kn_or_ok (kn_of_ok (rk_number_ok hat)) (kn_of_ok (rk_digitIn_ok hat)))))
def rk : kn := kn_or (kn_of 181 rk_takes) (kn_or (kn_of 182 rk_isDigit) (kn_or (kn_of 183 rk_takesOf) (kn_or (kn_of 184 rk_number) (kn_or (kn_of 185 rk_digitIn) (kn_or (kn_of 200 rk_ruled) (kn_or (kn_of 229 rk_copies) (kn_or (kn_of 211 rk_putsBy) (kn_of 212 rk_adds))))))))
theorem rk_ok : kn_ok rk PT bB 198 rxF rxQ := kn_or_ok (kn_of_ok (rk_takes_ok at_rx)) (kn_or_ok (kn_of_ok (rk_isDigit_ok at_rx)) (kn_or_ok (kn_of_ok (rk_takesOf_ok at_rx)) (kn_or_ok (kn_of_ok (rk_number_ok at_rx)) (kn_or_ok (kn_of_ok (rk_digitIn_ok at_rx)) (kn_or_ok (kn_of_ok rk_ruled_ok) (kn_or_ok (kn_of_ok rk_copies_ok) (kn_or_ok (kn_of_ok rk_putsBy_ok) (kn_of_ok rk_adds_ok))))))))
end RKF
end MG55keepx2
section MG55keepx3
/-! enters, isCourt, rule; by hand -/
section RLE
variable {fr lo sl : Nat} {h : pm_H} {Q : pm_Rs → Prop}
def lset (h : pm_H) (a n : Nat) (f : Nat → Int64) : pm_H := va_up h a (.inl (2, n, .inr (.inl f)))
theorem lset_nei {a b n : Nat} {f : Nat → Int64} (hn : b ≠ a) : lset h a n f b = h b := by simp [lset, va_up, hn]
theorem lset_self (h : pm_H) (a n : Nat) (f : Nat → Int64) : lset h a n f a = .inl (2, n, .inr (.inl f)) := by simp [lset, va_up]
theorem mF_ls {a n g : Nat} {f : Nat → Int64} {w : Value} (hn : 162 ≠ a) (q : mF h g w) : mF (lset h a n f) g w := by
  obtain ⟨fs, e, e1⟩ := q
  exact ⟨fs, by rw [lset_nei hn]; exact e, e1⟩
theorem wp_lsm {k pc : Nat} {L : pm_L} {r : List Value} {a n : Nat} {i : Int32} {x : Int64} {f : Nat → Int64} (hi : pm_ins PT k pc = some (.lastore, 1)) (ha : h a = .inl (2, n, .inr (.inl f))) (hin : pm_in i n = true) (hl : a < 198) (kk : pm_WP PT fr lo k (pc + 1, L, r, lset h a n (vp_updL f i.toNatClampNeg x), 198, sl) Q) : pm_WP PT fr lo k (pc, L, .long x :: .int i :: .ref a :: r, h, 198, sl) Q := by
  refine wp_i hi rfl rfl ?_ kk
  show pm_lS PT pc L (.long x :: .int i :: .ref a :: r) h 198 sl = _
  unfold pm_lS
  dsimp only
  have e : pm_lar PT h 198 a = some (2, n, f) := by
    unfold pm_lar
    rw [if_pos hl, ha]
    exact if_pos rfl
  rw [e]
  dsimp only
  rw [if_pos hin]
  rfl
theorem dD_lset {C G : Nat → Bool} {a n : Nat} {f : Nat → Int64} (ha : C a = true) (ha2 : 162 ≠ a) : dD C G h (lset h a n f) := by
  refine ⟨fun i _ b => lset_nei (fun q => by rw [q, ha] at b; cases b), fun fs e => ⟨fs, ?_, rfl, fun _ _ => rfl⟩⟩
  rw [lset_nei ha2]
  exact e
theorem hd_enters {k : Nat} {f : Nat → Int64} (v : Int64) (h1 : mF h 1 (.int (nI k))) (hk : k < 128) (h2 : mF h 2 (.ref 163)) (hR : h 163 = .inl (2, 128, .inr (.inl f))) : pm_WP PT fr lo 167 (0, pm_l0 [.ref 162, .long v] 3, [], h, 198, sl) (fun r => r = (none, mset (lset h 163 128 (vp_updL f k v)) 1 (.int (nI (k + 1))), 198, sl)) := by
  refine wp_i rfl rfl rfl rfl ?_
  show pm_WP PT fr lo 167 (1, [some (.ref 162), some (.long v), none], [.ref 162], h, 198, sl) _
  refine wp_gfm rfl rfl h2 ?_
  refine wp_i rfl rfl rfl rfl ?_
  show pm_WP PT fr lo 167 (5, [some (.ref 162), some (.long v), none], [.ref 162, .ref 163], h, 198, sl) _
  refine wp_gfm rfl rfl h1 ?_
  refine wp_i rfl rfl rfl rfl ?_
  show pm_WP PT fr lo 167 (9, [some (.ref 162), some (.long v), none], [.long v, .int (nI k), .ref 163], h, 198, sl) _
  refine wp_lsm rfl hR (hI_in hk (by decide)) (by decide) ?_
  rw [nI_clamp (by omega)]
  have z1 : mF (lset h 163 128 (vp_updL f k v)) 1 (.int (nI k)) := mF_ls (by decide) h1
  generalize lset h 163 128 (vp_updL f k v) = hh at z1 ⊢
  refine wp_i rfl rfl rfl rfl ?_
  refine wp_i rfl rfl rfl rfl ?_
  show pm_WP PT fr lo 167 (12, [some (.ref 162), some (.long v), none], [.ref 162, .ref 162], hh, 198, sl) _
  refine wp_gfm rfl rfl z1 ?_
  refine wp_i rfl rfl rfl rfl ?_
  refine wp_i rfl rfl rfl rfl ?_
  show pm_WP PT fr lo 167 (17, [some (.ref 162), some (.long v), none], [.int (nI k + 1), .ref 162], hh, 198, sl) _
  rw [nI_1 k]
  show pm_WP PT fr lo 167 (17, [some (.ref 162), some (.long v), none], [.int (nI (k + 1)), .ref 162], hh, 198, sl) _
  refine wp_pfm rfl rfl rfl (by decide) z1 ?_
  show pm_WP PT fr lo 167 (20, [some (.ref 162), some (.long v), none], [], (mset hh 1 (.int (nI (k + 1)))), 198, sl) _
  exact wp_vret rfl rfl rfl
theorem hd_isCourt {c : Nat} (x : Int32) (h3 : mF h 3 (.int (nI c))) (hf : 1 ≤ fr) (hl : 30 ≤ lo) : pm_WP PT fr lo 168 (0, pm_l0 [.ref 162, .int x] 2, [], h, 198, sl) (fun r => r = (some (.int (cond (in_b x.toInt64 0 (nI c - 1).toInt64) 1 0)), h, 198, sl)) := by
  refine wp_i rfl rfl rfl rfl ?_
  refine wp_i rfl rfl rfl rfl ?_
  refine wp_i rfl rfl rfl rfl ?_
  refine wp_i rfl rfl rfl rfl ?_
  show pm_WP PT fr lo 168 (4, [some (.ref 162), some (.int x)], [.ref 162, .long 0, .long (x).toInt64], h, 198, sl) _
  refine wp_gfm rfl rfl h3 ?_
  refine wp_i rfl rfl rfl rfl ?_
  refine wp_i rfl rfl rfl rfl ?_
  refine wp_i rfl rfl rfl rfl ?_
  show pm_WP PT fr lo 168 (10, [some (.ref 162), some (.int x)], [.long (((nI c) - 1)).toInt64, .long 0, .long (x).toInt64], h, 198, sl) _
  refine wp_callS (t := 163) (As := [.long (x).toInt64, .long 0, .long (((nI c) - 1)).toInt64]) (rest := []) (mx := 6) rfl rfl rfl rfl (Nat.le_of_ble_eq_true rfl) (Nat.le_of_ble_eq_true rfl) hf (by omega) (wp_mono (hd_in x.toInt64 0 (nI c - 1).toInt64) ?_)
  rintro _ rfl
  show pm_WP PT fr lo 168 (13, [some (.ref 162), some (.int x)], [.int (cond (in_b x.toInt64 0 (nI c - 1).toInt64) 1 0)], h, 198, sl) _
  exact wp_zret rfl rfl (by cases in_b x.toInt64 0 (nI c - 1).toInt64; exact Or.inl rfl; exact Or.inr rfl) rfl
theorem isC_iv {x : Int32} {c : Nat} (hc : c ≤ 6) (q : in_b x.toInt64 0 (nI c - 1).toInt64 = true) : ∃ j, x = nI j ∧ j < c := by
  unfold in_b at q
  rw [Bool.and_eq_true] at q
  have e1 : ¬ x.toInt64 < 0 := by simpa using q.1
  have e2 : ¬ (nI c - 1).toInt64 < x.toInt64 := by simpa using q.2
  rw [Int64.lt_iff_toInt_lt, Int32.toInt_toInt64] at e1
  rw [Int64.lt_iff_toInt_lt, Int32.toInt_toInt64, Int32.toInt_toInt64] at e2
  have n1 : (0 : Int64).toInt = 0 := by decide
  have n2 : ∀ c : Nat, c ≤ 6 → (nI c - 1).toInt = (c : Int) - 1 := by decide
  rw [n1] at e1
  rw [n2 c hc] at e2
  obtain ⟨j, rfl, hj, ej⟩ := hI_of (show 0 ≤ x.toInt by omega)
  exact ⟨j, rfl, by omega⟩
/-- what holds between calls -/
def mInv (h : pm_H) : Prop := ah_ok bB 198 [] h ∧ rxQ h
/-- a call of the reference, of any answer v that A allows -/
def mPost (A : Option Value → Prop) (h : pm_H) (sl : Nat) (x : pm_Rs) : Prop := A x.1 ∧ x.2.2 = (198, sl) ∧ (∀ i, i < 162 → x.2.1 i = h i) ∧ mInv x.2.1
def anInt (v : Option Value) : Prop := ∃ x : Int32, v = some (.int x)
theorem rxQ_dD {C G : Nat → Bool} {h h' : pm_H} (p : dD C G h h') (c1 : C 174 = false) (c2 : C 178 = false) (c3 : C 196 = false) (g1 : G 3 = false) (g2 : G 4 = false) (g3 : G 23 = false) (q : rxQ h) : rxQ h' := by
  obtain ⟨⟨n, dn, f, a1, a2, a3⟩, ⟨c, g, b1, b2, b3⟩, ⟨f1, r1, r2⟩, f2, r3, r4⟩ := q
  exact ⟨⟨n, dn, f, dD_mF p g3 a1, (p.1 174 (by decide) c1).trans a2, a3⟩, ⟨c, g, dD_mF p g1 b1, dD_mF p g2 b2, b3⟩, ⟨f1, (p.1 178 (by decide) c2).trans r1, r2⟩, f2, (p.1 196 (by decide) c3).trans r3, r4⟩
def ruC (i : Nat) : Bool := Nat.beq i 175 || Nat.beq i 174
def ruG (g : Nat) : Bool := Nat.beq g 0 || (Nat.beq g 23 || rDG g)
theorem av_nI {n : Nat} {l u : Int} (h1 : l ≤ (n : Int)) (h2 : (n : Int) ≤ u) (hn : n < 1000000) : av_ok (.int (nI n)) (0, l, u) := ⟨rfl, by rw [nI_toInt (by omega)]; exact h1, by rw [nI_toInt (by omega)]; exact h2⟩
theorem nb_ne {i k : Nat} (h : i ≠ k) : Nat.beq i k = false := by
  cases hb : Nat.beq i k with
  | false => rfl
  | true => exact absurd (Nat.eq_of_beq_eq_true hb) h
theorem ruC_lt {i : Nat} (hi : i < 162) : ruC i = false := by
  unfold ruC
  rw [nb_ne (by omega), nb_ne (by omega)]
  rfl
theorem ru_cell {h : pm_H} {f g : Nat → Int32} {i : Nat} (hi : ruC i = true) (h1 : h 175 = .inl (0, 80, .inl f)) (h2 : h 174 = .inl (0, 80, .inl g)) : ac_ok (h i) (bB i) := by
  unfold ruC at hi
  rw [Bool.or_eq_true] at hi
  rcases hi with hi | hi
  · have := Nat.eq_of_beq_eq_true hi
    subst this
    rw [h1]
    exact ⟨rfl, rfl, fun j _ => ai_top_ok _⟩
  · have := Nat.eq_of_beq_eq_true hi
    subst this
    rw [h2]
    exact ⟨rfl, rfl, fun j _ => ai_top_ok _⟩
theorem ru_fld {h : pm_H} {g a t nn c : Nat} {b : av} {x23 : Value} (hg : ruG g = true) (hb : sp_fld bB [] 162 g = some b) (m0 : mF h 0 (.int 0)) (m15 : mF h 15 (.int 0)) (m16 : mF h 16 (.int (nI a))) (m17 : mF h 17 (.int (nI t))) (m18 : mF h 18 (.int (nI nn))) (m24 : mF h 24 (.int (nI c))) (m23 : mF h 23 x23) (v23 : av_ok x23 (0, 0, 80)) (ha : a ≤ 40) (ht : t ≤ 40) (hn : nn ≤ 4) (hc : c ≤ 40) : ∃ v, mF h g v ∧ av_ok v b := by
  have hg2 : g = 0 ∨ g = 23 ∨ g = 15 ∨ g = 16 ∨ g = 17 ∨ g = 18 ∨ g = 24 := by
    unfold ruG rDG at hg
    simp only [Bool.or_eq_true, Nat.beq_eq] at hg
    omega
  rcases hg2 with rfl | rfl | rfl | rfl | rfl | rfl | rfl
  · cases (Option.some.inj hb : _ = b); exact ⟨_, m0, ⟨rfl, by decide, by decide⟩⟩
  · cases (Option.some.inj hb : _ = b); exact ⟨_, m23, v23⟩
  · cases (Option.some.inj hb : _ = b); exact ⟨_, m15, ⟨rfl, by decide, by decide⟩⟩
  · cases (Option.some.inj hb : _ = b); exact ⟨_, m16, av_nI (by omega) (by omega) (by omega)⟩
  · cases (Option.some.inj hb : _ = b); exact ⟨_, m17, av_nI (by omega) (by omega) (by omega)⟩
  · cases (Option.some.inj hb : _ = b); exact ⟨_, m18, av_nI (by omega) (by omega) (by omega)⟩
  · cases (Option.some.inj hb : _ = b); exact ⟨_, m24, av_nI (by omega) (by omega) (by omega)⟩
theorem hd_rule (hI : mInv h) (hf : 500 ≤ fr) (hl : 12000 ≤ lo) : pm_WP PT fr lo 198 (0, pm_l0 [.ref 162] 2, [], h, 198, sl) (mPost anInt h sl) := by
  obtain ⟨hh, hq⟩ := hI
  obtain ⟨x0, h0, -⟩ := ty_fld hh (g := 0) rfl
  obtain ⟨n, h15, hn⟩ := ty_nat hh (g := 15) (u := 80) rfl (by decide)
  obtain ⟨x16, h16, -⟩ := ty_fld hh (g := 16) rfl
  obtain ⟨x17, h17, -⟩ := ty_fld hh (g := 17) rfl
  obtain ⟨x18, h18, -⟩ := ty_fld hh (g := 18) rfl
  obtain ⟨x24, h24, -⟩ := ty_fld hh (g := 24) rfl
  have h14 := ty_ref hh (g := 14) (p := 172) rfl
  have h22 := ty_ref hh (g := 22) (p := 175) rfl
  have h21 := ty_ref hh (g := 21) (p := 174) rfl
  obtain ⟨tp, hA, -⟩ := ty_arr hh (i := 172) (by decide) rfl rfl (by decide)
  obtain ⟨rc, hR, -⟩ := ty_arr hh (i := 175) (by decide) rfl rfl (by decide)
  obtain ⟨cd, hC, -⟩ := ty_arr hh (i := 174) (by decide) rfl rfl (by decide)
  refine wp_i rfl rfl rfl rfl ?_
  refine wp_i rfl rfl rfl rfl ?_
  show pm_WP PT fr lo 198 (2, [some (.ref 162), none], [.int 0, .ref 162], h, 198, sl) _
  refine wp_pfm rfl rfl rfl (by decide) h0 ?_
  refine wp_i rfl rfl rfl rfl ?_
  show pm_WP PT fr lo 198 (6, [some (.ref 162), none], [.ref 162], (mset h 0 (.int 0)), 198, sl) _
  refine wp_callM (t := 196) (As := []) (rest := []) (mx := 3) rfl rfl rfl rfl (Nat.le_of_ble_eq_true rfl) (Nat.le_of_ble_eq_true rfl) (by omega) (by omega) rfl (mF_obj (mF_self h0)) (wp_mono (hd_readsRule (n := n) (mF_ne (by decide) h15) (mF_ne (by decide) h16) (mF_ne (by decide) h17) (mF_ne (by decide) h18) (mF_ne (by decide) h24) (mF_ne (by decide) h14) (mset_arr (by decide) hA) (mF_ne (by decide) h22) (mset_arr (by decide) hR) hn (by omega) (by omega)) ?_)
  rintro _ ⟨f, h2, a, t, nn, c, rc2, tp2, rfl, d2, s2, m15, ha, ht, hnn, hc, f1, f2, f3⟩
  obtain ⟨p1, p2, p3, p4, p5, p6, p7, p8⟩ := s2
  have d0 : dD ruC ruG h h2 := dD_tr (dD_set rfl) (dD_mono d2 (fun i q => by unfold ruC at q; rw [Bool.or_eq_false_iff] at q; exact q.1) (fun g q => by unfold ruG at q; rw [Bool.or_eq_false_iff, Bool.or_eq_false_iff] at q; exact q.2.2))
  have m0 : mF h2 0 (.int 0) := dD_mF d2 rfl (mF_self h0)
  have m21 : mF h2 21 (.ref 174) := dD_mF d2 rfl (mF_ne (by decide) h21)
  obtain ⟨x23, h23, v23⟩ := ty_fld hh (g := 23) rfl
  have m23 : mF h2 23 x23 := dD_mF d2 rfl (mF_ne (by decide) h23)
  have mC : h2 174 = .inl (0, 80, .inl cd) := (d2.1 174 (by decide) rfl).trans (mset_arr (by decide) hC)
  refine wp_i rfl rfl rfl rfl ?_
  refine wp_i rfl rfl rfl rfl ?_
  show pm_WP PT fr lo 198 (11, [some (.ref 162), some (.int f)], [.int f], h2, 198, sl) _
  refine wp_if (c := .ne) (off := 15) (t := 26) rfl rfl (fun q => ?_) (fun q => ?_)
  · have q : ¬ f = 0 := (rs_t (P := ¬ f = 0) rfl).1 q
    refine wp_i rfl rfl rfl rfl ?_
    show pm_WP PT fr lo 198 (27, [some (.ref 162), some (.int f)], [.int f], h2, 198, sl) _
    refine wp_iret rfl rfl ?_
    have dq : dD rDC (fun g => Nat.beq g 0 || rDG g) h h2 := dD_tr (dD_set rfl) (dD_mono d2 (fun _ q => q) (fun g q => by rw [Bool.or_eq_false_iff] at q; exact q.2))
    refine ⟨⟨f, rfl⟩, rfl, fun i hi => (d0).1 i (by omega) (ruC_lt hi), dD_ty hh d0 (fun i hi _ _ => ?_) (fun g hg b hb => ?_), rxQ_dD dq rfl rfl rfl rfl rfl rfl hq⟩
    · exact ru_cell hi p8 mC
    · exact ru_fld hg hb m0 m15 p1 p2 p5 p6 m23 v23 ha ht hnn hc
  · have q : f = 0 := Decidable.not_not.mp ((rs_t (P := ¬ f = 0) rfl).2 q)
    refine wp_i rfl rfl rfl rfl ?_
    refine wp_i rfl rfl rfl rfl ?_
    show pm_WP PT fr lo 198 (16, [some (.ref 162), some (.int f)], [.ref 162, .ref 162], h2, 198, sl) _
    refine wp_gfm rfl rfl p7 ?_
    refine wp_i rfl rfl rfl rfl ?_
    show pm_WP PT fr lo 198 (20, [some (.ref 162), some (.int f)], [.ref 162, .ref 175, .ref 162], h2, 198, sl) _
    refine wp_gfm rfl rfl p6 ?_
    show pm_WP PT fr lo 198 (23, [some (.ref 162), some (.int f)], [.int (nI c), .ref 175, .ref 162], h2, 198, sl) _
    refine wp_callM (t := 197) (As := [.ref 175, .int (nI c)]) (rest := []) (mx := 4) rfl rfl rfl rfl (Nat.le_of_ble_eq_true rfl) (Nat.le_of_ble_eq_true rfl) (by omega) (by omega) rfl (mF_obj m21) (wp_mono (hd_lays175 (f := rc2) (g := cd) (n := c) (by omega) m23 m21 p8 mC) ?_)
    rintro _ ⟨g2, rfl, hg2⟩
    refine wp_i rfl rfl rfl rfl ?_
    show pm_WP PT fr lo 198 (27, [some (.ref 162), some (.int f)], [.int f], (aset (mset h2 23 (.int (nI c))) 174 80 g2), 198, sl) _
    refine wp_iret rfl rfl ?_
    have d3 : dD ruC ruG h (aset (mset h2 23 (.int (nI c))) 174 80 g2) := dD_tr (dD_tr d0 (dD_set rfl)) (dD_arr rfl (by decide))
    obtain ⟨q1, ⟨qc, qg, qb1, qb2, qb3⟩, ⟨qf, qr1, qr2⟩, qf2, qr3, qr4⟩ := hq
    have hq2 : rxQ (aset (mset h2 23 (.int (nI c))) 174 80 g2) := ⟨⟨c, 1, g2, mF_as (by decide) (mF_self m23), aset_self _ _ _ _, by omega, (f3 q).imp id (fun e => ⟨by rw [dep_cong hg2]; exact e, Nat.le_refl _⟩)⟩, ⟨qc, qg, dD_mF d3 rfl qb1, dD_mF d3 rfl qb2, qb3⟩, ⟨qf, (d3.1 178 (by decide) rfl).trans qr1, qr2⟩, qf2, (d3.1 196 (by decide) rfl).trans qr3, qr4⟩
    refine ⟨⟨f, rfl⟩, rfl, fun i hi => (d3).1 i (by omega) (ruC_lt hi), dD_ty hh d3 (fun i hi _ _ => ?_) (fun g hg b hb => ?_), hq2⟩
    · exact ru_cell (h := aset (mset h2 23 (.int (nI c))) 174 80 g2) hi (aset_ne (by decide) (mset_arr (by decide) p8)) (aset_self _ _ _ _)
    · exact ru_fld hg hb (mF_as (by decide) (mF_ne (by decide) m0)) (mF_as (by decide) (mF_ne (by decide) m15)) (mF_as (by decide) (mF_ne (by decide) p1)) (mF_as (by decide) (mF_ne (by decide) p2)) (mF_as (by decide) (mF_ne (by decide) p5)) (mF_as (by decide) (mF_ne (by decide) p6)) (mF_as (by decide) (mF_self m23)) (av_nI (l := 0) (u := 80) (by omega) (by omega) (by omega)) ha ht hnn hc
end RLE
end MG55keepx3
end MH47cx09x7
section MH47cx09x8
/-! cuts and joins of the reference -/
def rxPL : List (List (Nat × List (Nat × List sp))) := [[(2, [(0, [(0, 0, 0, 0, [(-1), 0, 1, 2, 3])])]), (5, [(0, [(0, 3, 0, 0, [(-1), 0, 1, 2])])])], [], [], [], [(71, [(0, [(0, 0, 0, 0, [41, 42, 43, 44, 45, 59, 60, 61, 62])])])], [(91, [(44, [(0, 2, 0, 0, [(-1), 0, 1, 2, 3, 4, 5])])]), (92, [(27, [(0, 3, 0, 0, [(-1), 0, 1, 2])])]), (93, [(19, [(0, 2, 0, 0, [(-1), 0, 1, 2, 3, 4, 5])])])], [], [(127, [(0, [(0, 1, 0, 0, [(-1), 0, 1, 2, 3, 4, 5, 6, 7, 8, 9, 10, 11, 12])])])], [(135, [(0, [(0, 0, 0, 0, [101, 102, 103, 104, 105, 106, 107, 108, 109, 110, 111, 112, 113, 114, 115])])])], [(157, [(0, [(0, 0, 0, 0, [(-1), 0, 1])])])], [(163, [(6, [(0, 4, 0, 0, [(-1), 0, 1, 2, 3, 4, 5, 6]), (0, 0, 0, 0, [(-2), (-1), 0, 1, 2, 3, 4, 5, 6])])]), (165, [(0, [(0, 0, 0, 0, [(-1), 0])])]), (170, [(16, [(0, 1, 0, 0, [(-1), 0, 1, 2, 3, 4, 5]), (0, 2, 0, 0, [(-1), 0, 1, 2, 3, 4, 5])])]), (174, [(5, [(0, 4, 0, 0, [(-1), 0, 1, 2, 3, 4, 5, 6, 7]), (1, 0, 4, 0, [0, 1, 2, 3, 4, 5, 6, 7])])]), (175, [(0, [(0, 1, 0, 0, [(-1), 5])])])], [(176, [(0, [(0, 1, 0, 0, [(-1), 5])])]), (177, [(4, [(0, 3, 0, 0, [(-1), 0, 1, 2, 3, 4, 5]), (1, 0, 3, 0, [0, 1, 2, 3, 4, 5])])]), (178, [(5, [(1, 0, 15, 0, [76])])]), (179, [(0, [(0, 1, 0, 0, [(-1), 80])])]), (186, [(0, [(0, 3, 0, 0, [(-1), 0])]), (4, [(1, 0, 16, 0, [(-1), 0, 3, 4, 5, 6, 11, 12, 13, 19, 20, 25, 26, 27, 28, 33, 34, 39, 40, 41, 55, 56, 59, 60]), (1, 0, 17, 0, [(-1), 0, 3, 4, 5, 6, 11, 12, 13, 19, 20, 25, 26, 27, 28, 33, 34, 39, 40, 41, 55, 56, 59, 60])]), (22, [(0, 1, 0, 0, [41, 55, 60])]), (27, [(0, 4, 0, 0, [(-1), 0])]), (32, [(1, 0, 16, 0, [40, 54, 59])]), (44, [(0, 4, 0, 0, [(-1), 0])])]), (188, [(19, [(0, 1, 0, 0, [0])]), (29, [(0, 3, 0, 0, [(-1), 0])]), (70, [(0, 4, 0, 0, [(-1)])])])], [(192, [(19, [(0, 1, 0, 0, [0])]), (29, [(0, 3, 0, 0, [(-1), 0])]), (70, [(0, 4, 0, 0, [(-1)])])]), (199, [(0, [(0, 0, 0, 0, [(-1), 0, 1, 2, 3, 4, 5])])]), (202, [(4, [(0, 3, 0, 0, [(-1), 0, 1, 2, 3, 4, 5]), (1, 0, 3, 0, [0, 1, 2, 3, 4, 5])])]), (203, [(4, [(0, 3, 0, 0, [(-1), 0, 1, 2, 3, 4, 5]), (1, 0, 3, 0, [0, 1, 2, 3, 4, 5])])]), (204, [(4, [(0, 3, 0, 0, [(-1), 0, 1, 2, 3, 4, 5]), (1, 0, 3, 0, [0, 1, 2, 3, 4, 5])])]), (205, [(4, [(0, 3, 0, 0, [(-1), 0, 1, 2, 3, 4, 5]), (1, 0, 3, 0, [0, 1, 2, 3, 4, 5])])]), (206, [(13, [(0, 2, 0, 0, [(-1), 5])]), (25, [(0, 2, 0, 0, [9, 14])]), (44, [(0, 2, 0, 0, [(-1), 0, 1, 2, 3, 4, 5])])]), (207, [(14, [(0, 3, 0, 0, [(-1), 2])]), (44, [(0, 3, 0, 0, [(-1), 0])]), (60, [(0, 3, 0, 0, [0, 1])]), (77, [(0, 4, 0, 0, [(-1), 0])])])], [(208, [(13, [(0, 2, 0, 0, [(-1), 5])]), (30, [(0, 2, 0, 0, [(-1), 0, 1, 2, 3, 4])])]), (209, [(14, [(0, 3, 0, 0, [(-1), 9])])]), (210, [(5, [(0, 1, 0, 0, [(-1), 3])]), (17, [(0, 2, 0, 0, [6])]), (25, [(0, 1, 0, 0, [2, 3])]), (30, [(0, 2, 0, 0, [(-1)])]), (43, [(0, 6, 0, 0, [(-1), 0, 1, 2, 3, 4, 5]), (1, 0, 3, 0, [0, 1, 2, 3, 4, 5])]), (52, [(0, 1, 0, 0, [(-1), 0])]), (62, [(0, 1, 0, 0, [0, 1])]), (83, [(0, 1, 0, 0, [2, 3])]), (88, [(0, 6, 0, 0, [(-2147483649), 0, 1, 2, 3, 4, 2147483646]), (0, 2, 0, 0, [0, 1, 2, 3, 4, 5])]), (124, [(0, 1, 0, 0, [2, 3])])]), (211, [(0, [(1, 0, 27, 0, [0, 1, 2, 3, 4, 5, 6, 7, 8, 9, 10, 11, 12, 13, 14])])]), (213, [(0, [(0, 1, 0, 0, [(-1)])])]), (214, [(0, [(1, 0, 27, 0, [0, 1, 2, 3, 4, 5, 6, 7, 8, 9, 10, 11, 12, 13, 14])])]), (216, [(0, [(0, 1, 0, 0, [(-1), 0])])]), (217, [(26, [(0, 4, 0, 0, [(-1), 0, 1, 2, 3, 4, 5]), (0, 3, 0, 0, [(-1), 0, 1, 2, 3, 4, 5])]), (95, [(0, 5, 0, 0, [(-1), 0])]), (134, [(0, 5, 0, 0, [(-1), 0])])]), (219, [(2, [(0, 2, 0, 0, [(-1), 0, 1, 2, 3, 4, 5]), (1, 0, 3, 0, [0, 1, 2, 3, 4, 5])]), (39, [(0, 2, 0, 0, [(-1), 0, 1, 2, 3, 4, 5, 6, 7]), (1, 0, 4, 0, [0, 1, 2, 3, 4, 5, 6, 7])])]), (220, [(9, [(0, 3, 0, 0, [(-10), 9])]), (23, [(0, 3, 0, 0, [(-1), 0])])]), (221, [(36, [(0, 4, 0, 0, [(-1), 0])])]), (222, [(17, [(3, 1, 0, 0, [(-1), 7]), (3, 0, 0, 0, [(-1), 5])]), (24, [(0, 3, 0, 0, [(-1)])])]), (223, [(5, [(0, 1, 0, 0, [(-1), 60])]), (33, [(0, 3, 0, 0, [(-1), 0, 1, 2, 3, 4, 5, 6, 7, 8, 9, 10, 11, 12, 13, 14, 15, 16, 17, 18, 19, 20, 21, 59]), (0, 1, 0, 0, [0, 1, 2, 3, 4, 5, 6, 7, 8, 9, 10, 11, 12, 13, 14, 15, 16, 17, 18, 19, 20, 21, 22, 23])])])], [(224, [(14, [(3, 2, 0, 0, [(-1), 5]), (3, 1, 0, 0, [(-1), 5])])]), (225, [(13, [(3, 1, 0, 0, [(-1), 5]), (3, 0, 0, 0, [(-1), 5])])]), (227, [(59, [(3, 1, 0, 0, [(-1), 7]), (3, 0, 0, 0, [(-1), 5])]), (74, [(0, 4, 0, 0, [(-2), 0, 1, 2, 3, 4, 5, 6, 7, 8]), (0, 2, 0, 0, [0, 1, 2, 3, 4, 5, 6, 7, 8])]), (99, [(3, 1, 0, 0, [(-1), 5]), (3, 0, 0, 0, [(-1), 5])]), (120, [(3, 2, 0, 0, [(-1), 5]), (3, 1, 0, 0, [(-1), 5])]), (142, [(3, 2, 0, 0, [(-1), 5]), (3, 1, 0, 0, [(-1), 5])])]), (228, [(23, [(1, 0, 16, 0, [(-1), 0, 59]), (1, 0, 17, 0, [0])]), (51, [(0, 3, 0, 0, [(-1)])]), (64, [(0, 4, 0, 0, [(-1), 0, 1, 2, 3, 4, 5, 6, 7, 8, 9, 10, 11, 12, 13, 14, 15, 16, 17, 18, 19, 20, 29, 34]), (1, 0, 35, 0, [0, 1, 2, 3, 4, 5, 6, 7, 8, 9, 10, 11, 12, 13, 14, 15, 16, 17, 18, 19, 20, 21, 22, 23])]), (94, [(0, 4, 0, 0, [(-1), 34])]), (130, [(0, 4, 0, 0, [0])])]), (231, [(28, [(0, 5, 0, 0, [(-1), 0, 1, 2, 3, 4, 5]), (1, 0, 3, 0, [0, 1, 2, 3, 4, 5])]), (64, [(0, 6, 0, 0, [(-1), 999])]), (99, [(0, 2, 0, 0, [(-1)])])]), (232, [(28, [(0, 6, 0, 0, [(-1), 0, 1, 2, 3, 4, 5, 6, 7]), (1, 0, 4, 0, [0, 1, 2, 3, 4, 5, 6, 7])]), (63, [(3, 1, 0, 0, [(-1), 7]), (3, 0, 0, 0, [(-1), 5])]), (68, [(0, 7, 0, 0, [0, 20])]), (75, [(0, 7, 0, 0, [(-2), (-1), 20])])]), (233, [(35, [(3, 1, 0, 0, [(-1), 7]), (3, 0, 0, 0, [(-1), 5])]), (78, [(0, 6, 0, 0, [(-1), 0, 999999]), (1, 0, 38, 0, [0])]), (126, [(0, 6, 0, 0, [(-1), 0, 1, 2, 3, 4, 5, 6, 7]), (1, 0, 4, 0, [0, 1, 2, 3, 4, 5, 6, 7])])]), (234, [(39, [(1, 0, 38, 0, [999999])])]), (235, [(19, [(0, 3, 0, 0, [(-1), 0, 1, 2, 3, 4, 5]), (1, 0, 3, 0, [0, 1, 2, 3, 4, 5])]), (53, [(0, 5, 0, 0, [(-1), 0, 1, 2, 3, 4, 5]), (1, 0, 3, 0, [0, 1, 2, 3, 4, 5])]), (62, [(0, 4, 0, 0, [(-1), 0])]), (125, [(0, 4, 0, 0, [(-1), 0])])]), (236, [(17, [(0, 5, 0, 0, [(-1), 0, 1, 2, 3, 4, 5, 6, 7]), (1, 0, 4, 0, [0, 1, 2, 3, 4, 5, 6, 7])]), (32, [(0, 6, 0, 0, [(-1), 1, 2, 3, 4, 5, 6, 7]), (1, 0, 4, 0, [1, 2, 3, 4, 5, 6, 7])]), (119, [(0, 7, 0, 0, [(-1), 5])]), (126, [(0, 9, 0, 0, [0])]), (131, [(0, 10, 0, 0, [0])]), (179, [(0, 1, 0, 0, [0])])]), (237, [(2, [(0, 2, 0, 0, [(-1), 0, 1, 2, 3, 4, 5]), (1, 0, 3, 0, [0, 1, 2, 3, 4, 5])]), (15, [(0, 2, 0, 0, [(-1), 0, 1, 2, 3, 5]), (0, 1, 0, 0, [(-1), 0, 1, 2, 3, 4])]), (36, [(0, 2, 0, 0, [(-1), 0, 1, 2, 3, 4, 5]), (1, 0, 3, 0, [0, 1, 2, 3, 4, 5])]), (46, [(0, 3, 0, 0, [(-1), 0, 1, 2, 3, 4, 5]), (1, 0, 3, 0, [0, 1, 2, 3, 4, 5])]), (57, [(0, 4, 0, 0, [(-1), 0, 1, 2, 3, 4, 5]), (1, 0, 3, 0, [0, 1, 2, 3, 4, 5])]), (85, [(0, 5, 0, 0, [0])])]), (239, [(21, [(0, 3, 0, 0, [(-1), 9])]), (33, [(0, 4, 0, 0, [(-1), 99])]), (112, [(0, 6, 0, 0, [(-1), 0, 1, 2, 3, 4, 5]), (1, 0, 3, 0, [0, 1, 2, 3, 4, 5])]), (139, [(0, 8, 0, 0, [(-1), 0, 1, 2, 3, 4, 5]), (1, 0, 3, 0, [0, 1, 2, 3, 4, 5])]), (148, [(0, 7, 0, 0, [(-1)])]), (168, [(0, 9, 0, 0, [0])]), (173, [(5, 5, 91, 9, [0, 1, 2, 3, 4, 5, 6, 7, 8])])])], [(240, [(21, [(0, 3, 0, 0, [(-1), 10])]), (40, [(4, 0, 39, 1, [12])])]), (241, [(49, [(1, 0, 41, 0, [(-1), 0])])]), (242, [(25, [(0, 2, 0, 0, [(-1)])])]), (243, [(27, [(0, 5, 0, 0, [(-1), 0, 1, 2, 3, 4, 5, 6, 7]), (1, 0, 4, 0, [0, 1, 2, 3, 4, 5, 6, 7])]), (85, [(0, 6, 0, 0, [0])]), (90, [(0, 6, 0, 0, [(-2), 0, 999999])]), (110, [(0, 3, 0, 0, [(-1)])])]), (245, [(9, [(0, 2, 0, 0, [(-1), 0, 1, 2, 3, 4, 5]), (1, 0, 3, 0, [0, 1, 2, 3, 4, 5])]), (74, [(0, 3, 0, 0, [(-1), 0, 1, 2, 3, 4, 5]), (1, 0, 3, 0, [0, 1, 2, 3, 4, 5])])]), (246, [(9, [(0, 1, 0, 0, [1, 2, 3, 4, 5, 6]), (1, 0, 46, 0, [2, 3, 4, 5, 6])]), (83, [(0, 4, 0, 0, [(-1), 1, 2, 3, 4, 5]), (1, 0, 3, 0, [1, 2, 3, 4, 5])]), (95, [(1, 0, 46, 0, [2, 3, 4, 5, 6])])]), (247, [(13, [(0, 1, 0, 0, [(-1), 0, 1, 2, 3, 4, 5]), (1, 0, 3, 0, [0, 1, 2, 3, 4, 5])]), (42, [(1, 0, 46, 0, [6])]), (65, [(0, 2, 0, 0, [1, 2, 3, 4, 5]), (1, 0, 46, 0, [2, 3, 4, 5])])]), (248, [(4, [(0, 3, 0, 0, [(-1), 0, 1, 2, 3, 4, 5]), (1, 0, 3, 0, [0, 1, 2, 3, 4, 5])]), (13, [(0, 3, 0, 0, [(-1), 0, 1, 2, 3, 5]), (0, 1, 0, 0, [(-1), 0, 1, 2, 3, 4])])]), (249, [(5, [(1, 0, 3, 0, [(-1), 0])]), (26, [(0, 3, 0, 0, [(-1), 0, 1, 2, 3, 4, 5]), (1, 0, 3, 0, [0, 1, 2, 3, 4, 5])]), (40, [(0, 5, 0, 0, [(-1), 0, 1, 2, 3, 4, 5]), (1, 0, 3, 0, [0, 1, 2, 3, 4, 5])]), (58, [(0, 4, 0, 0, [(-1)])])]), (250, [(39, [(0, 4, 0, 0, [(-1), 0, 1, 2, 3, 4, 5]), (1, 0, 3, 0, [0, 1, 2, 3, 4, 5])]), (48, [(0, 3, 0, 0, [(-1), 0])]), (93, [(0, 3, 0, 0, [(-1), 0])])]), (251, [(5, [(0, 1, 0, 0, [(-1), 0])]), (13, [(0, 1, 0, 0, [0, 1])]), (23, [(0, 1, 0, 0, [1, 2])]), (34, [(0, 1, 0, 0, [(-1), 3])]), (48, [(0, 1, 0, 0, [0, 1])]), (70, [(1, 0, 47, 0, [11, 12])])]), (253, [(0, [(0, 2, 0, 0, [(-1), 0, 1, 2])])]), (254, [(4, [(0, 2, 0, 0, [(-1), 0, 1, 2, 3, 4, 5, 6, 7]), (1, 0, 4, 0, [0, 1, 2, 3, 4, 5, 6, 7])]), (17, [(0, 4, 0, 0, [(-1), 0, 1, 2, 3, 4, 5, 6, 7, 8, 9, 10, 11]), (1, 0, 47, 0, [0, 1, 2, 3, 4, 5, 6, 7, 8, 9, 10, 11])]), (26, [(0, 3, 0, 0, [(-1), 0])]), (65, [(0, 3, 0, 0, [(-1), 0])])]), (255, [(14, [(0, 3, 0, 0, [(-1), 0, 1, 2, 3, 4, 5, 6, 7]), (1, 0, 4, 0, [0, 1, 2, 3, 4, 5, 6, 7])])])], [(256, [(10, [(0, 1, 0, 0, [(-1), 0])]), (26, [(0, 4, 0, 0, [(-1), 0, 1, 2, 3, 4, 5]), (1, 0, 3, 0, [0, 1, 2, 3, 4, 5])]), (41, [(0, 6, 0, 0, [(-1), 0, 1, 2, 3, 4, 5, 6, 7]), (1, 0, 4, 0, [0, 1, 2, 3, 4, 5, 6, 7])]), (110, [(0, 6, 0, 0, [(-1), 999999])])]), (259, [(0, [(0, 0, 0, 0, [0, 9])]), (9, [(0, 0, 0, 0, [(-1), 9])])]), (260, [(12, [(0, 3, 0, 0, [(-1), 0])])]), (261, [(5, [(0, 1, 0, 0, [(-1), 20])]), (37, [(0, 4, 0, 0, [9])])]), (263, [(5, [(0, 2, 0, 0, [0, 60])]), (33, [(0, 4, 0, 0, [0, 1, 2, 3, 4, 5, 6, 7, 8, 9, 10, 11, 12, 13, 14, 15, 16, 17, 18, 19, 20, 21, 22, 59]), (0, 2, 0, 0, [1, 2, 3, 4, 5, 6, 7, 8, 9, 10, 11, 12, 13, 14, 15, 16, 17, 18, 19, 20, 21, 22, 23, 24])]), (58, [(1, 0, 4, 0, [0])]), (91, [(3, 1, 0, 0, [(-1), 7]), (3, 0, 0, 0, [(-1), 5])]), (119, [(0, 5, 0, 0, [0, 1, 2, 3, 4, 5]), (1, 0, 3, 0, [1, 2, 3, 4, 5])]), (131, [(0, 6, 0, 0, [0, 1, 2, 3, 4, 5]), (1, 0, 3, 0, [1, 2, 3, 4, 5])])]), (264, [(5, [(0, 1, 0, 0, [(-1), 2])])]), (265, [(5, [(0, 1, 0, 0, [(-1), 2])])]), (266, [(4, [(0, 3, 0, 0, [(-1), 0, 1, 2, 3, 4, 5]), (1, 0, 3, 0, [0, 1, 2, 3, 4, 5])]), (17, [(0, 4, 0, 0, [(-1), 1, 2, 3, 4, 5]), (1, 0, 3, 0, [1, 2, 3, 4, 5])]), (27, [(0, 1, 0, 0, [(-1), 0])]), (44, [(0, 1, 0, 0, [0, 1])])]), (267, [(5, [(0, 1, 0, 0, [(-1), 0, 1, 2, 3, 4, 5, 6, 7, 8, 9, 10, 11, 12])]), (123, [(0, 3, 0, 0, [(-1), 0, 1, 2, 3, 4, 5]), (1, 0, 3, 0, [0, 1, 2, 3, 4, 5])])]), (268, [(0, [(0, 1, 0, 0, [(-1), 127])])]), (269, [(8, [(0, 0, 0, 0, [0])]), (19, [(0, 0, 0, 0, [65536])]), (34, [(0, 0, 0, 0, [256])]), (49, [(0, 0, 0, 0, [16])]), (62, [(0, 0, 0, 0, [4])])])]]
def rxJL : List (List (Nat × List Nat × List ap)) := [[(2, ([1], [])), (5, ([1], []))], [], [], [], [(71, ([1], []))], [(91, ([45], [])), (92, ([28], [])), (93, ([20], []))], [], [(127, ([1], []))], [(135, ([1], []))], [(157, ([1], []))], [(163, ([7, 9, 10], [])), (165, ([1], [])), (170, ([17, 18], [])), (174, ([7, 8, 11], [])), (175, ([1, 2], []))], [(176, ([1, 2], [])), (177, ([5, 6, 9], [])), (178, ([6, 9, 11], [])), (179, ([1, 2, 5, 6, 7, 8, 9, 12, 13, 16, 19, 20, 21, 22, 23, 26, 27], [])), (186, ([1, 5, 8, 9, 12, 23, 24, 29, 33, 36, 37, 46], [])), (187, ([], [(2, 162, 16, 100000, 0), (2, 162, 20, 100000, 0)])), (188, ([20, 30, 72], [(2, 162, 16, 100000, 0), (2, 162, 20, 100000, 0)])), (191, ([], [(2, 162, 16, 100000, 0), (2, 162, 20, 100000, 0)]))], [(192, ([20, 30, 72], [(2, 162, 16, 100000, 0), (2, 162, 20, 100000, 0)])), (199, ([1], [])), (202, ([5, 6, 9], [])), (203, ([5, 6, 9], [])), (204, ([5, 6, 9], [])), (205, ([5, 6, 9], [])), (206, ([14, 15, 16, 19, 22, 26, 27, 30, 33, 36, 45], [(1, 2, 0, 100000, 5), (1, 2, 0, 100000, (-1))])), (207, ([15, 16, 17, 20, 23, 45, 61, 62, 79], []))], [(208, ([14, 15, 16, 19, 22, 31], [])), (209, ([15, 16, 17, 20, 23], [])), (210, ([6, 7, 8, 11, 14, 18, 20, 26, 27, 31, 45, 46, 49, 53, 63, 64, 84, 85, 90, 91, 125, 126], [])), (211, ([], [(2, 162, 27, 100000, 0)])), (213, ([1], [])), (214, ([], [(2, 162, 27, 100000, 0)])), (216, ([1], [])), (217, ([28, 29, 97, 136], [(9, 0, 0, 100000, 0)])), (219, ([3, 4, 7, 40, 41, 44], [])), (220, ([10, 11, 14, 17, 20, 24], [])), (221, ([38], [])), (222, ([25], [])), (223, ([6, 7, 8, 11, 14, 34, 35], []))], [(226, ([0, 1, 4, 5, 6, 9, 10, 11, 14, 17, 18, 19, 20, 23, 24, 25, 28, 29, 32, 33, 34, 37, 38, 39, 40, 43, 44, 45, 46, 49, 50, 51, 54, 55, 56, 59, 60, 63, 64, 65, 66, 69, 70, 73, 74, 75, 78, 79, 82, 83, 84, 85, 88, 89, 90, 91, 94, 95, 96, 99, 100, 101, 104, 105, 108, 109, 110, 111, 114, 115, 118, 119, 120, 123, 124, 127, 128, 129, 130, 133, 134, 135, 136, 138, 141, 142, 143, 146, 147, 148, 151, 152, 155, 156], [(2, 162, 35, 100000, 0)])), (227, ([76, 77], [])), (228, ([24, 27, 28, 31, 38, 52, 66, 67, 70, 96, 97, 100, 132], [(2, 162, 35, 50, 0), (0, 2, 0, 50, 0)])), (231, ([30, 31, 34, 66, 67, 100], [])), (232, ([30, 31, 34, 66, 70, 72, 77, 79], [(1, 3, 0, 100000, (-1)), (1, 7, 0, 110, (-1))])), (233, ([80, 81, 84, 128, 129, 132], [])), (234, ([40, 43, 46], [])), (235, ([20, 21, 24, 55, 56, 59, 64, 127], [])), (236, ([19, 20, 23, 34, 35, 38, 121, 123, 128, 133, 180], [])), (237, ([3, 4, 7, 16, 17, 37, 38, 41, 47, 48, 51, 59, 60, 63, 87], [])), (239, ([22, 23, 24, 27, 30, 35, 36, 37, 40, 43, 114, 115, 118, 141, 142, 145, 150, 170, 175, 177, 178, 180], []))], [(240, ([22, 23, 24, 27, 30, 41, 44, 45, 46, 48], [])), (241, ([50, 53], [])), (242, ([26], [])), (243, ([29, 30, 33, 87, 92, 94, 111], [])), (245, ([10, 11, 14, 75, 76, 79], [])), (246, ([10, 11, 14, 85, 86, 89, 96, 99], [])), (247, ([14, 15, 18, 43, 46, 48, 66, 67, 70], [])), (248, ([5, 6, 9, 14, 15], [])), (249, ([6, 9, 27, 28, 31, 42, 43, 46, 60], [])), (250, ([41, 42, 45, 49, 94], [])), (251, ([6, 14, 15, 24, 25, 35, 36, 37, 40, 43, 49, 50, 71, 74, 76], [])), (253, ([1], [])), (254, ([5, 6, 9, 19, 20, 23, 27, 66], [])), (255, ([15, 16, 19], []))], [(256, ([11, 28, 29, 32, 43, 44, 47, 112, 113], [])), (259, ([1, 2, 10, 11], [])), (260, ([13], [])), (261, ([6, 7, 8, 11, 14, 39, 41], [(1, 2, 0, 100000, 0)])), (263, ([6, 7, 8, 11, 14, 35, 36, 59, 62, 121, 122, 125, 133, 134, 137], [])), (264, ([6, 7, 8, 11, 14], [])), (265, ([6, 7, 8, 11, 14], [])), (266, ([5, 6, 9, 19, 20, 23, 28, 45, 46], [])), (267, ([6, 124, 125, 128], [])), (268, ([1, 2, 5, 6, 7, 8, 9, 12, 13, 14, 15, 18, 21, 22, 23, 26, 27, 28, 29, 32, 33, 34], [])), (269, ([9, 20, 23, 35, 38, 50, 52, 63, 64], []))]]
abbrev rxP : Nat → Nat → List sp := spT rxPL
abbrev rxJ : Nat → ast → ast → Bool := jn rxJL
abbrev rxjo : Nat → ar → ar → Bool := jno rxJL
end MH47cx09x8
