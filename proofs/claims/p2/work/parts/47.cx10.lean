/-! contracts -/
def cxt163 : con := (51, [(2, 148, 1), (0, 95, 95), (0, 0, 5), (0, (-2147483648), 2147483647), (0, (-2147483648), 2147483647)], [], [none], [], 5, 400, false)
theorem cxk163 : con_chk (kl bB cxF []) PT bB 198 cxF cxJ cxjo cxP 1016 cxt163 = true := fq_chk1 (fq_jn_eq _) rfl (by decide +kernel)   -- X4_goOn
theorem cxo163 : con_ok PT bB 198 cxF cxQ cxt163 := con_chk_ok (fun _ _ h => h) cxpp (kl_ok (fun _ h => (by cases h))) nw_class (fun h => by cases h) cxk163
def cxt164 : con := (51, [(2, 148, 1), (0, 96, 96), (0, 0, 5), (0, (-2147483648), 2147483647), (0, (-2147483648), 2147483647)], [], [none], [], 5, 400, false)
theorem cxk164 : con_chk (kl bB cxF []) PT bB 198 cxF cxJ cxjo cxP 1016 cxt164 = true := fq_chk1 (fq_jn_eq _) rfl (by decide +kernel)   -- X4_goOn
theorem cxo164 : con_ok PT bB 198 cxF cxQ cxt164 := con_chk_ok (fun _ _ h => h) cxpp (kl_ok (fun _ h => (by cases h))) nw_class (fun h => by cases h) cxk164
def cxt165 : con := (51, [(2, 148, 1), (0, 97, 97), (0, 0, 5), (0, (-2147483648), 2147483647), (0, (-2147483648), 2147483647)], [], [none], [], 5, 400, false)
theorem cxk165 : con_chk (kl bB cxF []) PT bB 198 cxF cxJ cxjo cxP 1016 cxt165 = true := fq_chk1 (fq_jn_eq _) rfl (by decide +kernel)   -- X4_goOn
theorem cxo165 : con_ok PT bB 198 cxF cxQ cxt165 := con_chk_ok (fun _ _ h => h) cxpp (kl_ok (fun _ h => (by cases h))) nw_class (fun h => by cases h) cxk165
def cxt166 : con := (51, [(2, 148, 1), (0, 98, 98), (0, 0, 5), (0, (-2147483648), 2147483647), (0, (-2147483648), 2147483647)], [], [none], [], 5, 400, false)
theorem cxk166 : con_chk (kl bB cxF []) PT bB 198 cxF cxJ cxjo cxP 1016 cxt166 = true := fq_chk1 (fq_jn_eq _) rfl (by decide +kernel)   -- X4_goOn
theorem cxo166 : con_ok PT bB 198 cxF cxQ cxt166 := con_chk_ok (fun _ _ h => h) cxpp (kl_ok (fun _ h => (by cases h))) nw_class (fun h => by cases h) cxk166
def cxt167 : con := (51, [(2, 148, 1), (0, 99, 99), (0, 0, 5), (0, (-2147483648), 2147483647), (0, (-2147483648), 2147483647)], [], [none], [], 5, 400, false)
theorem cxk167 : con_chk (kl bB cxF []) PT bB 198 cxF cxJ cxjo cxP 842 cxt167 = true := fq_chk1 (fq_jn_eq _) rfl (by decide +kernel)   -- X4_goOn
theorem cxo167 : con_ok PT bB 198 cxF cxQ cxt167 := con_chk_ok (fun _ _ h => h) cxpp (kl_ok (fun _ h => (by cases h))) nw_class (fun h => by cases h) cxk167
def cxt168 : con := (51, [(2, 148, 1), (0, 0, 90), (0, 0, 5), (0, (-2147483648), 2147483647), (0, (-2147483648), 2147483647)], [], [none], [], 5, 400, false)
theorem cxk168 : con_chk (kl bB cxF []) PT bB 198 cxF cxJ cxjo cxP 1016 cxt168 = true := fq_chk1 (fq_jn_eq _) rfl (by decide +kernel)   -- X4_goOn
theorem cxo168 : con_ok PT bB 198 cxF cxQ cxt168 := con_chk_ok (fun _ _ h => h) cxpp (kl_ok (fun _ h => (by cases h))) nw_class (fun h => by cases h) cxk168
def cxt170 : con := (55, [(2, 3, 1), (1, 0, 2147483647)], [], [none], [], 10, 800, false)
theorem cxk170 : con_chk (kl bB cxF [cxt96]) PT bB 198 cxF cxJ cxjo cxP 410 cxt170 = true := fq_chk1 (fq_jn_eq _) rfl (by decide +kernel)   -- X5_tellOne
theorem cxo170 : con_ok PT bB 198 cxF cxQ cxt170 := con_chk_ok (fun _ _ h => h) cxpp (kl_ok (List.forall_mem_cons.mpr ⟨cxo96, fun _ h => (by cases h)⟩)) nw_class (fun h => by cases h) cxk170
def cxt171 : con := (60, [(2, 142, 1), (0, (-2147483648), 999)], [], [none], [], 5, 400, false)
theorem cxk171 : con_chk (kl bB cxF []) PT bB 198 cxF cxJ cxjo cxP 421 cxt171 = true := fq_chk1 (fq_jn_eq _) rfl (by decide +kernel)   -- X6_emit
theorem cxo171 : con_ok PT bB 198 cxF cxQ cxt171 := con_chk_ok (fun _ _ h => h) cxpp (kl_ok (fun _ h => (by cases h))) nw_class (fun h => by cases h) cxk171
def cxt172 : con := (59, [(2, 142, 1)], [], [none], [], 10, 800, false)
theorem cxk172 : con_chk (kl bB cxF [cxt171]) PT bB 198 cxF cxJ cxjo cxP 419 cxt172 = true := fq_chk1 (fq_jn_eq _) rfl (by decide +kernel)   -- X6_beFirstRule
theorem cxo172 : con_ok PT bB 198 cxF cxQ cxt172 := con_chk_ok (fun _ _ h => h) cxpp (kl_ok (List.forall_mem_cons.mpr ⟨cxo171, fun _ h => (by cases h)⟩)) nw_class (fun h => by cases h) cxk172
def cxt173 : con := (61, [(2, 142, 1)], [], [some (0, (-1), 65535)], [], 10, 800, true)
theorem cxk173 : con_chk (kl bB cxF [cxt33]) PT bB 198 cxF cxJ cxjo cxP 407 cxt173 = true := fq_chk1 (fq_jn_eq _) rfl (by decide +kernel)   -- X6_nextSign
theorem cxo173 : con_ok PT bB 198 cxF cxQ cxt173 := con_chk_ok (fun _ _ h => h) cxpp (kl_ok (List.forall_mem_cons.mpr ⟨cxo33, fun _ h => (by cases h)⟩)) nw_class (fun _ => by decide) cxk173
def cxt174 : con := (66, [(2, 142, 1)], [], [none], [], 15, 1200, false)
theorem cxk174 : con_chk (kl bB cxF [cxt34, cxt171]) PT bB 198 cxF cxJ cxjo cxP 502 cxt174 = true := fq_chk1 (fq_jn_eq _) rfl (by decide +kernel)   -- X6_readNumber
theorem cxo174 : con_ok PT bB 198 cxF cxQ cxt174 := con_chk_ok (fun _ _ h => h) cxpp (kl_ok (List.forall_mem_cons.mpr ⟨cxo34, List.forall_mem_cons.mpr ⟨cxo171, fun _ h => (by cases h)⟩⟩)) nw_class (fun h => by cases h) cxk174
def cxt175 : con := (65, [(2, 142, 1), (0, 4, 4)], [], [some (0, 0, 1)], [], 20, 1600, false)
theorem cxk175 : con_chk (kl bB cxF [cxt43, cxt171, cxt173, cxt174]) PT bB 198 cxF cxJ cxjo cxP 448 cxt175 = true := fq_chk1 (fq_jn_eq _) rfl (by decide +kernel)   -- X6_readThing
theorem cxo175 : con_ok PT bB 198 cxF cxQ cxt175 := con_chk_ok (fun _ _ h => h) cxpp (kl_ok (List.forall_mem_cons.mpr ⟨cxo43, List.forall_mem_cons.mpr ⟨cxo171, List.forall_mem_cons.mpr ⟨cxo173, List.forall_mem_cons.mpr ⟨cxo174, fun _ h => (by cases h)⟩⟩⟩⟩)) nw_class (fun h => by cases h) cxk175
def cxt176 : con := (64, [(2, 142, 1), (0, 4, 4)], [], [some (0, 0, 1)], [], 25, 2000, false)
theorem cxk176 : con_chk (kl bB cxF [cxt171, cxt173, cxt175]) PT bB 198 cxF cxJ cxjo cxP 1202 cxt176 = true := fq_chk1 (fq_jn_eq _) rfl (by decide +kernel)   -- X6_readSigned
theorem cxo176 : con_ok PT bB 198 cxF cxQ cxt176 := con_chk_ok (fun _ _ h => h) cxpp (kl_ok (List.forall_mem_cons.mpr ⟨cxo171, List.forall_mem_cons.mpr ⟨cxo173, List.forall_mem_cons.mpr ⟨cxo175, fun _ h => (by cases h)⟩⟩⟩)) nw_class (fun h => by cases h) cxk176
def cxt177 : con := (62, [(2, 142, 1), (0, 3, 3), (0, 4, 4)], [], [some (0, 0, 1)], [], 30, 2400, false)
theorem cxk177 : con_chk (kl bB cxF [cxt176]) PT bB 198 cxF cxJ cxjo cxP 407 cxt177 = true := fq_chk1 (fq_jn_eq _) rfl (by decide +kernel)   -- X6_readLevel
theorem cxo177 : con_ok PT bB 198 cxF cxQ cxt177 := con_chk_ok (fun _ _ h => h) cxpp (kl_ok (List.forall_mem_cons.mpr ⟨cxo176, fun _ h => (by cases h)⟩)) nw_class (fun h => by cases h) cxk177
def cxt178 : con := (62, [(2, 142, 1), (0, 2, 2), (0, 4, 4)], [], [some (0, 0, 1)], [], 35, 2800, false)
theorem cxk178 : con_chk (kl bB cxF [cxt171, cxt173, cxt177]) PT bB 198 cxF cxJ cxjo cxP 2103 cxt178 = true := fq_chk1 (fq_jn_eq _) rfl (by decide +kernel)   -- X6_readLevel
theorem cxo178 : con_ok PT bB 198 cxF cxQ cxt178 := con_chk_ok (fun _ _ h => h) cxpp (kl_ok (List.forall_mem_cons.mpr ⟨cxo171, List.forall_mem_cons.mpr ⟨cxo173, List.forall_mem_cons.mpr ⟨cxo177, fun _ h => (by cases h)⟩⟩⟩)) nw_class (fun h => by cases h) cxk178
