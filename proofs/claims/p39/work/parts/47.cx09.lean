/-! contracts -/
def cxt153 : con := (1, [(2, 159, 1), (0, (-2147483648), 2147483647), (0, (-2147483648), 2147483647)], [], [some (0, 0, 1)], [], 10, 800, false)
theorem cxk153 : con_chk (kl bB cxF [cxt152]) PT bB 198 cxF cxJ cxjo cxP 434 cxt153 = true := by decide +kernel   -- X0_hear
theorem cxo153 : con_ok PT bB 198 cxF cxQ cxt153 := con_chk_ok (fun _ _ h => h) cxpp (kl_ok (List.forall_mem_cons.mpr ⟨cxo152, fun _ h => (by cases h)⟩)) nw_class (fun h => by cases h) cxk153
def cxt154 : con := (5, [(2, 159, 1), (2, 13, 1), (0, 0, 7), (0, (-2147483648), 2147483647), (0, (-2147483648), 2147483647)], [], [some (0, 0, 1)], [], 5, 400, true)
theorem cxk154 : con_chk (kl bB cxF []) PT bB 198 cxF cxJ cxjo cxP 473 cxt154 = true := by decide +kernel   -- X0_fitsOne
theorem cxo154 : con_ok PT bB 198 cxF cxQ cxt154 := con_chk_ok (fun _ _ h => h) cxpp (kl_ok (fun _ h => (by cases h))) nw_class (fun _ => by decide) cxk154
def cxt155 : con := (4, [(2, 159, 1), (2, 13, 1), (0, 0, 7)], [], [some (0, 0, 1)], [], 10, 800, true)
theorem cxk155 : con_chk (kl bB cxF [cxt154]) PT bB 198 cxF cxJ cxjo cxP 660 cxt155 = true := by decide +kernel   -- X0_fitsAll
theorem cxo155 : con_ok PT bB 198 cxF cxQ cxt155 := con_chk_ok (fun _ _ h => h) cxpp (kl_ok (List.forall_mem_cons.mpr ⟨cxo154, fun _ h => (by cases h)⟩)) nw_class (fun _ => by decide) cxk155
def cxt156 : con := (3, [(2, 159, 1), (2, 13, 1)], [], [some (0, 0, 255)], [], 15, 1200, true)
theorem cxk156 : con_chk (kl bB cxF [cxt155]) PT bB 198 cxF cxJ cxjo cxP 555 cxt156 = true := by decide +kernel   -- X0_fitting
theorem cxo156 : con_ok PT bB 198 cxF cxQ cxt156 := con_chk_ok (fun _ _ h => h) cxpp (kl_ok (List.forall_mem_cons.mpr ⟨cxo155, fun _ h => (by cases h)⟩)) nw_class (fun _ => by decide) cxk156
def cxt157 : con := (60, [(2, 142, 1), (0, (-2147483648), 999)], [], [none], [], 5, 400, false)
theorem cxk157 : con_chk (kl bB cxF []) PT bB 198 cxF cxJ cxjo cxP 421 cxt157 = true := by decide +kernel   -- X6_emit
theorem cxo157 : con_ok PT bB 198 cxF cxQ cxt157 := con_chk_ok (fun _ _ h => h) cxpp (kl_ok (fun _ h => (by cases h))) nw_class (fun h => by cases h) cxk157
def cxt158 : con := (61, [(2, 142, 1)], [], [some (0, (-1), 65535)], [], 10, 800, true)
theorem cxk158 : con_chk (kl bB cxF [cxt1]) PT bB 198 cxF cxJ cxjo cxP 407 cxt158 = true := by decide +kernel   -- X6_nextSign
theorem cxo158 : con_ok PT bB 198 cxF cxQ cxt158 := con_chk_ok (fun _ _ h => h) cxpp (kl_ok (List.forall_mem_cons.mpr ⟨cxo1, fun _ h => (by cases h)⟩)) nw_class (fun _ => by decide) cxk158
def cxt159 : con := (66, [(2, 142, 1)], [], [none], [], 15, 1200, false)
theorem cxk159 : con_chk (kl bB cxF [cxt2, cxt157]) PT bB 198 cxF cxJ cxjo cxP 502 cxt159 = true := by decide +kernel   -- X6_readNumber
theorem cxo159 : con_ok PT bB 198 cxF cxQ cxt159 := con_chk_ok (fun _ _ h => h) cxpp (kl_ok (List.forall_mem_cons.mpr ⟨cxo2, List.forall_mem_cons.mpr ⟨cxo157, fun _ h => (by cases h)⟩⟩)) nw_class (fun h => by cases h) cxk159
def cxt160 : con := (65, [(2, 142, 1), (0, 4, 4)], [], [some (0, 0, 1)], [], 20, 1600, false)
theorem cxk160 : con_chk (kl bB cxF [cxt7, cxt157, cxt158, cxt159]) PT bB 198 cxF cxJ cxjo cxP 448 cxt160 = true := by decide +kernel   -- X6_readThing
theorem cxo160 : con_ok PT bB 198 cxF cxQ cxt160 := con_chk_ok (fun _ _ h => h) cxpp (kl_ok (List.forall_mem_cons.mpr ⟨cxo7, List.forall_mem_cons.mpr ⟨cxo157, List.forall_mem_cons.mpr ⟨cxo158, List.forall_mem_cons.mpr ⟨cxo159, fun _ h => (by cases h)⟩⟩⟩⟩)) nw_class (fun h => by cases h) cxk160
def cxt161 : con := (64, [(2, 142, 1), (0, 4, 4)], [], [some (0, 0, 1)], [], 25, 2000, false)
theorem cxk161 : con_chk (kl bB cxF [cxt157, cxt158, cxt160]) PT bB 198 cxF cxJ cxjo cxP 1202 cxt161 = true := by decide +kernel   -- X6_readSigned
theorem cxo161 : con_ok PT bB 198 cxF cxQ cxt161 := con_chk_ok (fun _ _ h => h) cxpp (kl_ok (List.forall_mem_cons.mpr ⟨cxo157, List.forall_mem_cons.mpr ⟨cxo158, List.forall_mem_cons.mpr ⟨cxo160, fun _ h => (by cases h)⟩⟩⟩)) nw_class (fun h => by cases h) cxk161
def cxt162 : con := (62, [(2, 142, 1), (0, 3, 3), (0, 4, 4)], [], [some (0, 0, 1)], [], 30, 2400, false)
theorem cxk162 : con_chk (kl bB cxF [cxt161]) PT bB 198 cxF cxJ cxjo cxP 407 cxt162 = true := by decide +kernel   -- X6_readLevel
theorem cxo162 : con_ok PT bB 198 cxF cxQ cxt162 := con_chk_ok (fun _ _ h => h) cxpp (kl_ok (List.forall_mem_cons.mpr ⟨cxo161, fun _ h => (by cases h)⟩)) nw_class (fun h => by cases h) cxk162
def cxt163 : con := (62, [(2, 142, 1), (0, 2, 2), (0, 4, 4)], [], [some (0, 0, 1)], [], 35, 2800, false)
theorem cxk163 : con_chk (kl bB cxF [cxt157, cxt158, cxt162]) PT bB 198 cxF cxJ cxjo cxP 2103 cxt163 = true := by decide +kernel   -- X6_readLevel
theorem cxo163 : con_ok PT bB 198 cxF cxQ cxt163 := con_chk_ok (fun _ _ h => h) cxpp (kl_ok (List.forall_mem_cons.mpr ⟨cxo157, List.forall_mem_cons.mpr ⟨cxo158, List.forall_mem_cons.mpr ⟨cxo162, fun _ h => (by cases h)⟩⟩⟩)) nw_class (fun h => by cases h) cxk163
def cxt164 : con := (62, [(2, 142, 1), (0, 1, 1), (0, 4, 4)], [], [some (0, 0, 1)], [], 40, 3200, false)
theorem cxk164 : con_chk (kl bB cxF [cxt157, cxt158, cxt163]) PT bB 198 cxF cxJ cxjo cxP 2103 cxt164 = true := by decide +kernel   -- X6_readLevel
theorem cxo164 : con_ok PT bB 198 cxF cxQ cxt164 := con_chk_ok (fun _ _ h => h) cxpp (kl_ok (List.forall_mem_cons.mpr ⟨cxo157, List.forall_mem_cons.mpr ⟨cxo158, List.forall_mem_cons.mpr ⟨cxo163, fun _ h => (by cases h)⟩⟩⟩)) nw_class (fun h => by cases h) cxk164
def cxt165 : con := (62, [(2, 142, 1), (0, 0, 0), (0, 4, 4)], [], [some (0, 0, 1)], [], 45, 3600, false)
theorem cxk165 : con_chk (kl bB cxF [cxt157, cxt158, cxt164]) PT bB 198 cxF cxJ cxjo cxP 466 cxt165 = true := by decide +kernel   -- X6_readLevel
theorem cxo165 : con_ok PT bB 198 cxF cxQ cxt165 := con_chk_ok (fun _ _ h => h) cxpp (kl_ok (List.forall_mem_cons.mpr ⟨cxo157, List.forall_mem_cons.mpr ⟨cxo158, List.forall_mem_cons.mpr ⟨cxo164, fun _ h => (by cases h)⟩⟩⟩)) nw_class (fun h => by cases h) cxk165
def cxt166 : con := (65, [(2, 142, 1), (0, 3, 3)], [], [some (0, 0, 1)], [], 50, 4000, false)
theorem cxk166 : con_chk (kl bB cxF [cxt7, cxt157, cxt158, cxt159, cxt165]) PT bB 198 cxF cxJ cxjo cxP 475 cxt166 = true := by decide +kernel   -- X6_readThing
theorem cxo166 : con_ok PT bB 198 cxF cxQ cxt166 := con_chk_ok (fun _ _ h => h) cxpp (kl_ok (List.forall_mem_cons.mpr ⟨cxo7, List.forall_mem_cons.mpr ⟨cxo157, List.forall_mem_cons.mpr ⟨cxo158, List.forall_mem_cons.mpr ⟨cxo159, List.forall_mem_cons.mpr ⟨cxo165, fun _ h => (by cases h)⟩⟩⟩⟩⟩)) nw_class (fun h => by cases h) cxk166
def cxt167 : con := (64, [(2, 142, 1), (0, 3, 3)], [], [some (0, 0, 1)], [], 55, 4400, false)
theorem cxk167 : con_chk (kl bB cxF [cxt157, cxt158, cxt166]) PT bB 198 cxF cxJ cxjo cxP 1202 cxt167 = true := by decide +kernel   -- X6_readSigned
theorem cxo167 : con_ok PT bB 198 cxF cxQ cxt167 := con_chk_ok (fun _ _ h => h) cxpp (kl_ok (List.forall_mem_cons.mpr ⟨cxo157, List.forall_mem_cons.mpr ⟨cxo158, List.forall_mem_cons.mpr ⟨cxo166, fun _ h => (by cases h)⟩⟩⟩)) nw_class (fun h => by cases h) cxk167
def cxt168 : con := (62, [(2, 142, 1), (0, 3, 3), (0, 3, 3)], [], [some (0, 0, 1)], [], 60, 4800, false)
theorem cxk168 : con_chk (kl bB cxF [cxt167]) PT bB 198 cxF cxJ cxjo cxP 407 cxt168 = true := by decide +kernel   -- X6_readLevel
theorem cxo168 : con_ok PT bB 198 cxF cxQ cxt168 := con_chk_ok (fun _ _ h => h) cxpp (kl_ok (List.forall_mem_cons.mpr ⟨cxo167, fun _ h => (by cases h)⟩)) nw_class (fun h => by cases h) cxk168
