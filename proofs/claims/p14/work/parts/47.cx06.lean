/-! contracts -/
def cxt36 : con := (138, [(2, 0, 1), (0, 0, 5), (0, 0, 5), (0, (-2147483648), 2147483647)], [], [none], [], 5, 400, false)
theorem cxk36 : con_chk (kl bB cxF []) PT bB 198 cxF cxJ cxjo cxP 431 cxt36 = true := fq_chk1 (fq_jn_eq _) rfl (by decide +kernel)   -- X10_hearEnvoy
theorem cxo36 : con_ok PT bB 198 cxF cxQ cxt36 := con_chk_ok (fun _ _ h => h) cxpp (kl_ok (fun _ h => (by cases h))) nw_class (fun h => by cases h) cxk36
def cxt37 : con := (14, [(2, 151, 1), (2, 13, 1), (0, 0, 6)], [], [some (0, 0, 9999)], [], 5, 400, true)
theorem cxk37 : con_chk (kl bB cxF []) PT bB 198 cxF cxJ cxjo cxP 778 cxt37 = true := fq_chk1 (fq_jn_eq _) rfl (by decide +kernel)   -- X1_leastDue
theorem cxo37 : con_ok PT bB 198 cxF cxQ cxt37 := con_chk_ok (fun _ _ h => h) cxpp (kl_ok (fun _ h => (by cases h))) nw_class (fun _ => by decide) cxk37
def cxt38 : con := (41, [(2, 5, 1), (2, 13, 1), (0, 0, 7)], [], [some (0, 0, 1)], [], 5, 400, true)
theorem cxk38 : con_chk (kl bB cxF []) PT bB 198 cxF cxJ cxjo cxP 431 cxt38 = true := fq_chk1 (fq_jn_eq _) rfl (by decide +kernel)   -- X3_isEater
theorem cxo38 : con_ok PT bB 198 cxF cxQ cxt38 := con_chk_ok (fun _ _ h => h) cxpp (kl_ok (fun _ h => (by cases h))) nw_class (fun _ => by decide) cxk38
def cxt39 : con := (43, [(2, 5, 1), (2, 13, 1), (0, 0, 5)], [], [none], [], 10, 800, false)
theorem cxk39 : con_chk (kl bB cxF [cxt38]) PT bB 198 cxF cxJ cxjo cxP 754 cxt39 = true := fq_chk1 (fq_jn_eq _) rfl (by decide +kernel)   -- X3_passMonthAt
theorem cxo39 : con_ok PT bB 198 cxF cxQ cxt39 := con_chk_ok (fun _ _ h => h) cxpp (kl_ok (List.forall_mem_cons.mpr ⟨cxo38, fun _ h => (by cases h)⟩)) nw_class (fun h => by cases h) cxk39
def cxt40 : con := (42, [(2, 5, 1), (2, 13, 1)], [], [none], [], 15, 1200, false)
theorem cxk40 : con_chk (kl bB cxF [cxt39]) PT bB 198 cxF cxJ cxjo cxP 473 cxt40 = true := fq_chk1 (fq_jn_eq _) rfl (by decide +kernel)   -- X3_passMonth
theorem cxo40 : con_ok PT bB 198 cxF cxQ cxt40 := con_chk_ok (fun _ _ h => h) cxpp (kl_ok (List.forall_mem_cons.mpr ⟨cxo39, fun _ h => (by cases h)⟩)) nw_class (fun h => by cases h) cxk40
def cxt41 : con := (140, [(2, 0, 1), (0, (-1), 60)], [], [none], [], 20, 1600, false)
theorem cxk41 : con_chk (kl bB cxF [cxt40]) PT bB 198 cxF cxJ cxjo cxP 1906 cxt41 = true := fq_chk1 (fq_jn_eq _) rfl (by decide +kernel)   -- X10_passMonths
theorem cxo41 : con_ok PT bB 198 cxF cxQ cxt41 := con_chk_ok (fun _ _ h => h) cxpp (kl_ok (List.forall_mem_cons.mpr ⟨cxo40, fun _ h => (by cases h)⟩)) nw_class (fun h => by cases h) cxk41
def cxt42 : con := (270, [(0, (-2147483648), 2147483647)], [], [some (0, 0, 2147483647)], [], 5, 400, true)
theorem cxk42 : con_chk (kl bB cxF []) PT bB 198 cxF cxJ cxjo cxP 442 cxt42 = true := fq_chk1 (fq_jn_eq _) rfl (by decide +kernel)   -- J6_bitCount_0f7a4
theorem cxo42 : con_ok PT bB 198 cxF cxQ cxt42 := con_chk_ok (fun _ _ h => h) cxpp (kl_ok (fun _ h => (by cases h))) nw_class (fun _ => by decide) cxk42
def cxt43 : con := (67, [(0, (-2147483648), 2147483647)], [], [some (0, (-1), 6)], [], 5, 400, true)
theorem cxk43 : con_chk (kl bB cxF []) PT bB 198 cxF cxJ cxjo cxP 418 cxt43 = true := fq_chk1 (fq_jn_eq _) rfl (by decide +kernel)   -- X6_letterOf
theorem cxo43 : con_ok PT bB 198 cxF cxQ cxt43 := con_chk_ok (fun _ _ h => h) cxpp (kl_ok (fun _ h => (by cases h))) nw_class (fun _ => by decide) cxk43
def cxt44 : con := (69, [(2, 142, 1), (0, (-2147483648), 2147483647)], [], [none], [], 5, 400, false)
theorem cxk44 : con_chk (kl bB cxF []) PT bB 198 cxF cxJ cxjo cxP 421 cxt44 = true := fq_chk1 (fq_jn_eq _) rfl (by decide +kernel)   -- X6_push
theorem cxo44 : con_ok PT bB 198 cxF cxQ cxt44 := con_chk_ok (fun _ _ h => h) cxpp (kl_ok (fun _ h => (by cases h))) nw_class (fun h => by cases h) cxk44
def cxt45 : con := (70, [(2, 142, 1)], [], [some (0, (-2147483648), 2147483647)], [], 5, 400, false)
theorem cxk45 : con_chk (kl bB cxF []) PT bB 198 cxF cxJ cxjo cxP 420 cxt45 = true := fq_chk1 (fq_jn_eq _) rfl (by decide +kernel)   -- X6_pop
theorem cxo45 : con_ok PT bB 198 cxF cxQ cxt45 := con_chk_ok (fun _ _ h => h) cxpp (kl_ok (fun _ h => (by cases h))) nw_class (fun h => by cases h) cxk45
def cxt46 : con := (71, [(0, (-2147483648), 2147483647), (0, (-2147483648), 2147483647), (0, (-2147483648), 2147483647)], [], [some (0, (-2147483648), 2147483647)], [], 5, 400, true)
theorem cxk46 : con_chk (kl bB cxF []) PT bB 198 cxF cxJ cxjo cxP 456 cxt46 = true := fq_chk1 (fq_jn_eq _) rfl (by decide +kernel)   -- X6_joined
theorem cxo46 : con_ok PT bB 198 cxF cxQ cxt46 := con_chk_ok (fun _ _ h => h) cxpp (kl_ok (fun _ h => (by cases h))) nw_class (fun _ => by decide) cxk46
def cxt47 : con := (68, [(2, 142, 1), (2, 12, 1)], [], [some (0, (-2147483648), 2147483647)], [], 10, 800, false)
theorem cxk47 : con_chk (kl bB cxF [cxt43, cxt44, cxt45, cxt46]) PT bB 198 cxF cxJ cxjo cxP 3092 cxt47 = true := fq_chk1 (fq_jn_eq _) rfl (by decide +kernel)   -- X6_evaluate
theorem cxo47 : con_ok PT bB 198 cxF cxQ cxt47 := con_chk_ok (fun _ _ h => h) cxpp (kl_ok (List.forall_mem_cons.mpr ⟨cxo43, List.forall_mem_cons.mpr ⟨cxo44, List.forall_mem_cons.mpr ⟨cxo45, List.forall_mem_cons.mpr ⟨cxo46, fun _ h => (by cases h)⟩⟩⟩⟩)) nw_class (fun h => by cases h) cxk47
def cxt48 : con := (39, [(2, 5, 1), (2, 142, 1), (2, 13, 1), (0, 0, 7), (0, 0, 5)], [], [some (0, 0, 999)], [], 15, 1200, false)
theorem cxk48 : con_chk (kl bB cxF [cxt42, cxt47]) PT bB 198 cxF cxJ cxjo cxP 499 cxt48 = true := fq_chk1 (fq_jn_eq _) rfl (by decide +kernel)   -- X3_valueFor
theorem cxo48 : con_ok PT bB 198 cxF cxQ cxt48 := con_chk_ok (fun _ _ h => h) cxpp (kl_ok (List.forall_mem_cons.mpr ⟨cxo42, List.forall_mem_cons.mpr ⟨cxo47, fun _ h => (by cases h)⟩⟩)) nw_class (fun h => by cases h) cxk48
def cxt49 : con := (69, [(2, 145, 1), (0, (-2147483648), 2147483647)], [], [none], [], 5, 400, false)
theorem cxk49 : con_chk (kl bB cxF []) PT bB 198 cxF cxJ cxjo cxP 421 cxt49 = true := fq_chk1 (fq_jn_eq _) rfl (by decide +kernel)   -- X6_push
theorem cxo49 : con_ok PT bB 198 cxF cxQ cxt49 := con_chk_ok (fun _ _ h => h) cxpp (kl_ok (fun _ h => (by cases h))) nw_class (fun h => by cases h) cxk49
def cxt50 : con := (70, [(2, 145, 1)], [], [some (0, (-2147483648), 2147483647)], [], 5, 400, false)
theorem cxk50 : con_chk (kl bB cxF []) PT bB 198 cxF cxJ cxjo cxP 420 cxt50 = true := fq_chk1 (fq_jn_eq _) rfl (by decide +kernel)   -- X6_pop
theorem cxo50 : con_ok PT bB 198 cxF cxQ cxt50 := con_chk_ok (fun _ _ h => h) cxpp (kl_ok (fun _ h => (by cases h))) nw_class (fun h => by cases h) cxk50
