/-! contracts -/
def cxt0 : con := (2, [(0, (-2147483648), 2147483647), (0, (-2147483648), 2147483647)], [], [some (0, 0, 1)], [], 5, 400, true)
theorem cxk0 : con_chk (kl bB cxF []) PT bB 198 cxF cxJ cxjo cxP 467 cxt0 = true := fq_chk1 (fq_jn_eq _) rfl (by decide +kernel)   -- X0_canBe
theorem cxo0 : con_ok PT bB 198 cxF cxQ cxt0 := con_chk_ok (fun _ _ h => h) cxpp (kl_ok (fun _ h => (by cases h))) nw_class (fun _ => by decide) cxk0
def cxt1 : con := (1, [(2, 159, 1), (0, (-2147483648), 2147483647), (0, (-2147483648), 2147483647)], [], [some (0, 0, 1)], [], 10, 800, false)
theorem cxk1 : con_chk (kl bB cxF [cxt0]) PT bB 198 cxF cxJ cxjo cxP 434 cxt1 = true := fq_chk1 (fq_jn_eq _) rfl (by decide +kernel)   -- X0_hear
theorem cxo1 : con_ok PT bB 198 cxF cxQ cxt1 := con_chk_ok (fun _ _ h => h) cxpp (kl_ok (List.forall_mem_cons.mpr ⟨cxo0, fun _ h => (by cases h)⟩)) nw_class (fun h => by cases h) cxk1
def cxt2 : con := (7, [(2, 151, 1), (2, 13, 1), (0, 0, 5)], [], [some (0, 0, 65535)], [], 5, 400, true)
theorem cxk2 : con_chk (kl bB cxF []) PT bB 198 cxF cxJ cxjo cxP 543 cxt2 = true := fq_chk1 (fq_jn_eq _) rfl (by decide +kernel)   -- X1_owedBy
theorem cxo2 : con_ok PT bB 198 cxF cxQ cxt2 := con_chk_ok (fun _ _ h => h) cxpp (kl_ok (fun _ h => (by cases h))) nw_class (fun _ => by decide) cxk2
def cxt3 : con := (8, [(2, 151, 1), (2, 13, 1), (0, 0, 5)], [], [some (0, 0, 65535)], [], 5, 400, true)
theorem cxk3 : con_chk (kl bB cxF []) PT bB 198 cxF cxJ cxjo cxP 543 cxt3 = true := fq_chk1 (fq_jn_eq _) rfl (by decide +kernel)   -- X1_owedTo
theorem cxo3 : con_ok PT bB 198 cxF cxQ cxt3 := con_chk_ok (fun _ _ h => h) cxpp (kl_ok (fun _ h => (by cases h))) nw_class (fun _ => by decide) cxk3
def cxt4 : con := (10, [(2, 151, 1), (2, 13, 1)], [], [some (0, 0, 6)], [], 10, 800, false)
theorem cxk4 : con_chk (kl bB cxF [cxt2, cxt3]) PT bB 198 cxF cxJ cxjo cxP 585 cxt4 = true := fq_chk1 (fq_jn_eq _) rfl (by decide +kernel)   -- X1_openNets
theorem cxo4 : con_ok PT bB 198 cxF cxQ cxt4 := con_chk_ok (fun _ _ h => h) cxpp (kl_ok (List.forall_mem_cons.mpr ⟨cxo2, List.forall_mem_cons.mpr ⟨cxo3, fun _ h => (by cases h)⟩⟩)) nw_class (fun h => by cases h) cxk4
def cxt5 : con := (11, [(2, 151, 1), (0, 1, 1)], [], [some (0, (-2147483648), 2147483647)], [], 5, 400, false)
theorem cxk5 : con_chk (kl bB cxF []) PT bB 198 cxF cxJ cxjo cxP 490 cxt5 = true := fq_chk1 (fq_jn_eq _) rfl (by decide +kernel)   -- X1_fewestPayments
theorem cxo5 : con_ok PT bB 198 cxF cxQ cxt5 := con_chk_ok (fun _ _ h => h) cxpp (kl_ok (fun _ h => (by cases h))) nw_class (fun h => by cases h) cxk5
def cxt6 : con := (11, [(2, 151, 1), (0, 2, 2)], [], [some (0, (-2147483648), 2147483647)], [], 5, 400, false)
theorem cxk6 : con_chk (kl bB cxF []) PT bB 198 cxF cxJ cxjo cxP 677 cxt6 = true := fq_chk1 (fq_jn_eq _) rfl (by decide +kernel)   -- X1_fewestPayments
theorem cxo6 : con_ok PT bB 198 cxF cxQ cxt6 := con_chk_ok (fun _ _ h => h) cxpp (kl_ok (fun _ h => (by cases h))) nw_class (fun h => by cases h) cxk6
def cxt7 : con := (11, [(2, 151, 1), (0, 3, 3)], [], [some (0, (-2147483648), 2147483647)], [], 5, 400, false)
theorem cxk7 : con_chk (kl bB cxF []) PT bB 198 cxF cxJ cxjo cxP 1146 cxt7 = true := fq_chk1 (fq_jn_eq _) rfl (by decide +kernel)   -- X1_fewestPayments
theorem cxo7 : con_ok PT bB 198 cxF cxQ cxt7 := con_chk_ok (fun _ _ h => h) cxpp (kl_ok (fun _ h => (by cases h))) nw_class (fun h => by cases h) cxk7
def cxt8 : con := (11, [(2, 151, 1), (0, 4, 4)], [], [some (0, (-2147483648), 2147483647)], [], 5, 400, false)
theorem cxk8 : con_chk (kl bB cxF []) PT bB 198 cxF cxJ cxjo cxP 2263 cxt8 = true := fq_chk1 (fq_jn_eq _) rfl (by decide +kernel)   -- X1_fewestPayments
theorem cxo8 : con_ok PT bB 198 cxF cxQ cxt8 := con_chk_ok (fun _ _ h => h) cxpp (kl_ok (fun _ h => (by cases h))) nw_class (fun h => by cases h) cxk8
