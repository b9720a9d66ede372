/-! contracts -/
def cxt51 : con := (68, [(2, 145, 1), (2, 12, 1)], [], [some (0, (-2147483648), 2147483647)], [], 10, 800, false)
theorem cxk51 : con_chk (kl bB cxF [cxt43, cxt46, cxt49, cxt50]) PT bB 198 cxF cxJ cxjo cxP 3092 cxt51 = true := fq_chk1 (fq_jn_eq _) rfl (by decide +kernel)   -- X6_evaluate
theorem cxo51 : con_ok PT bB 198 cxF cxQ cxt51 := con_chk_ok (fun _ _ h => h) cxpp (kl_ok (List.forall_mem_cons.mpr ⟨cxo43, List.forall_mem_cons.mpr ⟨cxo46, List.forall_mem_cons.mpr ⟨cxo49, List.forall_mem_cons.mpr ⟨cxo50, fun _ h => (by cases h)⟩⟩⟩⟩)) nw_class (fun h => by cases h) cxk51
def cxt52 : con := (39, [(2, 5, 1), (2, 145, 1), (2, 13, 1), (0, 0, 7), (0, 0, 5)], [], [some (0, 0, 999)], [], 15, 1200, false)
theorem cxk52 : con_chk (kl bB cxF [cxt42, cxt51]) PT bB 198 cxF cxJ cxjo cxP 499 cxt52 = true := fq_chk1 (fq_jn_eq _) rfl (by decide +kernel)   -- X3_valueFor
theorem cxo52 : con_ok PT bB 198 cxF cxQ cxt52 := con_chk_ok (fun _ _ h => h) cxpp (kl_ok (List.forall_mem_cons.mpr ⟨cxo42, List.forall_mem_cons.mpr ⟨cxo51, fun _ h => (by cases h)⟩⟩)) nw_class (fun h => by cases h) cxk52
def cxt53 : con := (77, [(2, 13, 1), (0, 0, 7), (0, 0, 5), (0, 0, 9999), (0, 0, 999)], [], [some (0, (-6), 4)], [], 5, 400, true)
theorem cxk53 : con_chk (kl bB cxF []) PT bB 198 cxF cxJ cxjo cxP 459 cxt53 = true := fq_chk1 (fq_jn_eq _) rfl (by decide +kernel)   -- X7_esteemGained
theorem cxo53 : con_ok PT bB 198 cxF cxQ cxt53 := con_chk_ok (fun _ _ h => h) cxpp (kl_ok (fun _ h => (by cases h))) nw_class (fun _ => by decide) cxk53
def cxt54 : con := (40, [(2, 5, 1), (2, 13, 1), (0, 0, 7), (0, 0, 5), (0, 0, 999)], [], [none], [], 10, 800, false)
theorem cxk54 : con_chk (kl bB cxF [cxt53]) PT bB 198 cxF cxJ cxjo cxP 534 cxt54 = true := fq_chk1 (fq_jn_eq _) rfl (by decide +kernel)   -- X3_deliver
theorem cxo54 : con_ok PT bB 198 cxF cxQ cxt54 := con_chk_ok (fun _ _ h => h) cxpp (kl_ok (List.forall_mem_cons.mpr ⟨cxo53, fun _ h => (by cases h)⟩)) nw_class (fun h => by cases h) cxk54
def cxt55 : con := (142, [(2, 0, 1), (0, 0, 7), (0, 0, 5)], [], [some (0, 0, 1)], [], 20, 1600, false)
theorem cxk55 : con_chk (kl bB cxF [cxt48, cxt52, cxt54]) PT bB 198 cxF cxJ cxjo cxP 468 cxt55 = true := fq_chk1 (fq_jn_eq _) rfl (by decide +kernel)   -- X10_actSend
theorem cxo55 : con_ok PT bB 198 cxF cxQ cxt55 := con_chk_ok (fun _ _ h => h) cxpp (kl_ok (List.forall_mem_cons.mpr ⟨cxo48, List.forall_mem_cons.mpr ⟨cxo52, List.forall_mem_cons.mpr ⟨cxo54, fun _ h => (by cases h)⟩⟩⟩)) nw_class (fun h => by cases h) cxk55
def cxt56 : con := (142, [(2, 0, 1), (0, 0, 7), (0, 6, 9)], [], [some (0, 0, 0)], [], 5, 400, false)
theorem cxk56 : con_chk (kl bB cxF []) PT bB 198 cxF cxJ cxjo cxP 437 cxt56 = true := fq_chk1 (fq_jn_eq _) rfl (by decide +kernel)   -- X10_actSend
theorem cxo56 : con_ok PT bB 198 cxF cxQ cxt56 := con_chk_ok (fun _ _ h => h) cxpp (kl_ok (fun _ h => (by cases h))) nw_class (fun h => by cases h) cxk56
def cxt57 : con := (142, [(2, 0, 1), (0, 0, 7), (0, (-1), (-1))], [], [some (0, 0, 0)], [], 5, 400, false)
theorem cxk57 : con_chk (kl bB cxF []) PT bB 198 cxF cxJ cxjo cxP 433 cxt57 = true := fq_chk1 (fq_jn_eq _) rfl (by decide +kernel)   -- X10_actSend
theorem cxo57 : con_ok PT bB 198 cxF cxQ cxt57 := con_chk_ok (fun _ _ h => h) cxpp (kl_ok (fun _ h => (by cases h))) nw_class (fun h => by cases h) cxk57
def cxt58 : con := (142, [(2, 0, 1), (0, 8, 9), (0, 0, 5)], [], [some (0, 0, 0)], [], 5, 400, false)
theorem cxk58 : con_chk (kl bB cxF []) PT bB 198 cxF cxJ cxjo cxP 422 cxt58 = true := fq_chk1 (fq_jn_eq _) rfl (by decide +kernel)   -- X10_actSend
theorem cxo58 : con_ok PT bB 198 cxF cxQ cxt58 := con_chk_ok (fun _ _ h => h) cxpp (kl_ok (fun _ h => (by cases h))) nw_class (fun h => by cases h) cxk58
def cxt59 : con := (142, [(2, 0, 1), (0, 8, 9), (0, 6, 9)], [], [some (0, 0, 0)], [], 5, 400, false)
theorem cxk59 : con_chk (kl bB cxF []) PT bB 198 cxF cxJ cxjo cxP 422 cxt59 = true := fq_chk1 (fq_jn_eq _) rfl (by decide +kernel)   -- X10_actSend
theorem cxo59 : con_ok PT bB 198 cxF cxQ cxt59 := con_chk_ok (fun _ _ h => h) cxpp (kl_ok (fun _ h => (by cases h))) nw_class (fun h => by cases h) cxk59
def cxt60 : con := (142, [(2, 0, 1), (0, 8, 9), (0, (-1), (-1))], [], [some (0, 0, 0)], [], 5, 400, false)
theorem cxk60 : con_chk (kl bB cxF []) PT bB 198 cxF cxJ cxjo cxP 422 cxt60 = true := fq_chk1 (fq_jn_eq _) rfl (by decide +kernel)   -- X10_actSend
theorem cxo60 : con_ok PT bB 198 cxF cxQ cxt60 := con_chk_ok (fun _ _ h => h) cxpp (kl_ok (fun _ h => (by cases h))) nw_class (fun h => by cases h) cxk60
def cxt61 : con := (142, [(2, 0, 1), (0, (-1), (-1)), (0, 0, 5)], [], [some (0, 0, 0)], [], 5, 400, false)
theorem cxk61 : con_chk (kl bB cxF []) PT bB 198 cxF cxJ cxjo cxP 418 cxt61 = true := fq_chk1 (fq_jn_eq _) rfl (by decide +kernel)   -- X10_actSend
theorem cxo61 : con_ok PT bB 198 cxF cxQ cxt61 := con_chk_ok (fun _ _ h => h) cxpp (kl_ok (fun _ h => (by cases h))) nw_class (fun h => by cases h) cxk61
def cxt62 : con := (142, [(2, 0, 1), (0, (-1), (-1)), (0, 6, 9)], [], [some (0, 0, 0)], [], 5, 400, false)
theorem cxk62 : con_chk (kl bB cxF []) PT bB 198 cxF cxJ cxjo cxP 418 cxt62 = true := fq_chk1 (fq_jn_eq _) rfl (by decide +kernel)   -- X10_actSend
theorem cxo62 : con_ok PT bB 198 cxF cxQ cxt62 := con_chk_ok (fun _ _ h => h) cxpp (kl_ok (fun _ h => (by cases h))) nw_class (fun h => by cases h) cxk62
def cxt63 : con := (142, [(2, 0, 1), (0, (-1), (-1)), (0, (-1), (-1))], [], [some (0, 0, 0)], [], 5, 400, false)
theorem cxk63 : con_chk (kl bB cxF []) PT bB 198 cxF cxJ cxjo cxP 418 cxt63 = true := fq_chk1 (fq_jn_eq _) rfl (by decide +kernel)   -- X10_actSend
theorem cxo63 : con_ok PT bB 198 cxF cxQ cxt63 := con_chk_ok (fun _ _ h => h) cxpp (kl_ok (fun _ h => (by cases h))) nw_class (fun h => by cases h) cxk63
def cxt64 : con := (143, [(2, 0, 1), (0, 0, 5), (0, 0, 5)], [], [some (0, 0, 1)], [], 5, 400, false)
theorem cxk64 : con_chk (kl bB cxF []) PT bB 198 cxF cxJ cxjo cxP 484 cxt64 = true := fq_chk1 (fq_jn_eq _) rfl (by decide +kernel)   -- X10_actForgive
theorem cxo64 : con_ok PT bB 198 cxF cxQ cxt64 := con_chk_ok (fun _ _ h => h) cxpp (kl_ok (fun _ h => (by cases h))) nw_class (fun h => by cases h) cxk64
def cxt65 : con := (143, [(2, 0, 1), (0, 0, 5), (0, 6, 9)], [], [some (0, 0, 0)], [], 5, 400, false)
theorem cxk65 : con_chk (kl bB cxF []) PT bB 198 cxF cxJ cxjo cxP 443 cxt65 = true := fq_chk1 (fq_jn_eq _) rfl (by decide +kernel)   -- X10_actForgive
theorem cxo65 : con_ok PT bB 198 cxF cxQ cxt65 := con_chk_ok (fun _ _ h => h) cxpp (kl_ok (fun _ h => (by cases h))) nw_class (fun h => by cases h) cxk65
def cxt66 : con := (143, [(2, 0, 1), (0, 0, 5), (0, (-1), (-1))], [], [some (0, 0, 0)], [], 5, 400, false)
theorem cxk66 : con_chk (kl bB cxF []) PT bB 198 cxF cxJ cxjo cxP 439 cxt66 = true := fq_chk1 (fq_jn_eq _) rfl (by decide +kernel)   -- X10_actForgive
theorem cxo66 : con_ok PT bB 198 cxF cxQ cxt66 := con_chk_ok (fun _ _ h => h) cxpp (kl_ok (fun _ h => (by cases h))) nw_class (fun h => by cases h) cxk66
def cxt67 : con := (143, [(2, 0, 1), (0, 6, 9), (0, 0, 5)], [], [some (0, 0, 0)], [], 5, 400, false)
theorem cxk67 : con_chk (kl bB cxF []) PT bB 198 cxF cxJ cxjo cxP 429 cxt67 = true := fq_chk1 (fq_jn_eq _) rfl (by decide +kernel)   -- X10_actForgive
theorem cxo67 : con_ok PT bB 198 cxF cxQ cxt67 := con_chk_ok (fun _ _ h => h) cxpp (kl_ok (fun _ h => (by cases h))) nw_class (fun h => by cases h) cxk67
def cxt68 : con := (143, [(2, 0, 1), (0, 6, 9), (0, 6, 9)], [], [some (0, 0, 0)], [], 5, 400, false)
theorem cxk68 : con_chk (kl bB cxF []) PT bB 198 cxF cxJ cxjo cxP 429 cxt68 = true := fq_chk1 (fq_jn_eq _) rfl (by decide +kernel)   -- X10_actForgive
theorem cxo68 : con_ok PT bB 198 cxF cxQ cxt68 := con_chk_ok (fun _ _ h => h) cxpp (kl_ok (fun _ h => (by cases h))) nw_class (fun h => by cases h) cxk68
def cxt69 : con := (143, [(2, 0, 1), (0, 6, 9), (0, (-1), (-1))], [], [some (0, 0, 0)], [], 5, 400, false)
theorem cxk69 : con_chk (kl bB cxF []) PT bB 198 cxF cxJ cxjo cxP 429 cxt69 = true := fq_chk1 (fq_jn_eq _) rfl (by decide +kernel)   -- X10_actForgive
theorem cxo69 : con_ok PT bB 198 cxF cxQ cxt69 := con_chk_ok (fun _ _ h => h) cxpp (kl_ok (fun _ h => (by cases h))) nw_class (fun h => by cases h) cxk69
def cxt70 : con := (143, [(2, 0, 1), (0, (-1), (-1)), (0, 0, 5)], [], [some (0, 0, 0)], [], 5, 400, false)
theorem cxk70 : con_chk (kl bB cxF []) PT bB 198 cxF cxJ cxjo cxP 425 cxt70 = true := fq_chk1 (fq_jn_eq _) rfl (by decide +kernel)   -- X10_actForgive
theorem cxo70 : con_ok PT bB 198 cxF cxQ cxt70 := con_chk_ok (fun _ _ h => h) cxpp (kl_ok (fun _ h => (by cases h))) nw_class (fun h => by cases h) cxk70
def cxt71 : con := (143, [(2, 0, 1), (0, (-1), (-1)), (0, 6, 9)], [], [some (0, 0, 0)], [], 5, 400, false)
theorem cxk71 : con_chk (kl bB cxF []) PT bB 198 cxF cxJ cxjo cxP 425 cxt71 = true := fq_chk1 (fq_jn_eq _) rfl (by decide +kernel)   -- X10_actForgive
theorem cxo71 : con_ok PT bB 198 cxF cxQ cxt71 := con_chk_ok (fun _ _ h => h) cxpp (kl_ok (fun _ h => (by cases h))) nw_class (fun h => by cases h) cxk71
def cxt72 : con := (143, [(2, 0, 1), (0, (-1), (-1)), (0, (-1), (-1))], [], [some (0, 0, 0)], [], 5, 400, false)
theorem cxk72 : con_chk (kl bB cxF []) PT bB 198 cxF cxJ cxjo cxP 425 cxt72 = true := fq_chk1 (fq_jn_eq _) rfl (by decide +kernel)   -- X10_actForgive
theorem cxo72 : con_ok PT bB 198 cxF cxQ cxt72 := con_chk_ok (fun _ _ h => h) cxpp (kl_ok (fun _ h => (by cases h))) nw_class (fun h => by cases h) cxk72
def cxt73 : con := (144, [(2, 0, 1), (0, 0, 5), (0, 0, 5), (0, (-9), 9)], [], [some (0, 0, 1)], [], 10, 800, false)
theorem cxk73 : con_chk (kl bB cxF [cxt36]) PT bB 198 cxF cxJ cxjo cxP 472 cxt73 = true := fq_chk1 (fq_jn_eq _) rfl (by decide +kernel)   -- X10_actEnvoy
theorem cxo73 : con_ok PT bB 198 cxF cxQ cxt73 := con_chk_ok (fun _ _ h => h) cxpp (kl_ok (List.forall_mem_cons.mpr ⟨cxo36, fun _ h => (by cases h)⟩)) nw_class (fun h => by cases h) cxk73
def cxt74 : con := (144, [(2, 0, 1), (0, 0, 5), (0, 6, 9), (0, (-9), 9)], [], [some (0, 0, 0)], [], 5, 400, false)
theorem cxk74 : con_chk (kl bB cxF []) PT bB 198 cxF cxJ cxjo cxP 445 cxt74 = true := fq_chk1 (fq_jn_eq _) rfl (by decide +kernel)   -- X10_actEnvoy
theorem cxo74 : con_ok PT bB 198 cxF cxQ cxt74 := con_chk_ok (fun _ _ h => h) cxpp (kl_ok (fun _ h => (by cases h))) nw_class (fun h => by cases h) cxk74
def cxt75 : con := (144, [(2, 0, 1), (0, 0, 5), (0, (-1), (-1)), (0, (-9), 9)], [], [some (0, 0, 0)], [], 5, 400, false)
theorem cxk75 : con_chk (kl bB cxF []) PT bB 198 cxF cxJ cxjo cxP 441 cxt75 = true := fq_chk1 (fq_jn_eq _) rfl (by decide +kernel)   -- X10_actEnvoy
theorem cxo75 : con_ok PT bB 198 cxF cxQ cxt75 := con_chk_ok (fun _ _ h => h) cxpp (kl_ok (fun _ h => (by cases h))) nw_class (fun h => by cases h) cxk75
def cxt76 : con := (144, [(2, 0, 1), (0, 6, 9), (0, 0, 5), (0, (-9), 9)], [], [some (0, 0, 0)], [], 5, 400, false)
theorem cxk76 : con_chk (kl bB cxF []) PT bB 198 cxF cxJ cxjo cxP 431 cxt76 = true := fq_chk1 (fq_jn_eq _) rfl (by decide +kernel)   -- X10_actEnvoy
theorem cxo76 : con_ok PT bB 198 cxF cxQ cxt76 := con_chk_ok (fun _ _ h => h) cxpp (kl_ok (fun _ h => (by cases h))) nw_class (fun h => by cases h) cxk76
def cxt77 : con := (144, [(2, 0, 1), (0, 6, 9), (0, 6, 9), (0, (-9), 9)], [], [some (0, 0, 0)], [], 5, 400, false)
theorem cxk77 : con_chk (kl bB cxF []) PT bB 198 cxF cxJ cxjo cxP 431 cxt77 = true := fq_chk1 (fq_jn_eq _) rfl (by decide +kernel)   -- X10_actEnvoy
theorem cxo77 : con_ok PT bB 198 cxF cxQ cxt77 := con_chk_ok (fun _ _ h => h) cxpp (kl_ok (fun _ h => (by cases h))) nw_class (fun h => by cases h) cxk77
def cxt78 : con := (144, [(2, 0, 1), (0, 6, 9), (0, (-1), (-1)), (0, (-9), 9)], [], [some (0, 0, 0)], [], 5, 400, false)
theorem cxk78 : con_chk (kl bB cxF []) PT bB 198 cxF cxJ cxjo cxP 431 cxt78 = true := fq_chk1 (fq_jn_eq _) rfl (by decide +kernel)   -- X10_actEnvoy
theorem cxo78 : con_ok PT bB 198 cxF cxQ cxt78 := con_chk_ok (fun _ _ h => h) cxpp (kl_ok (fun _ h => (by cases h))) nw_class (fun h => by cases h) cxk78
def cxt79 : con := (144, [(2, 0, 1), (0, (-1), (-1)), (0, 0, 5), (0, (-9), 9)], [], [some (0, 0, 0)], [], 5, 400, false)
theorem cxk79 : con_chk (kl bB cxF []) PT bB 198 cxF cxJ cxjo cxP 427 cxt79 = true := fq_chk1 (fq_jn_eq _) rfl (by decide +kernel)   -- X10_actEnvoy
theorem cxo79 : con_ok PT bB 198 cxF cxQ cxt79 := con_chk_ok (fun _ _ h => h) cxpp (kl_ok (fun _ h => (by cases h))) nw_class (fun h => by cases h) cxk79
def cxt80 : con := (144, [(2, 0, 1), (0, (-1), (-1)), (0, 6, 9), (0, (-9), 9)], [], [some (0, 0, 0)], [], 5, 400, false)
theorem cxk80 : con_chk (kl bB cxF []) PT bB 198 cxF cxJ cxjo cxP 427 cxt80 = true := fq_chk1 (fq_jn_eq _) rfl (by decide +kernel)   -- X10_actEnvoy
theorem cxo80 : con_ok PT bB 198 cxF cxQ cxt80 := con_chk_ok (fun _ _ h => h) cxpp (kl_ok (fun _ h => (by cases h))) nw_class (fun h => by cases h) cxk80
def cxt81 : con := (144, [(2, 0, 1), (0, (-1), (-1)), (0, (-1), (-1)), (0, (-9), 9)], [], [some (0, 0, 0)], [], 5, 400, false)
theorem cxk81 : con_chk (kl bB cxF []) PT bB 198 cxF cxJ cxjo cxP 427 cxt81 = true := fq_chk1 (fq_jn_eq _) rfl (by decide +kernel)   -- X10_actEnvoy
theorem cxo81 : con_ok PT bB 198 cxF cxQ cxt81 := con_chk_ok (fun _ _ h => h) cxpp (kl_ok (fun _ h => (by cases h))) nw_class (fun h => by cases h) cxk81
def cxt82 : con := (141, [(2, 0, 1), (0, 0, 79)], [], [some (0, 0, 1)], [], 25, 2000, false)
theorem cxk82 : con_chk (kl bB cxF [cxt33, cxt34, cxt41, cxt55, cxt56, cxt57, cxt58, cxt59, cxt60, cxt61, cxt62, cxt63, cxt64, cxt65, cxt66, cxt67, cxt68, cxt69, cxt70, cxt71, cxt72, cxt73, cxt74, cxt75, cxt76, cxt77, cxt78, cxt79, cxt80, cxt81]) PT bB 198 cxF cxJ cxjo cxP 460 cxt82 = true := fq_chk1 (fq_jn_eq _) rfl (by decide +kernel)   -- X10_doAct
theorem cxo82 : con_ok PT bB 198 cxF cxQ cxt82 := con_chk_ok (fun _ _ h => h) cxpp (kl_ok (List.forall_mem_cons.mpr ⟨cxo33, List.forall_mem_cons.mpr ⟨cxo34, List.forall_mem_cons.mpr ⟨cxo41, List.forall_mem_cons.mpr ⟨cxo55, List.forall_mem_cons.mpr ⟨cxo56, List.forall_mem_cons.mpr ⟨cxo57, List.forall_mem_cons.mpr ⟨cxo58, List.forall_mem_cons.mpr ⟨cxo59, List.forall_mem_cons.mpr ⟨cxo60, List.forall_mem_cons.mpr ⟨cxo61, List.forall_mem_cons.mpr ⟨cxo62, List.forall_mem_cons.mpr ⟨cxo63, List.forall_mem_cons.mpr ⟨cxo64, List.forall_mem_cons.mpr ⟨cxo65, List.forall_mem_cons.mpr ⟨cxo66, List.forall_mem_cons.mpr ⟨cxo67, List.forall_mem_cons.mpr ⟨cxo68, List.forall_mem_cons.mpr ⟨cxo69, List.forall_mem_cons.mpr ⟨cxo70, List.forall_mem_cons.mpr ⟨cxo71, List.forall_mem_cons.mpr ⟨cxo72, List.forall_mem_cons.mpr ⟨cxo73, List.forall_mem_cons.mpr ⟨cxo74, List.forall_mem_cons.mpr ⟨cxo75, List.forall_mem_cons.mpr ⟨cxo76, List.forall_mem_cons.mpr ⟨cxo77, List.forall_mem_cons.mpr ⟨cxo78, List.forall_mem_cons.mpr ⟨cxo79, List.forall_mem_cons.mpr ⟨cxo80, List.forall_mem_cons.mpr ⟨cxo81, fun _ h => (by cases h)⟩⟩⟩⟩⟩⟩⟩⟩⟩⟩⟩⟩⟩⟩⟩⟩⟩⟩⟩⟩⟩⟩⟩⟩⟩⟩⟩⟩⟩⟩)) nw_class (fun h => by cases h) cxk82
def cxt83 : con := (39, [(2, 5, 1), (2, 142, 1), (2, 19, 1), (0, 0, 7), (0, 0, 5)], [], [some (0, 0, 999)], [], 15, 1200, false)
theorem cxk83 : con_chk (kl bB cxF [cxt42, cxt47]) PT bB 198 cxF cxJ cxjo cxP 499 cxt83 = true := fq_chk1 (fq_jn_eq _) rfl (by decide +kernel)   -- X3_valueFor
theorem cxo83 : con_ok PT bB 198 cxF cxQ cxt83 := con_chk_ok (fun _ _ h => h) cxpp (kl_ok (List.forall_mem_cons.mpr ⟨cxo42, List.forall_mem_cons.mpr ⟨cxo47, fun _ h => (by cases h)⟩⟩)) nw_class (fun h => by cases h) cxk83
def cxt84 : con := (39, [(2, 5, 1), (2, 145, 1), (2, 19, 1), (0, 0, 7), (0, 0, 5)], [], [some (0, 0, 999)], [], 15, 1200, false)
theorem cxk84 : con_chk (kl bB cxF [cxt42, cxt51]) PT bB 198 cxF cxJ cxjo cxP 499 cxt84 = true := fq_chk1 (fq_jn_eq _) rfl (by decide +kernel)   -- X3_valueFor
theorem cxo84 : con_ok PT bB 198 cxF cxQ cxt84 := con_chk_ok (fun _ _ h => h) cxpp (kl_ok (List.forall_mem_cons.mpr ⟨cxo42, List.forall_mem_cons.mpr ⟨cxo51, fun _ h => (by cases h)⟩⟩)) nw_class (fun h => by cases h) cxk84
def cxt85 : con := (77, [(2, 19, 1), (0, 0, 7), (0, 0, 5), (0, 0, 9999), (0, 0, 999)], [], [some (0, (-9), 4)], [], 5, 400, true)
theorem cxk85 : con_chk (kl bB cxF []) PT bB 198 cxF cxJ cxjo cxP 459 cxt85 = true := fq_chk1 (fq_jn_eq _) rfl (by decide +kernel)   -- X7_esteemGained
theorem cxo85 : con_ok PT bB 198 cxF cxQ cxt85 := con_chk_ok (fun _ _ h => h) cxpp (kl_ok (fun _ h => (by cases h))) nw_class (fun _ => by decide) cxk85
def cxt86 : con := (40, [(2, 5, 1), (2, 19, 1), (0, 0, 7), (0, 0, 5), (0, 0, 999)], [], [none], [], 10, 800, false)
theorem cxk86 : con_chk (kl bB cxF [cxt85]) PT bB 198 cxF cxJ cxjo cxP 534 cxt86 = true := fq_chk1 (fq_jn_eq _) rfl (by decide +kernel)   -- X3_deliver
theorem cxo86 : con_ok PT bB 198 cxF cxQ cxt86 := con_chk_ok (fun _ _ h => h) cxpp (kl_ok (List.forall_mem_cons.mpr ⟨cxo85, fun _ h => (by cases h)⟩)) nw_class (fun h => by cases h) cxk86
def cxt87 : con := (145, [(2, 0, 1), (0, 0, 7), (0, 0, 5)], [], [some (0, 0, 1)], [], 20, 1600, false)
theorem cxk87 : con_chk (kl bB cxF [cxt83, cxt84, cxt86]) PT bB 198 cxF cxJ cxjo cxP 427 cxt87 = true := fq_chk1 (fq_jn_eq _) rfl (by decide +kernel)   -- X10_tryDelivery
theorem cxo87 : con_ok PT bB 198 cxF cxQ cxt87 := con_chk_ok (fun _ _ h => h) cxpp (kl_ok (List.forall_mem_cons.mpr ⟨cxo83, List.forall_mem_cons.mpr ⟨cxo84, List.forall_mem_cons.mpr ⟨cxo86, fun _ h => (by cases h)⟩⟩⟩)) nw_class (fun h => by cases h) cxk87
def cxt88 : con := (146, [(2, 0, 1), (0, 0, 6), (0, 1, 7)], [], [some (0, 0, 1998)], [], 20, 1600, false)
theorem cxk88 : con_chk (kl bB cxF [cxt48, cxt52]) PT bB 198 cxF cxJ cxjo cxP 471 cxt88 = true := fq_chk1 (fq_jn_eq _) rfl (by decide +kernel)   -- X10_swapGain
theorem cxo88 : con_ok PT bB 198 cxF cxQ cxt88 := con_chk_ok (fun _ _ h => h) cxpp (kl_ok (List.forall_mem_cons.mpr ⟨cxo48, List.forall_mem_cons.mpr ⟨cxo52, fun _ h => (by cases h)⟩⟩)) nw_class (fun h => by cases h) cxk88
def cxt89 : con := (37, [(2, 5, 1), (2, 13, 1), (0, 0, 5)], [], [some (0, 0, 127)], [], 5, 400, true)
theorem cxk89 : con_chk (kl bB cxF []) PT bB 198 cxF cxJ cxjo cxP 644 cxt89 = true := fq_chk1 (fq_jn_eq _) rfl (by decide +kernel)   -- X3_esteemFor
theorem cxo89 : con_ok PT bB 198 cxF cxQ cxt89 := con_chk_ok (fun _ _ h => h) cxpp (kl_ok (fun _ h => (by cases h))) nw_class (fun _ => by decide) cxk89
def cxt90 : con := (147, [(2, 0, 1), (0, 0, 255)], [], [some (0, (-1), 5)], [], 10, 800, true)
theorem cxk90 : con_chk (kl bB cxF [cxt89]) PT bB 198 cxF cxJ cxjo cxP 575 cxt90 = true := fq_chk1 (fq_jn_eq _) rfl (by decide +kernel)   -- X10_mostEsteemedBut
theorem cxo90 : con_ok PT bB 198 cxF cxQ cxt90 := con_chk_ok (fun _ _ h => h) cxpp (kl_ok (List.forall_mem_cons.mpr ⟨cxo89, fun _ h => (by cases h)⟩)) nw_class (fun _ => by decide) cxk90
def cxt91 : con := (31, [(2, 5, 1), (2, 13, 1), (0, 0, 5)], [], [some (0, 0, 63)], [], 5, 400, true)
theorem cxk91 : con_chk (kl bB cxF []) PT bB 198 cxF cxJ cxjo cxP 806 cxt91 = true := fq_chk1 (fq_jn_eq _) rfl (by decide +kernel)   -- X3_alliesOf
theorem cxo91 : con_ok PT bB 198 cxF cxQ cxt91 := con_chk_ok (fun _ _ h => h) cxpp (kl_ok (fun _ h => (by cases h))) nw_class (fun _ => by decide) cxk91
def cxt92 : con := (148, [(2, 0, 1), (0, 1, 63)], [], [some (0, 0, 1)], [], 10, 800, true)
theorem cxk92 : con_chk (kl bB cxF [cxt91]) PT bB 198 cxF cxJ cxjo cxP 613 cxt92 = true := fq_chk1 (fq_jn_eq _) rfl (by decide +kernel)   -- X10_isLeague
theorem cxo92 : con_ok PT bB 198 cxF cxQ cxt92 := con_chk_ok (fun _ _ h => h) cxpp (kl_ok (List.forall_mem_cons.mpr ⟨cxo91, fun _ h => (by cases h)⟩)) nw_class (fun _ => by decide) cxk92
def cxt93 : con := (149, [(2, 0, 1), (2, 142, 1)], [], [some (0, 0, 9999)], [], 20, 1600, false)
theorem cxk93 : con_chk (kl bB cxF [cxt48]) PT bB 198 cxF cxJ cxjo cxP 587 cxt93 = true := fq_chk1 (fq_jn_eq _) rfl (by decide +kernel)   -- X10_worthAtHome
theorem cxo93 : con_ok PT bB 198 cxF cxQ cxt93 := con_chk_ok (fun _ _ h => h) cxpp (kl_ok (List.forall_mem_cons.mpr ⟨cxo48, fun _ h => (by cases h)⟩)) nw_class (fun h => by cases h) cxk93
def cxt94 : con := (149, [(2, 0, 1), (2, 145, 1)], [], [some (0, 0, 9999)], [], 20, 1600, false)
theorem cxk94 : con_chk (kl bB cxF [cxt52]) PT bB 198 cxF cxJ cxjo cxP 587 cxt94 = true := fq_chk1 (fq_jn_eq _) rfl (by decide +kernel)   -- X10_worthAtHome
theorem cxo94 : con_ok PT bB 198 cxF cxQ cxt94 := con_chk_ok (fun _ _ h => h) cxpp (kl_ok (List.forall_mem_cons.mpr ⟨cxo52, fun _ h => (by cases h)⟩)) nw_class (fun h => by cases h) cxk94
