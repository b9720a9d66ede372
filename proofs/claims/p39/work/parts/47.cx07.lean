/-! contracts -/
def cxt67 : con := (144, [(2, 0, 1), (0, 0, 5), (0, 6, 9), (0, (-9), 9)], [], [some (0, 0, 0)], [], 5, 400, false)
theorem cxk67 : con_chk (kl bB cxF []) PT bB 198 cxF cxJ cxjo cxP 445 cxt67 = true := by decide +kernel   -- X10_actEnvoy
theorem cxo67 : con_ok PT bB 198 cxF cxQ cxt67 := con_chk_ok (fun _ _ h => h) cxpp (kl_ok (fun _ h => (by cases h))) nw_class (fun h => by cases h) cxk67
def cxt68 : con := (142, [(2, 0, 1), (0, 8, 9), (0, 0, 5)], [], [some (0, 0, 0)], [], 5, 400, false)
theorem cxk68 : con_chk (kl bB cxF []) PT bB 198 cxF cxJ cxjo cxP 422 cxt68 = true := by decide +kernel   -- X10_actSend
theorem cxo68 : con_ok PT bB 198 cxF cxQ cxt68 := con_chk_ok (fun _ _ h => h) cxpp (kl_ok (fun _ h => (by cases h))) nw_class (fun h => by cases h) cxk68
def cxt69 : con := (142, [(2, 0, 1), (0, 8, 9), (0, 6, 9)], [], [some (0, 0, 0)], [], 5, 400, false)
theorem cxk69 : con_chk (kl bB cxF []) PT bB 198 cxF cxJ cxjo cxP 422 cxt69 = true := by decide +kernel   -- X10_actSend
theorem cxo69 : con_ok PT bB 198 cxF cxQ cxt69 := con_chk_ok (fun _ _ h => h) cxpp (kl_ok (fun _ h => (by cases h))) nw_class (fun h => by cases h) cxk69
def cxt70 : con := (142, [(2, 0, 1), (0, (-1), (-1)), (0, 6, 9)], [], [some (0, 0, 0)], [], 5, 400, false)
theorem cxk70 : con_chk (kl bB cxF []) PT bB 198 cxF cxJ cxjo cxP 418 cxt70 = true := by decide +kernel   -- X10_actSend
theorem cxo70 : con_ok PT bB 198 cxF cxQ cxt70 := con_chk_ok (fun _ _ h => h) cxpp (kl_ok (fun _ h => (by cases h))) nw_class (fun h => by cases h) cxk70
def cxt71 : con := (143, [(2, 0, 1), (0, (-1), (-1)), (0, 6, 9)], [], [some (0, 0, 0)], [], 5, 400, false)
theorem cxk71 : con_chk (kl bB cxF []) PT bB 198 cxF cxJ cxjo cxP 425 cxt71 = true := by decide +kernel   -- X10_actForgive
theorem cxo71 : con_ok PT bB 198 cxF cxQ cxt71 := con_chk_ok (fun _ _ h => h) cxpp (kl_ok (fun _ h => (by cases h))) nw_class (fun h => by cases h) cxk71
def cxt72 : con := (144, [(2, 0, 1), (0, (-1), (-1)), (0, 6, 9), (0, (-9), 9)], [], [some (0, 0, 0)], [], 5, 400, false)
theorem cxk72 : con_chk (kl bB cxF []) PT bB 198 cxF cxJ cxjo cxP 427 cxt72 = true := by decide +kernel   -- X10_actEnvoy
theorem cxo72 : con_ok PT bB 198 cxF cxQ cxt72 := con_chk_ok (fun _ _ h => h) cxpp (kl_ok (fun _ h => (by cases h))) nw_class (fun h => by cases h) cxk72
def cxt73 : con := (143, [(2, 0, 1), (0, 6, 9), (0, (-1), (-1))], [], [some (0, 0, 0)], [], 5, 400, false)
theorem cxk73 : con_chk (kl bB cxF []) PT bB 198 cxF cxJ cxjo cxP 429 cxt73 = true := by decide +kernel   -- X10_actForgive
theorem cxo73 : con_ok PT bB 198 cxF cxQ cxt73 := con_chk_ok (fun _ _ h => h) cxpp (kl_ok (fun _ h => (by cases h))) nw_class (fun h => by cases h) cxk73
def cxt74 : con := (143, [(2, 0, 1), (0, 6, 9), (0, 0, 5)], [], [some (0, 0, 0)], [], 5, 400, false)
theorem cxk74 : con_chk (kl bB cxF []) PT bB 198 cxF cxJ cxjo cxP 429 cxt74 = true := by decide +kernel   -- X10_actForgive
theorem cxo74 : con_ok PT bB 198 cxF cxQ cxt74 := con_chk_ok (fun _ _ h => h) cxpp (kl_ok (fun _ h => (by cases h))) nw_class (fun h => by cases h) cxk74
def cxt75 : con := (144, [(2, 0, 1), (0, 6, 9), (0, (-1), (-1)), (0, (-9), 9)], [], [some (0, 0, 0)], [], 5, 400, false)
theorem cxk75 : con_chk (kl bB cxF []) PT bB 198 cxF cxJ cxjo cxP 431 cxt75 = true := by decide +kernel   -- X10_actEnvoy
theorem cxo75 : con_ok PT bB 198 cxF cxQ cxt75 := con_chk_ok (fun _ _ h => h) cxpp (kl_ok (fun _ h => (by cases h))) nw_class (fun h => by cases h) cxk75
def cxt76 : con := (142, [(2, 0, 1), (0, 0, 7), (0, (-1), (-1))], [], [some (0, 0, 0)], [], 5, 400, false)
theorem cxk76 : con_chk (kl bB cxF []) PT bB 198 cxF cxJ cxjo cxP 433 cxt76 = true := by decide +kernel   -- X10_actSend
theorem cxo76 : con_ok PT bB 198 cxF cxQ cxt76 := con_chk_ok (fun _ _ h => h) cxpp (kl_ok (fun _ h => (by cases h))) nw_class (fun h => by cases h) cxk76
def cxt77 : con := (144, [(2, 0, 1), (0, 6, 9), (0, 0, 5), (0, (-9), 9)], [], [some (0, 0, 0)], [], 5, 400, false)
theorem cxk77 : con_chk (kl bB cxF []) PT bB 198 cxF cxJ cxjo cxP 431 cxt77 = true := by decide +kernel   -- X10_actEnvoy
theorem cxo77 : con_ok PT bB 198 cxF cxQ cxt77 := con_chk_ok (fun _ _ h => h) cxpp (kl_ok (fun _ h => (by cases h))) nw_class (fun h => by cases h) cxk77
def cxt78 : con := (70, [(2, 142, 1)], [], [some (0, (-2147483648), 2147483647)], [], 5, 400, false)
theorem cxk78 : con_chk (kl bB cxF []) PT bB 198 cxF cxJ cxjo cxP 420 cxt78 = true := by decide +kernel   -- X6_pop
theorem cxo78 : con_ok PT bB 198 cxF cxQ cxt78 := con_chk_ok (fun _ _ h => h) cxpp (kl_ok (fun _ h => (by cases h))) nw_class (fun h => by cases h) cxk78
def cxt79 : con := (69, [(2, 142, 1), (0, (-2147483648), 2147483647)], [], [none], [], 5, 400, false)
theorem cxk79 : con_chk (kl bB cxF []) PT bB 198 cxF cxJ cxjo cxP 421 cxt79 = true := by decide +kernel   -- X6_push
theorem cxo79 : con_ok PT bB 198 cxF cxQ cxt79 := con_chk_ok (fun _ _ h => h) cxpp (kl_ok (fun _ h => (by cases h))) nw_class (fun h => by cases h) cxk79
def cxt80 : con := (71, [(0, (-2147483648), 2147483647), (0, (-2147483648), 2147483647), (0, (-2147483648), 2147483647)], [], [some (0, (-2147483648), 2147483647)], [], 5, 400, true)
theorem cxk80 : con_chk (kl bB cxF []) PT bB 198 cxF cxJ cxjo cxP 456 cxt80 = true := by decide +kernel   -- X6_joined
theorem cxo80 : con_ok PT bB 198 cxF cxQ cxt80 := con_chk_ok (fun _ _ h => h) cxpp (kl_ok (fun _ h => (by cases h))) nw_class (fun _ => by decide) cxk80
def cxt81 : con := (68, [(2, 142, 1), (2, 12, 1)], [], [some (0, (-2147483648), 2147483647)], [], 10, 800, false)
theorem cxk81 : con_chk (kl bB cxF [cxt7, cxt78, cxt79, cxt80]) PT bB 198 cxF cxJ cxjo cxP 3092 cxt81 = true := by decide +kernel   -- X6_evaluate
theorem cxo81 : con_ok PT bB 198 cxF cxQ cxt81 := con_chk_ok (fun _ _ h => h) cxpp (kl_ok (List.forall_mem_cons.mpr ⟨cxo7, List.forall_mem_cons.mpr ⟨cxo78, List.forall_mem_cons.mpr ⟨cxo79, List.forall_mem_cons.mpr ⟨cxo80, fun _ h => (by cases h)⟩⟩⟩⟩)) nw_class (fun h => by cases h) cxk81
def cxt82 : con := (39, [(2, 5, 1), (2, 142, 1), (2, 13, 1), (0, 0, 7), (0, 0, 5)], [], [some (0, 0, 999)], [], 15, 1200, false)
theorem cxk82 : con_chk (kl bB cxF [cxt65, cxt81]) PT bB 198 cxF cxJ cxjo cxP 499 cxt82 = true := by decide +kernel   -- X3_valueFor
theorem cxo82 : con_ok PT bB 198 cxF cxQ cxt82 := con_chk_ok (fun _ _ h => h) cxpp (kl_ok (List.forall_mem_cons.mpr ⟨cxo65, List.forall_mem_cons.mpr ⟨cxo81, fun _ h => (by cases h)⟩⟩)) nw_class (fun h => by cases h) cxk82
def cxt83 : con := (77, [(2, 13, 1), (0, 0, 7), (0, 0, 5), (0, 0, 9999), (0, 0, 999)], [], [some (0, (-6), 4)], [], 5, 400, true)
theorem cxk83 : con_chk (kl bB cxF []) PT bB 198 cxF cxJ cxjo cxP 459 cxt83 = true := by decide +kernel   -- X7_esteemGained
theorem cxo83 : con_ok PT bB 198 cxF cxQ cxt83 := con_chk_ok (fun _ _ h => h) cxpp (kl_ok (fun _ h => (by cases h))) nw_class (fun _ => by decide) cxk83
def cxt84 : con := (40, [(2, 5, 1), (2, 13, 1), (0, 0, 7), (0, 0, 5), (0, 0, 999)], [], [none], [], 10, 800, false)
theorem cxk84 : con_chk (kl bB cxF [cxt83]) PT bB 198 cxF cxJ cxjo cxP 534 cxt84 = true := by decide +kernel   -- X3_deliver
theorem cxo84 : con_ok PT bB 198 cxF cxQ cxt84 := con_chk_ok (fun _ _ h => h) cxpp (kl_ok (List.forall_mem_cons.mpr ⟨cxo83, fun _ h => (by cases h)⟩)) nw_class (fun h => by cases h) cxk84
def cxt85 : con := (70, [(2, 145, 1)], [], [some (0, (-2147483648), 2147483647)], [], 5, 400, false)
theorem cxk85 : con_chk (kl bB cxF []) PT bB 198 cxF cxJ cxjo cxP 420 cxt85 = true := by decide +kernel   -- X6_pop
theorem cxo85 : con_ok PT bB 198 cxF cxQ cxt85 := con_chk_ok (fun _ _ h => h) cxpp (kl_ok (fun _ h => (by cases h))) nw_class (fun h => by cases h) cxk85
def cxt86 : con := (69, [(2, 145, 1), (0, (-2147483648), 2147483647)], [], [none], [], 5, 400, false)
theorem cxk86 : con_chk (kl bB cxF []) PT bB 198 cxF cxJ cxjo cxP 421 cxt86 = true := by decide +kernel   -- X6_push
theorem cxo86 : con_ok PT bB 198 cxF cxQ cxt86 := con_chk_ok (fun _ _ h => h) cxpp (kl_ok (fun _ h => (by cases h))) nw_class (fun h => by cases h) cxk86
def cxt87 : con := (68, [(2, 145, 1), (2, 12, 1)], [], [some (0, (-2147483648), 2147483647)], [], 10, 800, false)
theorem cxk87 : con_chk (kl bB cxF [cxt7, cxt80, cxt85, cxt86]) PT bB 198 cxF cxJ cxjo cxP 3092 cxt87 = true := by decide +kernel   -- X6_evaluate
theorem cxo87 : con_ok PT bB 198 cxF cxQ cxt87 := con_chk_ok (fun _ _ h => h) cxpp (kl_ok (List.forall_mem_cons.mpr ⟨cxo7, List.forall_mem_cons.mpr ⟨cxo80, List.forall_mem_cons.mpr ⟨cxo85, List.forall_mem_cons.mpr ⟨cxo86, fun _ h => (by cases h)⟩⟩⟩⟩)) nw_class (fun h => by cases h) cxk87
def cxt88 : con := (39, [(2, 5, 1), (2, 145, 1), (2, 13, 1), (0, 0, 7), (0, 0, 5)], [], [some (0, 0, 999)], [], 15, 1200, false)
theorem cxk88 : con_chk (kl bB cxF [cxt65, cxt87]) PT bB 198 cxF cxJ cxjo cxP 499 cxt88 = true := by decide +kernel   -- X3_valueFor
theorem cxo88 : con_ok PT bB 198 cxF cxQ cxt88 := con_chk_ok (fun _ _ h => h) cxpp (kl_ok (List.forall_mem_cons.mpr ⟨cxo65, List.forall_mem_cons.mpr ⟨cxo87, fun _ h => (by cases h)⟩⟩)) nw_class (fun h => by cases h) cxk88
def cxt89 : con := (142, [(2, 0, 1), (0, 0, 7), (0, 0, 5)], [], [some (0, 0, 1)], [], 20, 1600, false)
theorem cxk89 : con_chk (kl bB cxF [cxt82, cxt84, cxt88]) PT bB 198 cxF cxJ cxjo cxP 468 cxt89 = true := by decide +kernel   -- X10_actSend
theorem cxo89 : con_ok PT bB 198 cxF cxQ cxt89 := con_chk_ok (fun _ _ h => h) cxpp (kl_ok (List.forall_mem_cons.mpr ⟨cxo82, List.forall_mem_cons.mpr ⟨cxo84, List.forall_mem_cons.mpr ⟨cxo88, fun _ h => (by cases h)⟩⟩⟩)) nw_class (fun h => by cases h) cxk89
def cxt90 : con := (143, [(2, 0, 1), (0, 0, 5), (0, (-1), (-1))], [], [some (0, 0, 0)], [], 5, 400, false)
theorem cxk90 : con_chk (kl bB cxF []) PT bB 198 cxF cxJ cxjo cxP 439 cxt90 = true := by decide +kernel   -- X10_actForgive
theorem cxo90 : con_ok PT bB 198 cxF cxQ cxt90 := con_chk_ok (fun _ _ h => h) cxpp (kl_ok (fun _ h => (by cases h))) nw_class (fun h => by cases h) cxk90
def cxt91 : con := (143, [(2, 0, 1), (0, 6, 9), (0, 6, 9)], [], [some (0, 0, 0)], [], 5, 400, false)
theorem cxk91 : con_chk (kl bB cxF []) PT bB 198 cxF cxJ cxjo cxP 429 cxt91 = true := by decide +kernel   -- X10_actForgive
theorem cxo91 : con_ok PT bB 198 cxF cxQ cxt91 := con_chk_ok (fun _ _ h => h) cxpp (kl_ok (fun _ h => (by cases h))) nw_class (fun h => by cases h) cxk91
def cxt92 : con := (143, [(2, 0, 1), (0, 0, 5), (0, 0, 5)], [], [some (0, 0, 1)], [], 5, 400, false)
theorem cxk92 : con_chk (kl bB cxF []) PT bB 198 cxF cxJ cxjo cxP 484 cxt92 = true := by decide +kernel   -- X10_actForgive
theorem cxo92 : con_ok PT bB 198 cxF cxQ cxt92 := con_chk_ok (fun _ _ h => h) cxpp (kl_ok (fun _ h => (by cases h))) nw_class (fun h => by cases h) cxk92
def cxt93 : con := (144, [(2, 0, 1), (0, 0, 5), (0, (-1), (-1)), (0, (-9), 9)], [], [some (0, 0, 0)], [], 5, 400, false)
theorem cxk93 : con_chk (kl bB cxF []) PT bB 198 cxF cxJ cxjo cxP 441 cxt93 = true := by decide +kernel   -- X10_actEnvoy
theorem cxo93 : con_ok PT bB 198 cxF cxQ cxt93 := con_chk_ok (fun _ _ h => h) cxpp (kl_ok (fun _ h => (by cases h))) nw_class (fun h => by cases h) cxk93
def cxt94 : con := (144, [(2, 0, 1), (0, 6, 9), (0, 6, 9), (0, (-9), 9)], [], [some (0, 0, 0)], [], 5, 400, false)
theorem cxk94 : con_chk (kl bB cxF []) PT bB 198 cxF cxJ cxjo cxP 431 cxt94 = true := by decide +kernel   -- X10_actEnvoy
theorem cxo94 : con_ok PT bB 198 cxF cxQ cxt94 := con_chk_ok (fun _ _ h => h) cxpp (kl_ok (fun _ h => (by cases h))) nw_class (fun h => by cases h) cxk94
def cxt95 : con := (138, [(2, 0, 1), (0, 0, 5), (0, 0, 5), (0, (-2147483648), 2147483647)], [], [none], [], 5, 400, false)
theorem cxk95 : con_chk (kl bB cxF []) PT bB 198 cxF cxJ cxjo cxP 431 cxt95 = true := by decide +kernel   -- X10_hearEnvoy
theorem cxo95 : con_ok PT bB 198 cxF cxQ cxt95 := con_chk_ok (fun _ _ h => h) cxpp (kl_ok (fun _ h => (by cases h))) nw_class (fun h => by cases h) cxk95
def cxt96 : con := (144, [(2, 0, 1), (0, 0, 5), (0, 0, 5), (0, (-9), 9)], [], [some (0, 0, 1)], [], 10, 800, false)
theorem cxk96 : con_chk (kl bB cxF [cxt95]) PT bB 198 cxF cxJ cxjo cxP 472 cxt96 = true := by decide +kernel   -- X10_actEnvoy
theorem cxo96 : con_ok PT bB 198 cxF cxQ cxt96 := con_chk_ok (fun _ _ h => h) cxpp (kl_ok (List.forall_mem_cons.mpr ⟨cxo95, fun _ h => (by cases h)⟩)) nw_class (fun h => by cases h) cxk96
def cxt97 : con := (142, [(2, 0, 1), (0, (-1), (-1)), (0, (-1), (-1))], [], [some (0, 0, 0)], [], 5, 400, false)
theorem cxk97 : con_chk (kl bB cxF []) PT bB 198 cxF cxJ cxjo cxP 418 cxt97 = true := by decide +kernel   -- X10_actSend
theorem cxo97 : con_ok PT bB 198 cxF cxQ cxt97 := con_chk_ok (fun _ _ h => h) cxpp (kl_ok (fun _ h => (by cases h))) nw_class (fun h => by cases h) cxk97
def cxt98 : con := (143, [(2, 0, 1), (0, (-1), (-1)), (0, (-1), (-1))], [], [some (0, 0, 0)], [], 5, 400, false)
theorem cxk98 : con_chk (kl bB cxF []) PT bB 198 cxF cxJ cxjo cxP 425 cxt98 = true := by decide +kernel   -- X10_actForgive
theorem cxo98 : con_ok PT bB 198 cxF cxQ cxt98 := con_chk_ok (fun _ _ h => h) cxpp (kl_ok (fun _ h => (by cases h))) nw_class (fun h => by cases h) cxk98
def cxt99 : con := (142, [(2, 0, 1), (0, (-1), (-1)), (0, 0, 5)], [], [some (0, 0, 0)], [], 5, 400, false)
theorem cxk99 : con_chk (kl bB cxF []) PT bB 198 cxF cxJ cxjo cxP 418 cxt99 = true := by decide +kernel   -- X10_actSend
theorem cxo99 : con_ok PT bB 198 cxF cxQ cxt99 := con_chk_ok (fun _ _ h => h) cxpp (kl_ok (fun _ h => (by cases h))) nw_class (fun h => by cases h) cxk99
def cxt100 : con := (142, [(2, 0, 1), (0, 0, 7), (0, 6, 9)], [], [some (0, 0, 0)], [], 5, 400, false)
theorem cxk100 : con_chk (kl bB cxF []) PT bB 198 cxF cxJ cxjo cxP 437 cxt100 = true := by decide +kernel   -- X10_actSend
theorem cxo100 : con_ok PT bB 198 cxF cxQ cxt100 := con_chk_ok (fun _ _ h => h) cxpp (kl_ok (fun _ h => (by cases h))) nw_class (fun h => by cases h) cxk100
def cxt101 : con := (143, [(2, 0, 1), (0, (-1), (-1)), (0, 0, 5)], [], [some (0, 0, 0)], [], 5, 400, false)
theorem cxk101 : con_chk (kl bB cxF []) PT bB 198 cxF cxJ cxjo cxP 425 cxt101 = true := by decide +kernel   -- X10_actForgive
theorem cxo101 : con_ok PT bB 198 cxF cxQ cxt101 := con_chk_ok (fun _ _ h => h) cxpp (kl_ok (fun _ h => (by cases h))) nw_class (fun h => by cases h) cxk101
def cxt102 : con := (142, [(2, 0, 1), (0, 8, 9), (0, (-1), (-1))], [], [some (0, 0, 0)], [], 5, 400, false)
theorem cxk102 : con_chk (kl bB cxF []) PT bB 198 cxF cxJ cxjo cxP 422 cxt102 = true := by decide +kernel   -- X10_actSend
theorem cxo102 : con_ok PT bB 198 cxF cxQ cxt102 := con_chk_ok (fun _ _ h => h) cxpp (kl_ok (fun _ h => (by cases h))) nw_class (fun h => by cases h) cxk102
def cxt103 : con := (143, [(2, 0, 1), (0, 0, 5), (0, 6, 9)], [], [some (0, 0, 0)], [], 5, 400, false)
theorem cxk103 : con_chk (kl bB cxF []) PT bB 198 cxF cxJ cxjo cxP 443 cxt103 = true := by decide +kernel   -- X10_actForgive
theorem cxo103 : con_ok PT bB 198 cxF cxQ cxt103 := con_chk_ok (fun _ _ h => h) cxpp (kl_ok (fun _ h => (by cases h))) nw_class (fun h => by cases h) cxk103
def cxt104 : con := (144, [(2, 0, 1), (0, (-1), (-1)), (0, (-1), (-1)), (0, (-9), 9)], [], [some (0, 0, 0)], [], 5, 400, false)
theorem cxk104 : con_chk (kl bB cxF []) PT bB 198 cxF cxJ cxjo cxP 427 cxt104 = true := by decide +kernel   -- X10_actEnvoy
theorem cxo104 : con_ok PT bB 198 cxF cxQ cxt104 := con_chk_ok (fun _ _ h => h) cxpp (kl_ok (fun _ h => (by cases h))) nw_class (fun h => by cases h) cxk104
def cxt105 : con := (144, [(2, 0, 1), (0, (-1), (-1)), (0, 0, 5), (0, (-9), 9)], [], [some (0, 0, 0)], [], 5, 400, false)
theorem cxk105 : con_chk (kl bB cxF []) PT bB 198 cxF cxJ cxjo cxP 427 cxt105 = true := by decide +kernel   -- X10_actEnvoy
theorem cxo105 : con_ok PT bB 198 cxF cxQ cxt105 := con_chk_ok (fun _ _ h => h) cxpp (kl_ok (fun _ h => (by cases h))) nw_class (fun h => by cases h) cxk105
def cxt106 : con := (141, [(2, 0, 1), (0, 0, 79)], [], [some (0, 0, 1)], [], 25, 2000, false)
theorem cxk106 : con_chk (kl bB cxF [cxt1, cxt2, cxt62, cxt67, cxt68, cxt69, cxt70, cxt71, cxt72, cxt73, cxt74, cxt75, cxt76, cxt77, cxt89, cxt90, cxt91, cxt92, cxt93, cxt94, cxt96, cxt97, cxt98, cxt99, cxt100, cxt101, cxt102, cxt103, cxt104, cxt105]) PT bB 198 cxF cxJ cxjo cxP 460 cxt106 = true := by decide +kernel   -- X10_doAct
theorem cxo106 : con_ok PT bB 198 cxF cxQ cxt106 := con_chk_ok (fun _ _ h => h) cxpp (kl_ok (List.forall_mem_cons.mpr ⟨cxo1, List.forall_mem_cons.mpr ⟨cxo2, List.forall_mem_cons.mpr ⟨cxo62, List.forall_mem_cons.mpr ⟨cxo67, List.forall_mem_cons.mpr ⟨cxo68, List.forall_mem_cons.mpr ⟨cxo69, List.forall_mem_cons.mpr ⟨cxo70, List.forall_mem_cons.mpr ⟨cxo71, List.forall_mem_cons.mpr ⟨cxo72, List.forall_mem_cons.mpr ⟨cxo73, List.forall_mem_cons.mpr ⟨cxo74, List.forall_mem_cons.mpr ⟨cxo75, List.forall_mem_cons.mpr ⟨cxo76, List.forall_mem_cons.mpr ⟨cxo77, List.forall_mem_cons.mpr ⟨cxo89, List.forall_mem_cons.mpr ⟨cxo90, List.forall_mem_cons.mpr ⟨cxo91, List.forall_mem_cons.mpr ⟨cxo92, List.forall_mem_cons.mpr ⟨cxo93, List.forall_mem_cons.mpr ⟨cxo94, List.forall_mem_cons.mpr ⟨cxo96, List.forall_mem_cons.mpr ⟨cxo97, List.forall_mem_cons.mpr ⟨cxo98, List.forall_mem_cons.mpr ⟨cxo99, List.forall_mem_cons.mpr ⟨cxo100, List.forall_mem_cons.mpr ⟨cxo101, List.forall_mem_cons.mpr ⟨cxo102, List.forall_mem_cons.mpr ⟨cxo103, List.forall_mem_cons.mpr ⟨cxo104, List.forall_mem_cons.mpr ⟨cxo105, fun _ h => (by cases h)⟩⟩⟩⟩⟩⟩⟩⟩⟩⟩⟩⟩⟩⟩⟩⟩⟩⟩⟩⟩⟩⟩⟩⟩⟩⟩⟩⟩⟩⟩)) nw_class (fun h => by cases h) cxk106
def cxt107 : con := (73, [(2, 13, 1), (2, 93, 1)], [], [none], [], 5, 400, false)
theorem cxk107 : con_chk (kl bB cxF []) PT bB 198 cxF cxJ cxjo cxP 449 cxt107 = true := by decide +kernel   -- X7_copyFrom
theorem cxo107 : con_ok PT bB 198 cxF cxQ cxt107 := con_chk_ok (fun _ _ h => h) cxpp (kl_ok (fun _ h => (by cases h))) nw_class (fun h => by cases h) cxk107
