/-! contracts -/
def cxt95 : con := (151, [(1, (-9223372036854775808), 9223372036854775807), (1, (-9223372036854775808), 9223372036854775807)], [], [some (1, (-9223372036854775808), 9223372036854775807)], [], 5, 400, true)
theorem cxk95 : con_chk (kl bB cxF []) PT bB 198 cxF cxJ cxjo cxP 3211 cxt95 = true := fq_chk1 (fq_jn_eq _) rfl (by decide +kernel)   -- X10_greatestDivisor
theorem cxo95 : con_ok PT bB 198 cxF cxQ cxt95 := con_chk_ok (fun _ _ h => h) cxpp (kl_ok (fun _ h => (by cases h))) nw_class (fun _ => by decide) cxk95
def cxt96 : con := (54, [(2, 3, 1), (1, (-9223372036854775808), 9223372036854775807)], [], [none], [], 5, 400, false)
theorem cxk96 : con_chk (kl bB cxF []) PT bB 198 cxF cxJ cxjo cxP 421 cxt96 = true := fq_chk1 (fq_jn_eq _) rfl (by decide +kernel)   -- X5_tell
theorem cxo96 : con_ok PT bB 198 cxF cxQ cxt96 := con_chk_ok (fun _ _ h => h) cxpp (kl_ok (fun _ h => (by cases h))) nw_class (fun h => by cases h) cxk96
def cxt97 : con := (56, [(2, 3, 1), (1, (-9223372036854775808), 9223372036854775807), (1, (-9223372036854775808), 9223372036854775807)], [], [none], [], 10, 800, false)
theorem cxk97 : con_chk (kl bB cxF [cxt96]) PT bB 198 cxF cxJ cxjo cxP 413 cxt97 = true := fq_chk1 (fq_jn_eq _) rfl (by decide +kernel)   -- X5_tellTwo
theorem cxo97 : con_ok PT bB 198 cxF cxQ cxt97 := con_chk_ok (fun _ _ h => h) cxpp (kl_ok (List.forall_mem_cons.mpr ⟨cxo96, fun _ h => (by cases h)⟩)) nw_class (fun h => by cases h) cxk97
def cxt98 : con := (150, [(2, 0, 1), (1, (-9223372036854775808), 9223372036854775807), (1, (-9223372036854775808), 9223372036854775807)], [], [none], [], 15, 1200, false)
theorem cxk98 : con_chk (kl bB cxF [cxt95, cxt97]) PT bB 198 cxF cxJ cxjo cxP 426 cxt98 = true := fq_chk1 (fq_jn_eq _) rfl (by decide +kernel)   -- X10_tellFraction
theorem cxo98 : con_ok PT bB 198 cxF cxQ cxt98 := con_chk_ok (fun _ _ h => h) cxpp (kl_ok (List.forall_mem_cons.mpr ⟨cxo95, List.forall_mem_cons.mpr ⟨cxo97, fun _ h => (by cases h)⟩⟩)) nw_class (fun h => by cases h) cxk98
def cxt99 : con := (152, [(0, 0, 10), (0, 0, 12)], [], [some (1, (-9223372036854775808), 9223372036854775807)], [], 5, 400, true)
theorem cxk99 : con_chk (kl bB cxF []) PT bB 198 cxF cxJ cxjo cxP 763 cxt99 = true := fq_chk1 (fq_jn_eq _) rfl (by decide +kernel)   -- X10_power
theorem cxo99 : con_ok PT bB 198 cxF cxQ cxt99 := con_chk_ok (fun _ _ h => h) cxpp (kl_ok (fun _ h => (by cases h))) nw_class (fun _ => by decide) cxk99
def cxt100 : con := (154, [(0, 0, 9), (0, 0, 9), (0, 0, 20)], [], [some (0, (-20), 20)], [], 5, 400, true)
theorem cxk100 : con_chk (kl bB cxF []) PT bB 198 cxF cxJ cxjo cxP 432 cxt100 = true := fq_chk1 (fq_jn_eq _) rfl (by decide +kernel)   -- X10_gainOf
theorem cxo100 : con_ok PT bB 198 cxF cxQ cxt100 := con_chk_ok (fun _ _ h => h) cxpp (kl_ok (fun _ h => (by cases h))) nw_class (fun _ => by decide) cxk100
def cxt101 : con := (153, [(0, 0, 9), (0, 0, 9), (0, 0, 20)], [], [some (0, 0, 1)], [], 10, 800, true)
theorem cxk101 : con_chk (kl bB cxF [cxt100]) PT bB 198 cxF cxJ cxjo cxP 567 cxt101 = true := fq_chk1 (fq_jn_eq _) rfl (by decide +kernel)   -- X10_isBestReply
theorem cxo101 : con_ok PT bB 198 cxF cxQ cxt101 := con_chk_ok (fun _ _ h => h) cxpp (kl_ok (List.forall_mem_cons.mpr ⟨cxo100, fun _ h => (by cases h)⟩)) nw_class (fun _ => by decide) cxk101
def cxt102 : con := (158, [(0, (-2147483648), 2147483647)], [], [some (0, (-1), 7)], [], 5, 400, true)
theorem cxk102 : con_chk (kl bB cxF []) PT bB 198 cxF cxJ cxjo cxP 511 cxt102 = true := fq_chk1 (fq_jn_eq _) rfl (by decide +kernel)   -- X10_firstOf
theorem cxo102 : con_ok PT bB 198 cxF cxQ cxt102 := con_chk_ok (fun _ _ h => h) cxpp (kl_ok (fun _ h => (by cases h))) nw_class (fun _ => by decide) cxk102
def cxt103 : con := (73, [(2, 105, 1), (2, 13, 1)], [], [none], [], 5, 400, false)
theorem cxk103 : con_chk (kl bB cxF []) PT bB 198 cxF cxJ cxjo cxP 449 cxt103 = true := fq_chk1 (fq_jn_eq _) rfl (by decide +kernel)   -- X7_copyFrom
theorem cxo103 : con_ok PT bB 198 cxF cxQ cxt103 := con_chk_ok (fun _ _ h => h) cxpp (kl_ok (fun _ h => (by cases h))) nw_class (fun h => by cases h) cxk103
def cxt104 : con := (73, [(2, 111, 1), (2, 13, 1)], [], [none], [], 5, 400, false)
theorem cxk104 : con_chk (kl bB cxF []) PT bB 198 cxF cxJ cxjo cxP 449 cxt104 = true := fq_chk1 (fq_jn_eq _) rfl (by decide +kernel)   -- X7_copyFrom
theorem cxo104 : con_ok PT bB 198 cxF cxQ cxt104 := con_chk_ok (fun _ _ h => h) cxpp (kl_ok (fun _ h => (by cases h))) nw_class (fun h => by cases h) cxk104
def cxt105 : con := (73, [(2, 117, 1), (2, 13, 1)], [], [none], [], 5, 400, false)
theorem cxk105 : con_chk (kl bB cxF []) PT bB 198 cxF cxJ cxjo cxP 449 cxt105 = true := fq_chk1 (fq_jn_eq _) rfl (by decide +kernel)   -- X7_copyFrom
theorem cxo105 : con_ok PT bB 198 cxF cxQ cxt105 := con_chk_ok (fun _ _ h => h) cxpp (kl_ok (fun _ h => (by cases h))) nw_class (fun h => by cases h) cxk105
def cxt106 : con := (73, [(2, 27, 1), (2, 13, 1)], [], [none], [], 5, 400, false)
theorem cxk106 : con_chk (kl bB cxF []) PT bB 198 cxF cxJ cxjo cxP 449 cxt106 = true := fq_chk1 (fq_jn_eq _) rfl (by decide +kernel)   -- X7_copyFrom
theorem cxo106 : con_ok PT bB 198 cxF cxQ cxt106 := con_chk_ok (fun _ _ h => h) cxpp (kl_ok (fun _ h => (by cases h))) nw_class (fun h => by cases h) cxk106
def cxt107 : con := (73, [(2, 33, 1), (2, 13, 1)], [], [none], [], 5, 400, false)
theorem cxk107 : con_chk (kl bB cxF []) PT bB 198 cxF cxJ cxjo cxP 449 cxt107 = true := fq_chk1 (fq_jn_eq _) rfl (by decide +kernel)   -- X7_copyFrom
theorem cxo107 : con_ok PT bB 198 cxF cxQ cxt107 := con_chk_ok (fun _ _ h => h) cxpp (kl_ok (fun _ h => (by cases h))) nw_class (fun h => by cases h) cxk107
def cxt108 : con := (73, [(2, 39, 1), (2, 13, 1)], [], [none], [], 5, 400, false)
theorem cxk108 : con_chk (kl bB cxF []) PT bB 198 cxF cxJ cxjo cxP 449 cxt108 = true := fq_chk1 (fq_jn_eq _) rfl (by decide +kernel)   -- X7_copyFrom
theorem cxo108 : con_ok PT bB 198 cxF cxQ cxt108 := con_chk_ok (fun _ _ h => h) cxpp (kl_ok (fun _ h => (by cases h))) nw_class (fun h => by cases h) cxk108
def cxt109 : con := (73, [(2, 45, 1), (2, 13, 1)], [], [none], [], 5, 400, false)
theorem cxk109 : con_chk (kl bB cxF []) PT bB 198 cxF cxJ cxjo cxP 449 cxt109 = true := fq_chk1 (fq_jn_eq _) rfl (by decide +kernel)   -- X7_copyFrom
theorem cxo109 : con_ok PT bB 198 cxF cxQ cxt109 := con_chk_ok (fun _ _ h => h) cxpp (kl_ok (fun _ h => (by cases h))) nw_class (fun h => by cases h) cxk109
def cxt110 : con := (73, [(2, 51, 1), (2, 13, 1)], [], [none], [], 5, 400, false)
theorem cxk110 : con_chk (kl bB cxF []) PT bB 198 cxF cxJ cxjo cxP 449 cxt110 = true := fq_chk1 (fq_jn_eq _) rfl (by decide +kernel)   -- X7_copyFrom
theorem cxo110 : con_ok PT bB 198 cxF cxQ cxt110 := con_chk_ok (fun _ _ h => h) cxpp (kl_ok (fun _ h => (by cases h))) nw_class (fun h => by cases h) cxk110
def cxt111 : con := (73, [(2, 57, 1), (2, 13, 1)], [], [none], [], 5, 400, false)
theorem cxk111 : con_chk (kl bB cxF []) PT bB 198 cxF cxJ cxjo cxP 449 cxt111 = true := fq_chk1 (fq_jn_eq _) rfl (by decide +kernel)   -- X7_copyFrom
theorem cxo111 : con_ok PT bB 198 cxF cxQ cxt111 := con_chk_ok (fun _ _ h => h) cxpp (kl_ok (fun _ h => (by cases h))) nw_class (fun h => by cases h) cxk111
def cxt112 : con := (73, [(2, 63, 1), (2, 13, 1)], [], [none], [], 5, 400, false)
theorem cxk112 : con_chk (kl bB cxF []) PT bB 198 cxF cxJ cxjo cxP 449 cxt112 = true := fq_chk1 (fq_jn_eq _) rfl (by decide +kernel)   -- X7_copyFrom
theorem cxo112 : con_ok PT bB 198 cxF cxQ cxt112 := con_chk_ok (fun _ _ h => h) cxpp (kl_ok (fun _ h => (by cases h))) nw_class (fun h => by cases h) cxk112
def cxt113 : con := (73, [(2, 69, 1), (2, 13, 1)], [], [none], [], 5, 400, false)
theorem cxk113 : con_chk (kl bB cxF []) PT bB 198 cxF cxJ cxjo cxP 449 cxt113 = true := fq_chk1 (fq_jn_eq _) rfl (by decide +kernel)   -- X7_copyFrom
theorem cxo113 : con_ok PT bB 198 cxF cxQ cxt113 := con_chk_ok (fun _ _ h => h) cxpp (kl_ok (fun _ h => (by cases h))) nw_class (fun h => by cases h) cxk113
def cxt114 : con := (73, [(2, 75, 1), (2, 13, 1)], [], [none], [], 5, 400, false)
theorem cxk114 : con_chk (kl bB cxF []) PT bB 198 cxF cxJ cxjo cxP 449 cxt114 = true := fq_chk1 (fq_jn_eq _) rfl (by decide +kernel)   -- X7_copyFrom
theorem cxo114 : con_ok PT bB 198 cxF cxQ cxt114 := con_chk_ok (fun _ _ h => h) cxpp (kl_ok (fun _ h => (by cases h))) nw_class (fun h => by cases h) cxk114
def cxt115 : con := (73, [(2, 81, 1), (2, 13, 1)], [], [none], [], 5, 400, false)
theorem cxk115 : con_chk (kl bB cxF []) PT bB 198 cxF cxJ cxjo cxP 449 cxt115 = true := fq_chk1 (fq_jn_eq _) rfl (by decide +kernel)   -- X7_copyFrom
theorem cxo115 : con_ok PT bB 198 cxF cxQ cxt115 := con_chk_ok (fun _ _ h => h) cxpp (kl_ok (fun _ h => (by cases h))) nw_class (fun h => by cases h) cxk115
def cxt116 : con := (73, [(2, 87, 1), (2, 13, 1)], [], [none], [], 5, 400, false)
theorem cxk116 : con_chk (kl bB cxF []) PT bB 198 cxF cxJ cxjo cxP 449 cxt116 = true := fq_chk1 (fq_jn_eq _) rfl (by decide +kernel)   -- X7_copyFrom
theorem cxo116 : con_ok PT bB 198 cxF cxQ cxt116 := con_chk_ok (fun _ _ h => h) cxpp (kl_ok (fun _ h => (by cases h))) nw_class (fun h => by cases h) cxk116
def cxt117 : con := (73, [(2, 93, 1), (2, 13, 1)], [], [none], [], 5, 400, false)
theorem cxk117 : con_chk (kl bB cxF []) PT bB 198 cxF cxJ cxjo cxP 449 cxt117 = true := fq_chk1 (fq_jn_eq _) rfl (by decide +kernel)   -- X7_copyFrom
theorem cxo117 : con_ok PT bB 198 cxF cxQ cxt117 := con_chk_ok (fun _ _ h => h) cxpp (kl_ok (fun _ h => (by cases h))) nw_class (fun h => by cases h) cxk117
def cxt118 : con := (73, [(2, 99, 1), (2, 13, 1)], [], [none], [], 5, 400, false)
theorem cxk118 : con_chk (kl bB cxF []) PT bB 198 cxF cxJ cxjo cxP 449 cxt118 = true := fq_chk1 (fq_jn_eq _) rfl (by decide +kernel)   -- X7_copyFrom
theorem cxo118 : con_ok PT bB 198 cxF cxQ cxt118 := con_chk_ok (fun _ _ h => h) cxpp (kl_ok (fun _ h => (by cases h))) nw_class (fun h => by cases h) cxk118
def cxt119 : con := (16, [(2, 25, 1), (2, 13, 1)], [], [none], [], 10, 800, false)
theorem cxk119 : con_chk (kl bB cxF [cxt103, cxt104, cxt105, cxt106, cxt107, cxt108, cxt109, cxt110, cxt111, cxt112, cxt113, cxt114, cxt115, cxt116, cxt117, cxt118]) PT bB 198 cxF cxJ cxjo cxP 417 cxt119 = true := fq_chk1 (fq_jn_eq _) rfl (by decide +kernel)   -- X2_mark
theorem cxo119 : con_ok PT bB 198 cxF cxQ cxt119 := con_chk_ok (fun _ _ h => h) cxpp (kl_ok (List.forall_mem_cons.mpr ⟨cxo103, List.forall_mem_cons.mpr ⟨cxo104, List.forall_mem_cons.mpr ⟨cxo105, List.forall_mem_cons.mpr ⟨cxo106, List.forall_mem_cons.mpr ⟨cxo107, List.forall_mem_cons.mpr ⟨cxo108, List.forall_mem_cons.mpr ⟨cxo109, List.forall_mem_cons.mpr ⟨cxo110, List.forall_mem_cons.mpr ⟨cxo111, List.forall_mem_cons.mpr ⟨cxo112, List.forall_mem_cons.mpr ⟨cxo113, List.forall_mem_cons.mpr ⟨cxo114, List.forall_mem_cons.mpr ⟨cxo115, List.forall_mem_cons.mpr ⟨cxo116, List.forall_mem_cons.mpr ⟨cxo117, List.forall_mem_cons.mpr ⟨cxo118, fun _ h => (by cases h)⟩⟩⟩⟩⟩⟩⟩⟩⟩⟩⟩⟩⟩⟩⟩⟩)) nw_class (fun h => by cases h) cxk119
def cxt120 : con := (17, [(2, 25, 1)], [], [none], [], 5, 400, false)
theorem cxk120 : con_chk (kl bB cxF []) PT bB 198 cxF cxJ cxjo cxP 428 cxt120 = true := fq_chk1 (fq_jn_eq _) rfl (by decide +kernel)   -- X2_commit
theorem cxo120 : con_ok PT bB 198 cxF cxQ cxt120 := con_chk_ok (fun _ _ h => h) cxpp (kl_ok (fun _ h => (by cases h))) nw_class (fun h => by cases h) cxk120
def cxt121 : con := (18, [(2, 25, 1), (2, 13, 1)], [], [none], [], 15, 1200, false)
theorem cxk121 : con_chk (kl bB cxF [cxt119, cxt120]) PT bB 198 cxF cxJ cxjo cxP 406 cxt121 = true := fq_chk1 (fq_jn_eq _) rfl (by decide +kernel)   -- X2_remember
theorem cxo121 : con_ok PT bB 198 cxF cxQ cxt121 := con_chk_ok (fun _ _ h => h) cxpp (kl_ok (List.forall_mem_cons.mpr ⟨cxo119, List.forall_mem_cons.mpr ⟨cxo120, fun _ h => (by cases h)⟩⟩)) nw_class (fun h => by cases h) cxk121
def cxt122 : con := (73, [(2, 13, 1), (2, 105, 1)], [], [none], [], 5, 400, false)
theorem cxk122 : con_chk (kl bB cxF []) PT bB 198 cxF cxJ cxjo cxP 449 cxt122 = true := fq_chk1 (fq_jn_eq _) rfl (by decide +kernel)   -- X7_copyFrom
theorem cxo122 : con_ok PT bB 198 cxF cxQ cxt122 := con_chk_ok (fun _ _ h => h) cxpp (kl_ok (fun _ h => (by cases h))) nw_class (fun h => by cases h) cxk122
def cxt123 : con := (73, [(2, 13, 1), (2, 111, 1)], [], [none], [], 5, 400, false)
theorem cxk123 : con_chk (kl bB cxF []) PT bB 198 cxF cxJ cxjo cxP 449 cxt123 = true := fq_chk1 (fq_jn_eq _) rfl (by decide +kernel)   -- X7_copyFrom
theorem cxo123 : con_ok PT bB 198 cxF cxQ cxt123 := con_chk_ok (fun _ _ h => h) cxpp (kl_ok (fun _ h => (by cases h))) nw_class (fun h => by cases h) cxk123
def cxt124 : con := (73, [(2, 13, 1), (2, 117, 1)], [], [none], [], 5, 400, false)
theorem cxk124 : con_chk (kl bB cxF []) PT bB 198 cxF cxJ cxjo cxP 449 cxt124 = true := fq_chk1 (fq_jn_eq _) rfl (by decide +kernel)   -- X7_copyFrom
theorem cxo124 : con_ok PT bB 198 cxF cxQ cxt124 := con_chk_ok (fun _ _ h => h) cxpp (kl_ok (fun _ h => (by cases h))) nw_class (fun h => by cases h) cxk124
def cxt125 : con := (73, [(2, 13, 1), (2, 27, 1)], [], [none], [], 5, 400, false)
theorem cxk125 : con_chk (kl bB cxF []) PT bB 198 cxF cxJ cxjo cxP 449 cxt125 = true := fq_chk1 (fq_jn_eq _) rfl (by decide +kernel)   -- X7_copyFrom
theorem cxo125 : con_ok PT bB 198 cxF cxQ cxt125 := con_chk_ok (fun _ _ h => h) cxpp (kl_ok (fun _ h => (by cases h))) nw_class (fun h => by cases h) cxk125
def cxt126 : con := (73, [(2, 13, 1), (2, 33, 1)], [], [none], [], 5, 400, false)
theorem cxk126 : con_chk (kl bB cxF []) PT bB 198 cxF cxJ cxjo cxP 449 cxt126 = true := fq_chk1 (fq_jn_eq _) rfl (by decide +kernel)   -- X7_copyFrom
theorem cxo126 : con_ok PT bB 198 cxF cxQ cxt126 := con_chk_ok (fun _ _ h => h) cxpp (kl_ok (fun _ h => (by cases h))) nw_class (fun h => by cases h) cxk126
def cxt127 : con := (73, [(2, 13, 1), (2, 39, 1)], [], [none], [], 5, 400, false)
theorem cxk127 : con_chk (kl bB cxF []) PT bB 198 cxF cxJ cxjo cxP 449 cxt127 = true := fq_chk1 (fq_jn_eq _) rfl (by decide +kernel)   -- X7_copyFrom
theorem cxo127 : con_ok PT bB 198 cxF cxQ cxt127 := con_chk_ok (fun _ _ h => h) cxpp (kl_ok (fun _ h => (by cases h))) nw_class (fun h => by cases h) cxk127
def cxt128 : con := (73, [(2, 13, 1), (2, 45, 1)], [], [none], [], 5, 400, false)
theorem cxk128 : con_chk (kl bB cxF []) PT bB 198 cxF cxJ cxjo cxP 449 cxt128 = true := fq_chk1 (fq_jn_eq _) rfl (by decide +kernel)   -- X7_copyFrom
theorem cxo128 : con_ok PT bB 198 cxF cxQ cxt128 := con_chk_ok (fun _ _ h => h) cxpp (kl_ok (fun _ h => (by cases h))) nw_class (fun h => by cases h) cxk128
def cxt129 : con := (73, [(2, 13, 1), (2, 51, 1)], [], [none], [], 5, 400, false)
theorem cxk129 : con_chk (kl bB cxF []) PT bB 198 cxF cxJ cxjo cxP 449 cxt129 = true := fq_chk1 (fq_jn_eq _) rfl (by decide +kernel)   -- X7_copyFrom
theorem cxo129 : con_ok PT bB 198 cxF cxQ cxt129 := con_chk_ok (fun _ _ h => h) cxpp (kl_ok (fun _ h => (by cases h))) nw_class (fun h => by cases h) cxk129
def cxt130 : con := (73, [(2, 13, 1), (2, 57, 1)], [], [none], [], 5, 400, false)
theorem cxk130 : con_chk (kl bB cxF []) PT bB 198 cxF cxJ cxjo cxP 449 cxt130 = true := fq_chk1 (fq_jn_eq _) rfl (by decide +kernel)   -- X7_copyFrom
theorem cxo130 : con_ok PT bB 198 cxF cxQ cxt130 := con_chk_ok (fun _ _ h => h) cxpp (kl_ok (fun _ h => (by cases h))) nw_class (fun h => by cases h) cxk130
def cxt131 : con := (73, [(2, 13, 1), (2, 63, 1)], [], [none], [], 5, 400, false)
theorem cxk131 : con_chk (kl bB cxF []) PT bB 198 cxF cxJ cxjo cxP 449 cxt131 = true := fq_chk1 (fq_jn_eq _) rfl (by decide +kernel)   -- X7_copyFrom
theorem cxo131 : con_ok PT bB 198 cxF cxQ cxt131 := con_chk_ok (fun _ _ h => h) cxpp (kl_ok (fun _ h => (by cases h))) nw_class (fun h => by cases h) cxk131
def cxt132 : con := (73, [(2, 13, 1), (2, 69, 1)], [], [none], [], 5, 400, false)
theorem cxk132 : con_chk (kl bB cxF []) PT bB 198 cxF cxJ cxjo cxP 449 cxt132 = true := fq_chk1 (fq_jn_eq _) rfl (by decide +kernel)   -- X7_copyFrom
theorem cxo132 : con_ok PT bB 198 cxF cxQ cxt132 := con_chk_ok (fun _ _ h => h) cxpp (kl_ok (fun _ h => (by cases h))) nw_class (fun h => by cases h) cxk132
def cxt133 : con := (73, [(2, 13, 1), (2, 75, 1)], [], [none], [], 5, 400, false)
theorem cxk133 : con_chk (kl bB cxF []) PT bB 198 cxF cxJ cxjo cxP 449 cxt133 = true := fq_chk1 (fq_jn_eq _) rfl (by decide +kernel)   -- X7_copyFrom
theorem cxo133 : con_ok PT bB 198 cxF cxQ cxt133 := con_chk_ok (fun _ _ h => h) cxpp (kl_ok (fun _ h => (by cases h))) nw_class (fun h => by cases h) cxk133
def cxt134 : con := (73, [(2, 13, 1), (2, 81, 1)], [], [none], [], 5, 400, false)
theorem cxk134 : con_chk (kl bB cxF []) PT bB 198 cxF cxJ cxjo cxP 449 cxt134 = true := fq_chk1 (fq_jn_eq _) rfl (by decide +kernel)   -- X7_copyFrom
theorem cxo134 : con_ok PT bB 198 cxF cxQ cxt134 := con_chk_ok (fun _ _ h => h) cxpp (kl_ok (fun _ h => (by cases h))) nw_class (fun h => by cases h) cxk134
def cxt135 : con := (73, [(2, 13, 1), (2, 87, 1)], [], [none], [], 5, 400, false)
theorem cxk135 : con_chk (kl bB cxF []) PT bB 198 cxF cxJ cxjo cxP 449 cxt135 = true := fq_chk1 (fq_jn_eq _) rfl (by decide +kernel)   -- X7_copyFrom
theorem cxo135 : con_ok PT bB 198 cxF cxQ cxt135 := con_chk_ok (fun _ _ h => h) cxpp (kl_ok (fun _ h => (by cases h))) nw_class (fun h => by cases h) cxk135
def cxt136 : con := (73, [(2, 13, 1), (2, 93, 1)], [], [none], [], 5, 400, false)
theorem cxk136 : con_chk (kl bB cxF []) PT bB 198 cxF cxJ cxjo cxP 449 cxt136 = true := fq_chk1 (fq_jn_eq _) rfl (by decide +kernel)   -- X7_copyFrom
theorem cxo136 : con_ok PT bB 198 cxF cxQ cxt136 := con_chk_ok (fun _ _ h => h) cxpp (kl_ok (fun _ h => (by cases h))) nw_class (fun h => by cases h) cxk136
def cxt137 : con := (73, [(2, 13, 1), (2, 99, 1)], [], [none], [], 5, 400, false)
theorem cxk137 : con_chk (kl bB cxF []) PT bB 198 cxF cxJ cxjo cxP 449 cxt137 = true := fq_chk1 (fq_jn_eq _) rfl (by decide +kernel)   -- X7_copyFrom
theorem cxo137 : con_ok PT bB 198 cxF cxQ cxt137 := con_chk_ok (fun _ _ h => h) cxpp (kl_ok (fun _ h => (by cases h))) nw_class (fun h => by cases h) cxk137
def cxt138 : con := (19, [(2, 25, 1), (2, 13, 1)], [], [some (0, 0, 1)], [], 10, 800, false)
theorem cxk138 : con_chk (kl bB cxF [cxt122, cxt123, cxt124, cxt125, cxt126, cxt127, cxt128, cxt129, cxt130, cxt131, cxt132, cxt133, cxt134, cxt135, cxt136, cxt137]) PT bB 198 cxF cxJ cxjo cxP 432 cxt138 = true := fq_chk1 (fq_jn_eq _) rfl (by decide +kernel)   -- X2_restore
theorem cxo138 : con_ok PT bB 198 cxF cxQ cxt138 := con_chk_ok (fun _ _ h => h) cxpp (kl_ok (List.forall_mem_cons.mpr ⟨cxo122, List.forall_mem_cons.mpr ⟨cxo123, List.forall_mem_cons.mpr ⟨cxo124, List.forall_mem_cons.mpr ⟨cxo125, List.forall_mem_cons.mpr ⟨cxo126, List.forall_mem_cons.mpr ⟨cxo127, List.forall_mem_cons.mpr ⟨cxo128, List.forall_mem_cons.mpr ⟨cxo129, List.forall_mem_cons.mpr ⟨cxo130, List.forall_mem_cons.mpr ⟨cxo131, List.forall_mem_cons.mpr ⟨cxo132, List.forall_mem_cons.mpr ⟨cxo133, List.forall_mem_cons.mpr ⟨cxo134, List.forall_mem_cons.mpr ⟨cxo135, List.forall_mem_cons.mpr ⟨cxo136, List.forall_mem_cons.mpr ⟨cxo137, fun _ h => (by cases h)⟩⟩⟩⟩⟩⟩⟩⟩⟩⟩⟩⟩⟩⟩⟩⟩)) nw_class (fun h => by cases h) cxk138
def cxt139 : con := (29, [(2, 5, 1), (2, 13, 1), (0, 0, 5)], [], [some (0, 0, 255)], [], 5, 400, true)
theorem cxk139 : con_chk (kl bB cxF []) PT bB 198 cxF cxJ cxjo cxP 554 cxt139 = true := fq_chk1 (fq_jn_eq _) rfl (by decide +kernel)   -- X3_heldBy
theorem cxo139 : con_ok PT bB 198 cxF cxQ cxt139 := con_chk_ok (fun _ _ h => h) cxpp (kl_ok (fun _ h => (by cases h))) nw_class (fun _ => by decide) cxk139
def cxt140 : con := (5, [(2, 159, 1), (2, 13, 1), (0, 0, 7), (0, (-2147483648), 2147483647), (0, (-2147483648), 2147483647)], [], [some (0, 0, 1)], [], 5, 400, true)
theorem cxk140 : con_chk (kl bB cxF []) PT bB 198 cxF cxJ cxjo cxP 473 cxt140 = true := fq_chk1 (fq_jn_eq _) rfl (by decide +kernel)   -- X0_fitsOne
theorem cxo140 : con_ok PT bB 198 cxF cxQ cxt140 := con_chk_ok (fun _ _ h => h) cxpp (kl_ok (fun _ h => (by cases h))) nw_class (fun _ => by decide) cxk140
def cxt141 : con := (4, [(2, 159, 1), (2, 13, 1), (0, 0, 7)], [], [some (0, 0, 1)], [], 10, 800, true)
theorem cxk141 : con_chk (kl bB cxF [cxt140]) PT bB 198 cxF cxJ cxjo cxP 660 cxt141 = true := fq_chk1 (fq_jn_eq _) rfl (by decide +kernel)   -- X0_fitsAll
theorem cxo141 : con_ok PT bB 198 cxF cxQ cxt141 := con_chk_ok (fun _ _ h => h) cxpp (kl_ok (List.forall_mem_cons.mpr ⟨cxo140, fun _ h => (by cases h)⟩)) nw_class (fun _ => by decide) cxk141
def cxt142 : con := (3, [(2, 159, 1), (2, 13, 1)], [], [some (0, 0, 255)], [], 15, 1200, true)
theorem cxk142 : con_chk (kl bB cxF [cxt141]) PT bB 198 cxF cxJ cxjo cxP 555 cxt142 = true := fq_chk1 (fq_jn_eq _) rfl (by decide +kernel)   -- X0_fitting
theorem cxo142 : con_ok PT bB 198 cxF cxQ cxt142 := con_chk_ok (fun _ _ h => h) cxpp (kl_ok (List.forall_mem_cons.mpr ⟨cxo141, fun _ h => (by cases h)⟩)) nw_class (fun _ => by decide) cxk142
def cxt143 : con := (30, [(2, 5, 1), (2, 13, 1), (0, 0, 5)], [], [some (0, 0, 255)], [], 5, 400, true)
theorem cxk143 : con_chk (kl bB cxF []) PT bB 198 cxF cxJ cxjo cxP 650 cxt143 = true := fq_chk1 (fq_jn_eq _) rfl (by decide +kernel)   -- X3_formerlyOf
theorem cxo143 : con_ok PT bB 198 cxF cxQ cxt143 := con_chk_ok (fun _ _ h => h) cxpp (kl_ok (fun _ h => (by cases h))) nw_class (fun _ => by decide) cxk143
def cxt144 : con := (32, [(2, 5, 1), (2, 13, 1), (0, 0, 5)], [], [some (0, 0, 63)], [], 5, 400, true)
theorem cxk144 : con_chk (kl bB cxF []) PT bB 198 cxF cxJ cxjo cxP 794 cxt144 = true := fq_chk1 (fq_jn_eq _) rfl (by decide +kernel)   -- X3_foesOf
theorem cxo144 : con_ok PT bB 198 cxF cxQ cxt144 := con_chk_ok (fun _ _ h => h) cxpp (kl_ok (fun _ h => (by cases h))) nw_class (fun _ => by decide) cxk144
def cxt145 : con := (33, [(2, 5, 1), (2, 13, 1)], [], [some (0, (-2147483648), 2147483647)], [], 10, 800, true)
theorem cxk145 : con_chk (kl bB cxF [cxt42, cxt91]) PT bB 198 cxF cxJ cxjo cxP 496 cxt145 = true := fq_chk1 (fq_jn_eq _) rfl (by decide +kernel)   -- X3_alliedPairs
theorem cxo145 : con_ok PT bB 198 cxF cxQ cxt145 := con_chk_ok (fun _ _ h => h) cxpp (kl_ok (List.forall_mem_cons.mpr ⟨cxo42, List.forall_mem_cons.mpr ⟨cxo91, fun _ h => (by cases h)⟩⟩)) nw_class (fun _ => by decide) cxk145
def cxt146 : con := (34, [(2, 5, 1), (2, 13, 1)], [], [some (0, (-2147483648), 2147483647)], [], 10, 800, true)
theorem cxk146 : con_chk (kl bB cxF [cxt42, cxt144]) PT bB 198 cxF cxJ cxjo cxP 496 cxt146 = true := fq_chk1 (fq_jn_eq _) rfl (by decide +kernel)   -- X3_warringPairs
theorem cxo146 : con_ok PT bB 198 cxF cxQ cxt146 := con_chk_ok (fun _ _ h => h) cxpp (kl_ok (List.forall_mem_cons.mpr ⟨cxo42, List.forall_mem_cons.mpr ⟨cxo144, fun _ h => (by cases h)⟩⟩)) nw_class (fun _ => by decide) cxk146
