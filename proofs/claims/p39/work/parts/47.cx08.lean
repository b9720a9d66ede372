/-! contracts -/
def cxt108 : con := (73, [(2, 13, 1), (2, 117, 1)], [], [none], [], 5, 400, false)
theorem cxk108 : con_chk (kl bB cxF []) PT bB 198 cxF cxJ cxjo cxP 449 cxt108 = true := by decide +kernel   -- X7_copyFrom
theorem cxo108 : con_ok PT bB 198 cxF cxQ cxt108 := con_chk_ok (fun _ _ h => h) cxpp (kl_ok (fun _ h => (by cases h))) nw_class (fun h => by cases h) cxk108
def cxt109 : con := (73, [(2, 13, 1), (2, 57, 1)], [], [none], [], 5, 400, false)
theorem cxk109 : con_chk (kl bB cxF []) PT bB 198 cxF cxJ cxjo cxP 449 cxt109 = true := by decide +kernel   -- X7_copyFrom
theorem cxo109 : con_ok PT bB 198 cxF cxQ cxt109 := con_chk_ok (fun _ _ h => h) cxpp (kl_ok (fun _ h => (by cases h))) nw_class (fun h => by cases h) cxk109
def cxt110 : con := (73, [(2, 13, 1), (2, 87, 1)], [], [none], [], 5, 400, false)
theorem cxk110 : con_chk (kl bB cxF []) PT bB 198 cxF cxJ cxjo cxP 449 cxt110 = true := by decide +kernel   -- X7_copyFrom
theorem cxo110 : con_ok PT bB 198 cxF cxQ cxt110 := con_chk_ok (fun _ _ h => h) cxpp (kl_ok (fun _ h => (by cases h))) nw_class (fun h => by cases h) cxk110
def cxt111 : con := (73, [(2, 13, 1), (2, 51, 1)], [], [none], [], 5, 400, false)
theorem cxk111 : con_chk (kl bB cxF []) PT bB 198 cxF cxJ cxjo cxP 449 cxt111 = true := by decide +kernel   -- X7_copyFrom
theorem cxo111 : con_ok PT bB 198 cxF cxQ cxt111 := con_chk_ok (fun _ _ h => h) cxpp (kl_ok (fun _ h => (by cases h))) nw_class (fun h => by cases h) cxk111
def cxt112 : con := (73, [(2, 13, 1), (2, 45, 1)], [], [none], [], 5, 400, false)
theorem cxk112 : con_chk (kl bB cxF []) PT bB 198 cxF cxJ cxjo cxP 449 cxt112 = true := by decide +kernel   -- X7_copyFrom
theorem cxo112 : con_ok PT bB 198 cxF cxQ cxt112 := con_chk_ok (fun _ _ h => h) cxpp (kl_ok (fun _ h => (by cases h))) nw_class (fun h => by cases h) cxk112
def cxt113 : con := (73, [(2, 13, 1), (2, 81, 1)], [], [none], [], 5, 400, false)
theorem cxk113 : con_chk (kl bB cxF []) PT bB 198 cxF cxJ cxjo cxP 449 cxt113 = true := by decide +kernel   -- X7_copyFrom
theorem cxo113 : con_ok PT bB 198 cxF cxQ cxt113 := con_chk_ok (fun _ _ h => h) cxpp (kl_ok (fun _ h => (by cases h))) nw_class (fun h => by cases h) cxk113
def cxt114 : con := (73, [(2, 13, 1), (2, 27, 1)], [], [none], [], 5, 400, false)
theorem cxk114 : con_chk (kl bB cxF []) PT bB 198 cxF cxJ cxjo cxP 449 cxt114 = true := by decide +kernel   -- X7_copyFrom
theorem cxo114 : con_ok PT bB 198 cxF cxQ cxt114 := con_chk_ok (fun _ _ h => h) cxpp (kl_ok (fun _ h => (by cases h))) nw_class (fun h => by cases h) cxk114
def cxt115 : con := (73, [(2, 13, 1), (2, 111, 1)], [], [none], [], 5, 400, false)
theorem cxk115 : con_chk (kl bB cxF []) PT bB 198 cxF cxJ cxjo cxP 449 cxt115 = true := by decide +kernel   -- X7_copyFrom
theorem cxo115 : con_ok PT bB 198 cxF cxQ cxt115 := con_chk_ok (fun _ _ h => h) cxpp (kl_ok (fun _ h => (by cases h))) nw_class (fun h => by cases h) cxk115
def cxt116 : con := (73, [(2, 13, 1), (2, 69, 1)], [], [none], [], 5, 400, false)
theorem cxk116 : con_chk (kl bB cxF []) PT bB 198 cxF cxJ cxjo cxP 449 cxt116 = true := by decide +kernel   -- X7_copyFrom
theorem cxo116 : con_ok PT bB 198 cxF cxQ cxt116 := con_chk_ok (fun _ _ h => h) cxpp (kl_ok (fun _ h => (by cases h))) nw_class (fun h => by cases h) cxk116
def cxt117 : con := (73, [(2, 13, 1), (2, 39, 1)], [], [none], [], 5, 400, false)
theorem cxk117 : con_chk (kl bB cxF []) PT bB 198 cxF cxJ cxjo cxP 449 cxt117 = true := by decide +kernel   -- X7_copyFrom
theorem cxo117 : con_ok PT bB 198 cxF cxQ cxt117 := con_chk_ok (fun _ _ h => h) cxpp (kl_ok (fun _ h => (by cases h))) nw_class (fun h => by cases h) cxk117
def cxt118 : con := (73, [(2, 13, 1), (2, 75, 1)], [], [none], [], 5, 400, false)
theorem cxk118 : con_chk (kl bB cxF []) PT bB 198 cxF cxJ cxjo cxP 449 cxt118 = true := by decide +kernel   -- X7_copyFrom
theorem cxo118 : con_ok PT bB 198 cxF cxQ cxt118 := con_chk_ok (fun _ _ h => h) cxpp (kl_ok (fun _ h => (by cases h))) nw_class (fun h => by cases h) cxk118
def cxt119 : con := (73, [(2, 13, 1), (2, 99, 1)], [], [none], [], 5, 400, false)
theorem cxk119 : con_chk (kl bB cxF []) PT bB 198 cxF cxJ cxjo cxP 449 cxt119 = true := by decide +kernel   -- X7_copyFrom
theorem cxo119 : con_ok PT bB 198 cxF cxQ cxt119 := con_chk_ok (fun _ _ h => h) cxpp (kl_ok (fun _ h => (by cases h))) nw_class (fun h => by cases h) cxk119
def cxt120 : con := (73, [(2, 13, 1), (2, 105, 1)], [], [none], [], 5, 400, false)
theorem cxk120 : con_chk (kl bB cxF []) PT bB 198 cxF cxJ cxjo cxP 449 cxt120 = true := by decide +kernel   -- X7_copyFrom
theorem cxo120 : con_ok PT bB 198 cxF cxQ cxt120 := con_chk_ok (fun _ _ h => h) cxpp (kl_ok (fun _ h => (by cases h))) nw_class (fun h => by cases h) cxk120
def cxt121 : con := (73, [(2, 13, 1), (2, 63, 1)], [], [none], [], 5, 400, false)
theorem cxk121 : con_chk (kl bB cxF []) PT bB 198 cxF cxJ cxjo cxP 449 cxt121 = true := by decide +kernel   -- X7_copyFrom
theorem cxo121 : con_ok PT bB 198 cxF cxQ cxt121 := con_chk_ok (fun _ _ h => h) cxpp (kl_ok (fun _ h => (by cases h))) nw_class (fun h => by cases h) cxk121
def cxt122 : con := (73, [(2, 13, 1), (2, 33, 1)], [], [none], [], 5, 400, false)
theorem cxk122 : con_chk (kl bB cxF []) PT bB 198 cxF cxJ cxjo cxP 449 cxt122 = true := by decide +kernel   -- X7_copyFrom
theorem cxo122 : con_ok PT bB 198 cxF cxQ cxt122 := con_chk_ok (fun _ _ h => h) cxpp (kl_ok (fun _ h => (by cases h))) nw_class (fun h => by cases h) cxk122
def cxt123 : con := (19, [(2, 25, 1), (2, 13, 1)], [], [some (0, 0, 1)], [], 10, 800, false)
theorem cxk123 : con_chk (kl bB cxF [cxt107, cxt108, cxt109, cxt110, cxt111, cxt112, cxt113, cxt114, cxt115, cxt116, cxt117, cxt118, cxt119, cxt120, cxt121, cxt122]) PT bB 198 cxF cxJ cxjo cxP 432 cxt123 = true := by decide +kernel   -- X2_restore
theorem cxo123 : con_ok PT bB 198 cxF cxQ cxt123 := con_chk_ok (fun _ _ h => h) cxpp (kl_ok (List.forall_mem_cons.mpr ⟨cxo107, List.forall_mem_cons.mpr ⟨cxo108, List.forall_mem_cons.mpr ⟨cxo109, List.forall_mem_cons.mpr ⟨cxo110, List.forall_mem_cons.mpr ⟨cxo111, List.forall_mem_cons.mpr ⟨cxo112, List.forall_mem_cons.mpr ⟨cxo113, List.forall_mem_cons.mpr ⟨cxo114, List.forall_mem_cons.mpr ⟨cxo115, List.forall_mem_cons.mpr ⟨cxo116, List.forall_mem_cons.mpr ⟨cxo117, List.forall_mem_cons.mpr ⟨cxo118, List.forall_mem_cons.mpr ⟨cxo119, List.forall_mem_cons.mpr ⟨cxo120, List.forall_mem_cons.mpr ⟨cxo121, List.forall_mem_cons.mpr ⟨cxo122, fun _ h => (by cases h)⟩⟩⟩⟩⟩⟩⟩⟩⟩⟩⟩⟩⟩⟩⟩⟩)) nw_class (fun h => by cases h) cxk123
def cxt124 : con := (7, [(2, 151, 1), (2, 13, 1), (0, 0, 5)], [], [some (0, 0, 65535)], [], 5, 400, true)
theorem cxk124 : con_chk (kl bB cxF []) PT bB 198 cxF cxJ cxjo cxP 543 cxt124 = true := by decide +kernel   -- X1_owedBy
theorem cxo124 : con_ok PT bB 198 cxF cxQ cxt124 := con_chk_ok (fun _ _ h => h) cxpp (kl_ok (fun _ h => (by cases h))) nw_class (fun _ => by decide) cxk124
def cxt125 : con := (8, [(2, 151, 1), (2, 13, 1), (0, 0, 5)], [], [some (0, 0, 65535)], [], 5, 400, true)
theorem cxk125 : con_chk (kl bB cxF []) PT bB 198 cxF cxJ cxjo cxP 543 cxt125 = true := by decide +kernel   -- X1_owedTo
theorem cxo125 : con_ok PT bB 198 cxF cxQ cxt125 := con_chk_ok (fun _ _ h => h) cxpp (kl_ok (fun _ h => (by cases h))) nw_class (fun _ => by decide) cxk125
def cxt126 : con := (10, [(2, 151, 1), (2, 13, 1)], [], [some (0, 0, 6)], [], 10, 800, false)
theorem cxk126 : con_chk (kl bB cxF [cxt124, cxt125]) PT bB 198 cxF cxJ cxjo cxP 585 cxt126 = true := by decide +kernel   -- X1_openNets
theorem cxo126 : con_ok PT bB 198 cxF cxQ cxt126 := con_chk_ok (fun _ _ h => h) cxpp (kl_ok (List.forall_mem_cons.mpr ⟨cxo124, List.forall_mem_cons.mpr ⟨cxo125, fun _ h => (by cases h)⟩⟩)) nw_class (fun h => by cases h) cxk126
def cxt127 : con := (55, [(2, 3, 1), (1, 0, 2147483647)], [], [none], [], 10, 800, false)
theorem cxk127 : con_chk (kl bB cxF [cxt63]) PT bB 198 cxF cxJ cxjo cxP 410 cxt127 = true := by decide +kernel   -- X5_tellOne
theorem cxo127 : con_ok PT bB 198 cxF cxQ cxt127 := con_chk_ok (fun _ _ h => h) cxpp (kl_ok (List.forall_mem_cons.mpr ⟨cxo63, fun _ h => (by cases h)⟩)) nw_class (fun h => by cases h) cxk127
def cxt128 : con := (11, [(2, 151, 1), (0, 0, 0)], [], [some (0, (-2147483648), 2147483647)], [], 5, 400, false)
theorem cxk128 : con_chk (kl bB cxF []) PT bB 198 cxF cxJ cxjo cxP 423 cxt128 = true := by decide +kernel   -- X1_fewestPayments
theorem cxo128 : con_ok PT bB 198 cxF cxQ cxt128 := con_chk_ok (fun _ _ h => h) cxpp (kl_ok (fun _ h => (by cases h))) nw_class (fun h => by cases h) cxk128
def cxt129 : con := (13, [(2, 151, 1), (2, 13, 1), (0, 3, 3), (0, 3, 3), (0, 0, 127)], [], [some (0, 0, 1)], [], 5, 400, false)
theorem cxk129 : con_chk (kl bB cxF []) PT bB 198 cxF cxJ cxjo cxP 436 cxt129 = true := by decide +kernel   -- X1_closes
theorem cxo129 : con_ok PT bB 198 cxF cxQ cxt129 := con_chk_ok (fun _ _ h => h) cxpp (kl_ok (fun _ h => (by cases h))) nw_class (fun h => by cases h) cxk129
def cxt130 : con := (13, [(2, 151, 1), (2, 13, 1), (0, 3, 3), (0, 2, 2), (0, 0, 79)], [], [some (0, 0, 1)], [], 10, 800, false)
theorem cxk130 : con_chk (kl bB cxF [cxt129]) PT bB 198 cxF cxJ cxjo cxP 685 cxt130 = true := by decide +kernel   -- X1_closes
theorem cxo130 : con_ok PT bB 198 cxF cxQ cxt130 := con_chk_ok (fun _ _ h => h) cxpp (kl_ok (List.forall_mem_cons.mpr ⟨cxo129, fun _ h => (by cases h)⟩)) nw_class (fun h => by cases h) cxk130
def cxt131 : con := (13, [(2, 151, 1), (2, 13, 1), (0, 3, 3), (0, 1, 1), (0, 1, 35)], [], [some (0, 0, 1)], [], 15, 1200, false)
theorem cxk131 : con_chk (kl bB cxF [cxt130]) PT bB 198 cxF cxJ cxjo cxP 685 cxt131 = true := by decide +kernel   -- X1_closes
theorem cxo131 : con_ok PT bB 198 cxF cxQ cxt131 := con_chk_ok (fun _ _ h => h) cxpp (kl_ok (List.forall_mem_cons.mpr ⟨cxo130, fun _ h => (by cases h)⟩)) nw_class (fun h => by cases h) cxk131
def cxt132 : con := (13, [(2, 151, 1), (2, 13, 1), (0, 2, 2), (0, 2, 2), (0, 0, 79)], [], [some (0, 0, 1)], [], 5, 400, false)
theorem cxk132 : con_chk (kl bB cxF []) PT bB 198 cxF cxJ cxjo cxP 436 cxt132 = true := by decide +kernel   -- X1_closes
theorem cxo132 : con_ok PT bB 198 cxF cxQ cxt132 := con_chk_ok (fun _ _ h => h) cxpp (kl_ok (fun _ h => (by cases h))) nw_class (fun h => by cases h) cxk132
def cxt133 : con := (13, [(2, 151, 1), (2, 13, 1), (0, 2, 2), (0, 1, 1), (0, 1, 35)], [], [some (0, 0, 1)], [], 10, 800, false)
theorem cxk133 : con_chk (kl bB cxF [cxt132]) PT bB 198 cxF cxJ cxjo cxP 685 cxt133 = true := by decide +kernel   -- X1_closes
theorem cxo133 : con_ok PT bB 198 cxF cxQ cxt133 := con_chk_ok (fun _ _ h => h) cxpp (kl_ok (List.forall_mem_cons.mpr ⟨cxo132, fun _ h => (by cases h)⟩)) nw_class (fun h => by cases h) cxk133
def cxt134 : con := (13, [(2, 151, 1), (2, 13, 1), (0, 4, 4), (0, 4, 4), (0, 0, 255)], [], [some (0, 0, 1)], [], 5, 400, false)
theorem cxk134 : con_chk (kl bB cxF []) PT bB 198 cxF cxJ cxjo cxP 436 cxt134 = true := by decide +kernel   -- X1_closes
theorem cxo134 : con_ok PT bB 198 cxF cxQ cxt134 := con_chk_ok (fun _ _ h => h) cxpp (kl_ok (fun _ h => (by cases h))) nw_class (fun h => by cases h) cxk134
def cxt135 : con := (13, [(2, 151, 1), (2, 13, 1), (0, 4, 4), (0, 3, 3), (0, 0, 127)], [], [some (0, 0, 1)], [], 10, 800, false)
theorem cxk135 : con_chk (kl bB cxF [cxt134]) PT bB 198 cxF cxJ cxjo cxP 685 cxt135 = true := by decide +kernel   -- X1_closes
theorem cxo135 : con_ok PT bB 198 cxF cxQ cxt135 := con_chk_ok (fun _ _ h => h) cxpp (kl_ok (List.forall_mem_cons.mpr ⟨cxo134, fun _ h => (by cases h)⟩)) nw_class (fun h => by cases h) cxk135
def cxt136 : con := (13, [(2, 151, 1), (2, 13, 1), (0, 4, 4), (0, 2, 2), (0, 0, 79)], [], [some (0, 0, 1)], [], 15, 1200, false)
theorem cxk136 : con_chk (kl bB cxF [cxt135]) PT bB 198 cxF cxJ cxjo cxP 685 cxt136 = true := by decide +kernel   -- X1_closes
theorem cxo136 : con_ok PT bB 198 cxF cxQ cxt136 := con_chk_ok (fun _ _ h => h) cxpp (kl_ok (List.forall_mem_cons.mpr ⟨cxo135, fun _ h => (by cases h)⟩)) nw_class (fun h => by cases h) cxk136
def cxt137 : con := (13, [(2, 151, 1), (2, 13, 1), (0, 4, 4), (0, 1, 1), (0, 1, 35)], [], [some (0, 0, 1)], [], 20, 1600, false)
theorem cxk137 : con_chk (kl bB cxF [cxt136]) PT bB 198 cxF cxJ cxjo cxP 685 cxt137 = true := by decide +kernel   -- X1_closes
theorem cxo137 : con_ok PT bB 198 cxF cxQ cxt137 := con_chk_ok (fun _ _ h => h) cxpp (kl_ok (List.forall_mem_cons.mpr ⟨cxo136, fun _ h => (by cases h)⟩)) nw_class (fun h => by cases h) cxk137
def cxt138 : con := (13, [(2, 151, 1), (2, 13, 1), (0, 6, 6), (0, 6, 6), (0, 0, 599)], [], [some (0, 0, 1)], [], 5, 400, false)
theorem cxk138 : con_chk (kl bB cxF []) PT bB 198 cxF cxJ cxjo cxP 436 cxt138 = true := by decide +kernel   -- X1_closes
theorem cxo138 : con_ok PT bB 198 cxF cxQ cxt138 := con_chk_ok (fun _ _ h => h) cxpp (kl_ok (fun _ h => (by cases h))) nw_class (fun h => by cases h) cxk138
def cxt139 : con := (13, [(2, 151, 1), (2, 13, 1), (0, 6, 6), (0, 5, 5), (0, 0, 511)], [], [some (0, 0, 1)], [], 10, 800, false)
theorem cxk139 : con_chk (kl bB cxF [cxt138]) PT bB 198 cxF cxJ cxjo cxP 685 cxt139 = true := by decide +kernel   -- X1_closes
theorem cxo139 : con_ok PT bB 198 cxF cxQ cxt139 := con_chk_ok (fun _ _ h => h) cxpp (kl_ok (List.forall_mem_cons.mpr ⟨cxo138, fun _ h => (by cases h)⟩)) nw_class (fun h => by cases h) cxk139
def cxt140 : con := (13, [(2, 151, 1), (2, 13, 1), (0, 6, 6), (0, 4, 4), (0, 0, 255)], [], [some (0, 0, 1)], [], 15, 1200, false)
theorem cxk140 : con_chk (kl bB cxF [cxt139]) PT bB 198 cxF cxJ cxjo cxP 685 cxt140 = true := by decide +kernel   -- X1_closes
theorem cxo140 : con_ok PT bB 198 cxF cxQ cxt140 := con_chk_ok (fun _ _ h => h) cxpp (kl_ok (List.forall_mem_cons.mpr ⟨cxo139, fun _ h => (by cases h)⟩)) nw_class (fun h => by cases h) cxk140
def cxt141 : con := (13, [(2, 151, 1), (2, 13, 1), (0, 6, 6), (0, 3, 3), (0, 0, 127)], [], [some (0, 0, 1)], [], 20, 1600, false)
theorem cxk141 : con_chk (kl bB cxF [cxt140]) PT bB 198 cxF cxJ cxjo cxP 685 cxt141 = true := by decide +kernel   -- X1_closes
theorem cxo141 : con_ok PT bB 198 cxF cxQ cxt141 := con_chk_ok (fun _ _ h => h) cxpp (kl_ok (List.forall_mem_cons.mpr ⟨cxo140, fun _ h => (by cases h)⟩)) nw_class (fun h => by cases h) cxk141
def cxt142 : con := (13, [(2, 151, 1), (2, 13, 1), (0, 6, 6), (0, 2, 2), (0, 0, 79)], [], [some (0, 0, 1)], [], 25, 2000, false)
theorem cxk142 : con_chk (kl bB cxF [cxt141]) PT bB 198 cxF cxJ cxjo cxP 685 cxt142 = true := by decide +kernel   -- X1_closes
theorem cxo142 : con_ok PT bB 198 cxF cxQ cxt142 := con_chk_ok (fun _ _ h => h) cxpp (kl_ok (List.forall_mem_cons.mpr ⟨cxo141, fun _ h => (by cases h)⟩)) nw_class (fun h => by cases h) cxk142
def cxt143 : con := (13, [(2, 151, 1), (2, 13, 1), (0, 6, 6), (0, 1, 1), (0, 1, 35)], [], [some (0, 0, 1)], [], 30, 2400, false)
theorem cxk143 : con_chk (kl bB cxF [cxt142]) PT bB 198 cxF cxJ cxjo cxP 685 cxt143 = true := by decide +kernel   -- X1_closes
theorem cxo143 : con_ok PT bB 198 cxF cxQ cxt143 := con_chk_ok (fun _ _ h => h) cxpp (kl_ok (List.forall_mem_cons.mpr ⟨cxo142, fun _ h => (by cases h)⟩)) nw_class (fun h => by cases h) cxk143
def cxt144 : con := (13, [(2, 151, 1), (2, 13, 1), (0, 5, 5), (0, 5, 5), (0, 0, 511)], [], [some (0, 0, 1)], [], 5, 400, false)
theorem cxk144 : con_chk (kl bB cxF []) PT bB 198 cxF cxJ cxjo cxP 436 cxt144 = true := by decide +kernel   -- X1_closes
theorem cxo144 : con_ok PT bB 198 cxF cxQ cxt144 := con_chk_ok (fun _ _ h => h) cxpp (kl_ok (fun _ h => (by cases h))) nw_class (fun h => by cases h) cxk144
def cxt145 : con := (13, [(2, 151, 1), (2, 13, 1), (0, 5, 5), (0, 4, 4), (0, 0, 255)], [], [some (0, 0, 1)], [], 10, 800, false)
theorem cxk145 : con_chk (kl bB cxF [cxt144]) PT bB 198 cxF cxJ cxjo cxP 685 cxt145 = true := by decide +kernel   -- X1_closes
theorem cxo145 : con_ok PT bB 198 cxF cxQ cxt145 := con_chk_ok (fun _ _ h => h) cxpp (kl_ok (List.forall_mem_cons.mpr ⟨cxo144, fun _ h => (by cases h)⟩)) nw_class (fun h => by cases h) cxk145
def cxt146 : con := (13, [(2, 151, 1), (2, 13, 1), (0, 5, 5), (0, 3, 3), (0, 0, 127)], [], [some (0, 0, 1)], [], 15, 1200, false)
theorem cxk146 : con_chk (kl bB cxF [cxt145]) PT bB 198 cxF cxJ cxjo cxP 685 cxt146 = true := by decide +kernel   -- X1_closes
theorem cxo146 : con_ok PT bB 198 cxF cxQ cxt146 := con_chk_ok (fun _ _ h => h) cxpp (kl_ok (List.forall_mem_cons.mpr ⟨cxo145, fun _ h => (by cases h)⟩)) nw_class (fun h => by cases h) cxk146
def cxt147 : con := (13, [(2, 151, 1), (2, 13, 1), (0, 5, 5), (0, 2, 2), (0, 0, 79)], [], [some (0, 0, 1)], [], 20, 1600, false)
theorem cxk147 : con_chk (kl bB cxF [cxt146]) PT bB 198 cxF cxJ cxjo cxP 685 cxt147 = true := by decide +kernel   -- X1_closes
theorem cxo147 : con_ok PT bB 198 cxF cxQ cxt147 := con_chk_ok (fun _ _ h => h) cxpp (kl_ok (List.forall_mem_cons.mpr ⟨cxo146, fun _ h => (by cases h)⟩)) nw_class (fun h => by cases h) cxk147
def cxt148 : con := (13, [(2, 151, 1), (2, 13, 1), (0, 5, 5), (0, 1, 1), (0, 1, 35)], [], [some (0, 0, 1)], [], 25, 2000, false)
theorem cxk148 : con_chk (kl bB cxF [cxt147]) PT bB 198 cxF cxJ cxjo cxP 685 cxt148 = true := by decide +kernel   -- X1_closes
theorem cxo148 : con_ok PT bB 198 cxF cxQ cxt148 := con_chk_ok (fun _ _ h => h) cxpp (kl_ok (List.forall_mem_cons.mpr ⟨cxo147, fun _ h => (by cases h)⟩)) nw_class (fun h => by cases h) cxk148
def cxt149 : con := (12, [(2, 151, 1), (2, 13, 1)], [], [some (0, (-1), 6)], [], 35, 2800, false)
theorem cxk149 : con_chk (kl bB cxF [cxt131, cxt133, cxt137, cxt143, cxt148]) PT bB 198 cxF cxJ cxjo cxP 1169 cxt149 = true := by decide +kernel   -- X1_shortestRing
theorem cxo149 : con_ok PT bB 198 cxF cxQ cxt149 := con_chk_ok (fun _ _ h => h) cxpp (kl_ok (List.forall_mem_cons.mpr ⟨cxo131, List.forall_mem_cons.mpr ⟨cxo133, List.forall_mem_cons.mpr ⟨cxo137, List.forall_mem_cons.mpr ⟨cxo143, List.forall_mem_cons.mpr ⟨cxo148, fun _ h => (by cases h)⟩⟩⟩⟩⟩)) nw_class (fun h => by cases h) cxk149
def cxt150 : con := (37, [(2, 5, 1), (2, 13, 1), (0, 0, 5)], [], [some (0, 0, 127)], [], 5, 400, true)
theorem cxk150 : con_chk (kl bB cxF []) PT bB 198 cxF cxJ cxjo cxP 644 cxt150 = true := by decide +kernel   -- X3_esteemFor
theorem cxo150 : con_ok PT bB 198 cxF cxQ cxt150 := con_chk_ok (fun _ _ h => h) cxpp (kl_ok (fun _ h => (by cases h))) nw_class (fun _ => by decide) cxk150
def cxt151 : con := (147, [(2, 0, 1), (0, 0, 255)], [], [some (0, (-1), 5)], [], 10, 800, true)
theorem cxk151 : con_chk (kl bB cxF [cxt150]) PT bB 198 cxF cxJ cxjo cxP 575 cxt151 = true := by decide +kernel   -- X10_mostEsteemedBut
theorem cxo151 : con_ok PT bB 198 cxF cxQ cxt151 := con_chk_ok (fun _ _ h => h) cxpp (kl_ok (List.forall_mem_cons.mpr ⟨cxo150, fun _ h => (by cases h)⟩)) nw_class (fun _ => by decide) cxk151
def cxt152 : con := (2, [(0, (-2147483648), 2147483647), (0, (-2147483648), 2147483647)], [], [some (0, 0, 1)], [], 5, 400, true)
theorem cxk152 : con_chk (kl bB cxF []) PT bB 198 cxF cxJ cxjo cxP 467 cxt152 = true := by decide +kernel   -- X0_canBe
theorem cxo152 : con_ok PT bB 198 cxF cxQ cxt152 := con_chk_ok (fun _ _ h => h) cxpp (kl_ok (fun _ h => (by cases h))) nw_class (fun _ => by decide) cxk152
