/-! the calls themselves -/
def cxr_rule : con := (90, [(2, 0, 1)], [], [some (0, -2147483648, 2147483647)], [], 175, 14000, false)
theorem cxq_rule : con_chkS (kl bB cxF [cxt38, cxt191]) PT bB 198 cxF cxJ cxjo cxP [] 428 cxr_rule = true := by decide +kernel   -- 28
theorem cxw_rule : con_ok PT bB 198 cxF cxQ cxr_rule := con_chkS_ok (fun _ _ h => h) cxpp (kl_ok (List.forall_mem_cons.mpr ⟨cxo38, List.forall_mem_cons.mpr ⟨cxo191, fun _ h => (by cases h)⟩⟩)) nw_class (fun h => by cases h) cxq_rule
def cxr_road : con := (94, [(2, 0, 1), (0, -2147483648, 2147483647), (0, -2147483648, 2147483647), (0, -2147483648, 2147483647)], [], [some (0, -2147483648, 2147483647)], [], 5, 400, false)
theorem cxq_road : con_chkS (kl bB cxF []) PT bB 198 cxF cxJ cxjo cxP [(0, 1, 0, 0, [(-1), 5]), (0, 2, 0, 0, [(-1), 5])] 685 cxr_road = true := by decide +kernel   -- 285
theorem cxw_road : con_ok PT bB 198 cxF cxQ cxr_road := con_chkS_ok (fun _ _ h => h) cxpp (kl_ok (fun _ h => (by cases h))) nw_class (fun h => by cases h) cxq_road
def cxr_sheet : con := (95, [(2, 0, 1), (0, -2147483648, 2147483647), (0, -2147483648, 2147483647), (0, -2147483648, 2147483647), (0, -2147483648, 2147483647)], [], [some (0, -2147483648, 2147483647)], [], 10, 800, false)
theorem cxq_sheet : con_chkS (kl bB cxF [cxt39]) PT bB 198 cxF cxJ cxjo cxP [] 889 cxr_sheet = true := by decide +kernel   -- 489
theorem cxw_sheet : con_ok PT bB 198 cxF cxQ cxr_sheet := con_chkS_ok (fun _ _ h => h) cxpp (kl_ok (List.forall_mem_cons.mpr ⟨cxo39, fun _ h => (by cases h)⟩)) nw_class (fun h => by cases h) cxq_sheet
def cxr_send : con := (96, [(2, 0, 1), (0, -2147483648, 2147483647), (0, -2147483648, 2147483647)], [], [some (0, -2147483648, 2147483647)], [], 20, 1600, false)
theorem cxq_send : con_chkS (kl bB cxF [cxt58, cxt64, cxt82, cxt84, cxt88]) PT bB 198 cxF cxJ cxjo cxP [(0, 1, 0, 0, [(-1), 7]), (0, 2, 0, 0, [(-1), 5])] 733 cxr_send = true := by decide +kernel   -- 333
theorem cxw_send : con_ok PT bB 198 cxF cxQ cxr_send := con_chkS_ok (fun _ _ h => h) cxpp (kl_ok (List.forall_mem_cons.mpr ⟨cxo58, List.forall_mem_cons.mpr ⟨cxo64, List.forall_mem_cons.mpr ⟨cxo82, List.forall_mem_cons.mpr ⟨cxo84, List.forall_mem_cons.mpr ⟨cxo88, fun _ h => (by cases h)⟩⟩⟩⟩⟩)) nw_class (fun h => by cases h) cxq_send
def cxr_months : con := (97, [(2, 0, 1), (0, -2147483648, 2147483647)], [], [some (0, -2147483648, 2147483647)], [], 25, 2000, false)
theorem cxq_months : con_chkS (kl bB cxF [cxt39, cxt58, cxt62, cxt64, cxt65]) PT bB 198 cxF cxJ cxjo cxP [] 446 cxr_months = true := by decide +kernel   -- 46
theorem cxw_months : con_ok PT bB 198 cxF cxQ cxr_months := con_chkS_ok (fun _ _ h => h) cxpp (kl_ok (List.forall_mem_cons.mpr ⟨cxo39, List.forall_mem_cons.mpr ⟨cxo58, List.forall_mem_cons.mpr ⟨cxo62, List.forall_mem_cons.mpr ⟨cxo64, List.forall_mem_cons.mpr ⟨cxo65, fun _ h => (by cases h)⟩⟩⟩⟩⟩)) nw_class (fun h => by cases h) cxq_months
def cxr_envoy : con := (98, [(2, 0, 1), (0, -2147483648, 2147483647), (0, -2147483648, 2147483647), (0, -2147483648, 2147483647)], [], [some (0, -2147483648, 2147483647)], [], 20, 1600, false)
theorem cxq_envoy : con_chkS (kl bB cxF [cxt58, cxt95]) PT bB 198 cxF cxJ cxjo cxP [(0, 1, 0, 0, [(-1), 5]), (0, 2, 0, 0, [(-1), 5])] 755 cxr_envoy = true := by decide +kernel   -- 355
theorem cxw_envoy : con_ok PT bB 198 cxF cxQ cxr_envoy := con_chkS_ok (fun _ _ h => h) cxpp (kl_ok (List.forall_mem_cons.mpr ⟨cxo58, List.forall_mem_cons.mpr ⟨cxo95, fun _ h => (by cases h)⟩⟩)) nw_class (fun h => by cases h) cxq_envoy
def cxr_forgive : con := (99, [(2, 0, 1), (0, -2147483648, 2147483647), (0, -2147483648, 2147483647)], [], [some (0, -2147483648, 2147483647)], [], 20, 1600, false)
theorem cxq_forgive : con_chkS (kl bB cxF [cxt58]) PT bB 198 cxF cxJ cxjo cxP [(0, 1, 0, 0, [(-1), 5]), (0, 2, 0, 0, [(-1), 5])] 767 cxr_forgive = true := by decide +kernel   -- 367
theorem cxw_forgive : con_ok PT bB 198 cxF cxQ cxr_forgive := con_chkS_ok (fun _ _ h => h) cxpp (kl_ok (List.forall_mem_cons.mpr ⟨cxo58, fun _ h => (by cases h)⟩)) nw_class (fun h => by cases h) cxq_forgive
def cxr_year : con := (100, [(2, 0, 1)], [], [some (0, -2147483648, 2147483647)], [], 30, 2400, false)
theorem cxq_year : con_chkS (kl bB cxF [cxt1, cxt56, cxt57, cxt64, cxt65, cxt66, cxt106]) PT bB 198 cxF cxJ cxjo cxP [] 3117 cxr_year = true := by decide +kernel   -- 2717
theorem cxw_year : con_ok PT bB 198 cxF cxQ cxr_year := con_chkS_ok (fun _ _ h => h) cxpp (kl_ok (List.forall_mem_cons.mpr ⟨cxo1, List.forall_mem_cons.mpr ⟨cxo56, List.forall_mem_cons.mpr ⟨cxo57, List.forall_mem_cons.mpr ⟨cxo64, List.forall_mem_cons.mpr ⟨cxo65, List.forall_mem_cons.mpr ⟨cxo66, List.forall_mem_cons.mpr ⟨cxo106, fun _ h => (by cases h)⟩⟩⟩⟩⟩⟩⟩)) nw_class (fun h => by cases h) cxq_year
def cxr_undo : con := (101, [(2, 0, 1)], [], [some (0, -2147483648, 2147483647)], [], 15, 1200, false)
theorem cxq_undo : con_chkS (kl bB cxF [cxt123]) PT bB 198 cxF cxJ cxjo cxP [] 412 cxr_undo = true := by decide +kernel   -- 12
theorem cxw_undo : con_ok PT bB 198 cxF cxQ cxr_undo := con_chkS_ok (fun _ _ h => h) cxpp (kl_ok (List.forall_mem_cons.mpr ⟨cxo123, fun _ h => (by cases h)⟩)) nw_class (fun h => by cases h) cxq_undo
def cxr_value : con := (102, [(2, 0, 1), (0, -2147483648, 2147483647), (0, -2147483648, 2147483647)], [], [some (0, -2147483648, 2147483647)], [], 20, 1600, false)
theorem cxq_value : con_chkS (kl bB cxF [cxt82, cxt88]) PT bB 198 cxF cxJ cxjo cxP [(0, 1, 0, 0, [(-1), 7]), (0, 2, 0, 0, [(-1), 5])] 576 cxr_value = true := by decide +kernel   -- 176
theorem cxw_value : con_ok PT bB 198 cxF cxQ cxr_value := con_chkS_ok (fun _ _ h => h) cxpp (kl_ok (List.forall_mem_cons.mpr ⟨cxo82, List.forall_mem_cons.mpr ⟨cxo88, fun _ h => (by cases h)⟩⟩)) nw_class (fun h => by cases h) cxq_value
def cxr_where : con := (103, [(2, 0, 1), (0, -2147483648, 2147483647)], [], [some (0, -2147483648, 2147483647)], [], 20, 1600, false)
theorem cxq_where : con_chkS (kl bB cxF [cxt64, cxt82, cxt88]) PT bB 198 cxF cxJ cxjo cxP [(0, 1, 0, 0, [(-1), 7])] 679 cxr_where = true := by decide +kernel   -- 279
theorem cxw_where : con_ok PT bB 198 cxF cxQ cxr_where := con_chkS_ok (fun _ _ h => h) cxpp (kl_ok (List.forall_mem_cons.mpr ⟨cxo64, List.forall_mem_cons.mpr ⟨cxo82, List.forall_mem_cons.mpr ⟨cxo88, fun _ h => (by cases h)⟩⟩⟩)) nw_class (fun h => by cases h) cxq_where
def cxr_answer : con := (104, [(2, 0, 1), (0, -2147483648, 2147483647), (0, -2147483648, 2147483647)], [], [some (0, -2147483648, 2147483647)], [], 20, 1600, false)
theorem cxq_answer : con_chkS (kl bB cxF [cxt64, cxt82, cxt83, cxt88]) PT bB 198 cxF cxJ cxjo cxP [(0, 1, 0, 0, [(-1), 5]), (0, 2, 0, 0, [(-1), 5])] 1279 cxr_answer = true := by decide +kernel   -- 879
theorem cxw_answer : con_ok PT bB 198 cxF cxQ cxr_answer := con_chkS_ok (fun _ _ h => h) cxpp (kl_ok (List.forall_mem_cons.mpr ⟨cxo64, List.forall_mem_cons.mpr ⟨cxo82, List.forall_mem_cons.mpr ⟨cxo83, List.forall_mem_cons.mpr ⟨cxo88, fun _ h => (by cases h)⟩⟩⟩⟩)) nw_class (fun h => by cases h) cxq_answer
def cxr_wins : con := (105, [(2, 0, 1), (0, -2147483648, 2147483647), (0, -2147483648, 2147483647)], [], [some (0, -2147483648, 2147483647)], [], 35, 2800, false)
theorem cxq_wins : con_chkS (kl bB cxF [cxt63, cxt220, cxt221]) PT bB 198 cxF cxJ cxjo cxP [(0, 1, 0, 0, [(-1), 5]), (0, 2, 0, 0, [(-1), 5])] 755 cxr_wins = true := by decide +kernel   -- 355
theorem cxw_wins : con_ok PT bB 198 cxF cxQ cxr_wins := con_chkS_ok (fun _ _ h => h) cxpp (kl_ok (List.forall_mem_cons.mpr ⟨cxo63, List.forall_mem_cons.mpr ⟨cxo220, List.forall_mem_cons.mpr ⟨cxo221, fun _ h => (by cases h)⟩⟩⟩)) nw_class (fun h => by cases h) cxq_wins
def cxr_unseen : con := (106, [(2, 0, 1), (0, -2147483648, 2147483647)], [], [some (0, -2147483648, 2147483647)], [], 15, 1200, false)
theorem cxq_unseen : con_chkS (kl bB cxF [cxt65, cxt127, cxt208]) PT bB 198 cxF cxJ cxjo cxP [(0, 1, 0, 0, [(-1), 7])] 770 cxr_unseen = true := by decide +kernel   -- 370
theorem cxw_unseen : con_ok PT bB 198 cxF cxQ cxr_unseen := con_chkS_ok (fun _ _ h => h) cxpp (kl_ok (List.forall_mem_cons.mpr ⟨cxo65, List.forall_mem_cons.mpr ⟨cxo127, List.forall_mem_cons.mpr ⟨cxo208, fun _ h => (by cases h)⟩⟩⟩)) nw_class (fun h => by cases h) cxq_unseen
