/-! the calls themselves -/
def cxr_rule : con := (90, [(2, 0, 1)], [], [some (0, -2147483648, 2147483647)], [], 175, 14000, false)
theorem cxq_rule : con_chkS (kl bB cxF [cxt205, cxt240]) PT bB 198 cxF cxJ cxjo cxP2 [] 428 cxr_rule = true := by decide +kernel   -- 28
theorem cxw_rule : con_ok PT bB 198 cxF cxQ cxr_rule := con_chkS_ok (fun _ _ h => h) cxpp (kl_ok (List.forall_mem_cons.mpr ⟨cxo205, List.forall_mem_cons.mpr ⟨cxo240, fun _ h => (by cases h)⟩⟩)) nw_class (fun h => by cases h) cxq_rule
def cxr_road : con := (94, [(2, 0, 1), (0, -2147483648, 2147483647), (0, -2147483648, 2147483647), (0, -2147483648, 2147483647)], [], [some (0, -2147483648, 2147483647)], [], 5, 400, false)
theorem cxq_road : con_chkS (kl bB cxF []) PT bB 198 cxF cxJ cxjo cxP2 [(0, 1, 0, 0, [(-1), 5]), (0, 2, 0, 0, [(-1), 5])] 685 cxr_road = true := by decide +kernel   -- 285
theorem cxw_road : con_ok PT bB 198 cxF cxQ cxr_road := con_chkS_ok (fun _ _ h => h) cxpp (kl_ok (fun _ h => (by cases h))) nw_class (fun h => by cases h) cxq_road
def cxr_sheet : con := (95, [(2, 0, 1), (0, -2147483648, 2147483647), (0, -2147483648, 2147483647), (0, -2147483648, 2147483647), (0, -2147483648, 2147483647)], [], [some (0, -2147483648, 2147483647)], [], 10, 800, false)
theorem cxq_sheet : con_chkS (kl bB cxF [cxt148]) PT bB 198 cxF cxJ cxjo cxP2 [] 889 cxr_sheet = true := by decide +kernel   -- 489
theorem cxw_sheet : con_ok PT bB 198 cxF cxQ cxr_sheet := con_chkS_ok (fun _ _ h => h) cxpp (kl_ok (List.forall_mem_cons.mpr ⟨cxo148, fun _ h => (by cases h)⟩)) nw_class (fun h => by cases h) cxq_sheet
def cxr_send : con := (96, [(2, 0, 1), (0, -2147483648, 2147483647), (0, -2147483648, 2147483647)], [], [some (0, -2147483648, 2147483647)], [], 20, 1600, false)
theorem cxq_send : con_chkS (kl bB cxF [cxt48, cxt52, cxt54, cxt97, cxt121]) PT bB 198 cxF cxJ cxjo cxP2 [(0, 1, 0, 0, [(-1), 7]), (0, 2, 0, 0, [(-1), 5])] 733 cxr_send = true := by decide +kernel   -- 333
theorem cxw_send : con_ok PT bB 198 cxF cxQ cxr_send := con_chkS_ok (fun _ _ h => h) cxpp (kl_ok (List.forall_mem_cons.mpr ⟨cxo48, List.forall_mem_cons.mpr ⟨cxo52, List.forall_mem_cons.mpr ⟨cxo54, List.forall_mem_cons.mpr ⟨cxo97, List.forall_mem_cons.mpr ⟨cxo121, fun _ h => (by cases h)⟩⟩⟩⟩⟩)) nw_class (fun h => by cases h) cxq_send
def cxr_months : con := (97, [(2, 0, 1), (0, -2147483648, 2147483647)], [], [some (0, -2147483648, 2147483647)], [], 25, 2000, false)
theorem cxq_months : con_chkS (kl bB cxF [cxt41, cxt42, cxt97, cxt121, cxt148]) PT bB 198 cxF cxJ cxjo cxP2 [] 446 cxr_months = true := by decide +kernel   -- 46
theorem cxw_months : con_ok PT bB 198 cxF cxQ cxr_months := con_chkS_ok (fun _ _ h => h) cxpp (kl_ok (List.forall_mem_cons.mpr ⟨cxo41, List.forall_mem_cons.mpr ⟨cxo42, List.forall_mem_cons.mpr ⟨cxo97, List.forall_mem_cons.mpr ⟨cxo121, List.forall_mem_cons.mpr ⟨cxo148, fun _ h => (by cases h)⟩⟩⟩⟩⟩)) nw_class (fun h => by cases h) cxq_months
def cxr_envoy : con := (98, [(2, 0, 1), (0, -2147483648, 2147483647), (0, -2147483648, 2147483647), (0, -2147483648, 2147483647)], [], [some (0, -2147483648, 2147483647)], [], 20, 1600, false)
theorem cxq_envoy : con_chkS (kl bB cxF [cxt36, cxt121]) PT bB 198 cxF cxJ cxjo cxP2 [(0, 1, 0, 0, [(-1), 5]), (0, 2, 0, 0, [(-1), 5])] 755 cxr_envoy = true := by decide +kernel   -- 355
theorem cxw_envoy : con_ok PT bB 198 cxF cxQ cxr_envoy := con_chkS_ok (fun _ _ h => h) cxpp (kl_ok (List.forall_mem_cons.mpr ⟨cxo36, List.forall_mem_cons.mpr ⟨cxo121, fun _ h => (by cases h)⟩⟩)) nw_class (fun h => by cases h) cxq_envoy
def cxr_forgive : con := (99, [(2, 0, 1), (0, -2147483648, 2147483647), (0, -2147483648, 2147483647)], [], [some (0, -2147483648, 2147483647)], [], 20, 1600, false)
theorem cxq_forgive : con_chkS (kl bB cxF [cxt121]) PT bB 198 cxF cxJ cxjo cxP2 [(0, 1, 0, 0, [(-1), 5]), (0, 2, 0, 0, [(-1), 5])] 767 cxr_forgive = true := by decide +kernel   -- 367
theorem cxw_forgive : con_ok PT bB 198 cxF cxQ cxr_forgive := con_chkS_ok (fun _ _ h => h) cxpp (kl_ok (List.forall_mem_cons.mpr ⟨cxo121, fun _ h => (by cases h)⟩)) nw_class (fun h => by cases h) cxq_forgive
def cxr_year : con := (100, [(2, 0, 1)], [], [some (0, -2147483648, 2147483647)], [], 30, 2400, false)
theorem cxq_year : con_chkS (kl bB cxF [cxt33, cxt35, cxt42, cxt82, cxt97, cxt119, cxt120]) PT bB 198 cxF cxJ cxjo cxP2 [] 3117 cxr_year = true := by decide +kernel   -- 2717
theorem cxw_year : con_ok PT bB 198 cxF cxQ cxr_year := con_chkS_ok (fun _ _ h => h) cxpp (kl_ok (List.forall_mem_cons.mpr ⟨cxo33, List.forall_mem_cons.mpr ⟨cxo35, List.forall_mem_cons.mpr ⟨cxo42, List.forall_mem_cons.mpr ⟨cxo82, List.forall_mem_cons.mpr ⟨cxo97, List.forall_mem_cons.mpr ⟨cxo119, List.forall_mem_cons.mpr ⟨cxo120, fun _ h => (by cases h)⟩⟩⟩⟩⟩⟩⟩)) nw_class (fun h => by cases h) cxq_year
def cxr_undo : con := (101, [(2, 0, 1)], [], [some (0, -2147483648, 2147483647)], [], 15, 1200, false)
theorem cxq_undo : con_chkS (kl bB cxF [cxt138]) PT bB 198 cxF cxJ cxjo cxP2 [] 412 cxr_undo = true := by decide +kernel   -- 12
theorem cxw_undo : con_ok PT bB 198 cxF cxQ cxr_undo := con_chkS_ok (fun _ _ h => h) cxpp (kl_ok (List.forall_mem_cons.mpr ⟨cxo138, fun _ h => (by cases h)⟩)) nw_class (fun h => by cases h) cxq_undo
def cxr_value : con := (102, [(2, 0, 1), (0, -2147483648, 2147483647), (0, -2147483648, 2147483647)], [], [some (0, -2147483648, 2147483647)], [], 20, 1600, false)
theorem cxq_value : con_chkS (kl bB cxF [cxt48, cxt52]) PT bB 198 cxF cxJ cxjo cxP2 [(0, 1, 0, 0, [(-1), 7]), (0, 2, 0, 0, [(-1), 5])] 576 cxr_value = true := by decide +kernel   -- 176
theorem cxw_value : con_ok PT bB 198 cxF cxQ cxr_value := con_chkS_ok (fun _ _ h => h) cxpp (kl_ok (List.forall_mem_cons.mpr ⟨cxo48, List.forall_mem_cons.mpr ⟨cxo52, fun _ h => (by cases h)⟩⟩)) nw_class (fun h => by cases h) cxq_value
def cxr_where : con := (103, [(2, 0, 1), (0, -2147483648, 2147483647)], [], [some (0, -2147483648, 2147483647)], [], 20, 1600, false)
theorem cxq_where : con_chkS (kl bB cxF [cxt48, cxt52, cxt97]) PT bB 198 cxF cxJ cxjo cxP2 [(0, 1, 0, 0, [(-1), 7])] 679 cxr_where = true := by decide +kernel   -- 279
theorem cxw_where : con_ok PT bB 198 cxF cxQ cxr_where := con_chkS_ok (fun _ _ h => h) cxpp (kl_ok (List.forall_mem_cons.mpr ⟨cxo48, List.forall_mem_cons.mpr ⟨cxo52, List.forall_mem_cons.mpr ⟨cxo97, fun _ h => (by cases h)⟩⟩⟩)) nw_class (fun h => by cases h) cxq_where
def cxr_answer : con := (104, [(2, 0, 1), (0, -2147483648, 2147483647), (0, -2147483648, 2147483647)], [], [some (0, -2147483648, 2147483647)], [], 20, 1600, false)
theorem cxq_answer : con_chkS (kl bB cxF [cxt48, cxt52, cxt53, cxt97]) PT bB 198 cxF cxJ cxjo cxP2 [(0, 1, 0, 0, [(-1), 5]), (0, 2, 0, 0, [(-1), 5])] 1279 cxr_answer = true := by decide +kernel   -- 879
theorem cxw_answer : con_ok PT bB 198 cxF cxQ cxr_answer := con_chkS_ok (fun _ _ h => h) cxpp (kl_ok (List.forall_mem_cons.mpr ⟨cxo48, List.forall_mem_cons.mpr ⟨cxo52, List.forall_mem_cons.mpr ⟨cxo53, List.forall_mem_cons.mpr ⟨cxo97, fun _ h => (by cases h)⟩⟩⟩⟩)) nw_class (fun h => by cases h) cxq_answer
def cxr_wins : con := (105, [(2, 0, 1), (0, -2147483648, 2147483647), (0, -2147483648, 2147483647)], [], [some (0, -2147483648, 2147483647)], [], 35, 2800, false)
theorem cxq_wins : con_chkS (kl bB cxF [cxt96, cxt254, cxt255]) PT bB 198 cxF cxJ cxjo cxP2 [(0, 1, 0, 0, [(-1), 5]), (0, 2, 0, 0, [(-1), 5])] 755 cxr_wins = true := by decide +kernel   -- 355
theorem cxw_wins : con_ok PT bB 198 cxF cxQ cxr_wins := con_chkS_ok (fun _ _ h => h) cxpp (kl_ok (List.forall_mem_cons.mpr ⟨cxo96, List.forall_mem_cons.mpr ⟨cxo254, List.forall_mem_cons.mpr ⟨cxo255, fun _ h => (by cases h)⟩⟩⟩)) nw_class (fun h => by cases h) cxq_wins
def cxr_unseen : con := (106, [(2, 0, 1), (0, -2147483648, 2147483647)], [], [some (0, -2147483648, 2147483647)], [], 15, 1200, false)
theorem cxq_unseen : con_chkS (kl bB cxF [cxt42, cxt91, cxt170]) PT bB 198 cxF cxJ cxjo cxP2 [(0, 1, 0, 0, [(-1), 7])] 770 cxr_unseen = true := by decide +kernel   -- 370
theorem cxw_unseen : con_ok PT bB 198 cxF cxQ cxr_unseen := con_chkS_ok (fun _ _ h => h) cxpp (kl_ok (List.forall_mem_cons.mpr ⟨cxo42, List.forall_mem_cons.mpr ⟨cxo91, List.forall_mem_cons.mpr ⟨cxo170, fun _ h => (by cases h)⟩⟩⟩)) nw_class (fun h => by cases h) cxq_unseen
