/-! the calls themselves -/
def cxr_swaps : con := (107, [(2, 0, 1)], [], [some (0, -2147483648, 2147483647)], [], 25, 2000, false)
theorem cxq_swaps : con_chkS (kl bB cxF [cxt63, cxt64, cxt222]) PT bB 198 cxF cxJ cxjo cxP [] 1584 cxr_swaps = true := by decide +kernel   -- 1184
theorem cxw_swaps : con_ok PT bB 198 cxF cxQ cxr_swaps := con_chkS_ok (fun _ _ h => h) cxpp (kl_ok (List.forall_mem_cons.mpr ⟨cxo63, List.forall_mem_cons.mpr ⟨cxo64, List.forall_mem_cons.mpr ⟨cxo222, fun _ h => (by cases h)⟩⟩⟩)) nw_class (fun h => by cases h) cxq_swaps
def cxr_way : con := (108, [(2, 0, 1), (0, -2147483648, 2147483647), (0, -2147483648, 2147483647)], [], [some (0, -2147483648, 2147483647)], [], 15, 1200, false)
theorem cxq_way : con_chkS (kl bB cxF [cxt224, cxt226]) PT bB 198 cxF cxJ cxjo cxP [(0, 1, 0, 0, [(-1), 5]), (0, 2, 0, 0, [(-1), 5])] 586 cxr_way = true := by decide +kernel   -- 186
theorem cxw_way : con_ok PT bB 198 cxF cxQ cxr_way := con_chkS_ok (fun _ _ h => h) cxpp (kl_ok (List.forall_mem_cons.mpr ⟨cxo224, List.forall_mem_cons.mpr ⟨cxo226, fun _ h => (by cases h)⟩⟩)) nw_class (fun h => by cases h) cxq_way
def cxr_walks : con := (109, [(2, 0, 1), (0, -2147483648, 2147483647), (0, -2147483648, 2147483647), (0, -2147483648, 2147483647), (0, -2147483648, 2147483647)], [], [some (0, -2147483648, 2147483647)], [], 15, 1200, false)
theorem cxq_walks : con_chkS (kl bB cxF [cxt237]) PT bB 198 cxF cxJ cxjo cxP [(0, 1, 0, 0, [(-1), 5]), (0, 2, 0, 0, [(-1), 5])] 826 cxr_walks = true := by decide +kernel   -- 426
theorem cxw_walks : con_ok PT bB 198 cxF cxQ cxr_walks := con_chkS_ok (fun _ _ h => h) cxpp (kl_ok (List.forall_mem_cons.mpr ⟨cxo237, fun _ h => (by cases h)⟩)) nw_class (fun h => by cases h) cxq_walks
def cxr_alive : con := (110, [(2, 0, 1), (0, -2147483648, 2147483647), (0, -2147483648, 2147483647), (0, -2147483648, 2147483647)], [], [some (0, -2147483648, 2147483647)], [], 20, 1600, false)
theorem cxq_alive : con_chkS (kl bB cxF [cxt224, cxt238, cxt240]) PT bB 198 cxF cxJ cxjo cxP [(0, 1, 0, 0, [(-1), 5]), (0, 2, 0, 0, [(-1), 5])] 671 cxr_alive = true := by decide +kernel   -- 271
theorem cxw_alive : con_ok PT bB 198 cxF cxQ cxr_alive := con_chkS_ok (fun _ _ h => h) cxpp (kl_ok (List.forall_mem_cons.mpr ⟨cxo224, List.forall_mem_cons.mpr ⟨cxo238, List.forall_mem_cons.mpr ⟨cxo240, fun _ h => (by cases h)⟩⟩⟩)) nw_class (fun h => by cases h) cxq_alive
def cxr_feeds : con := (111, [(2, 0, 1), (0, -2147483648, 2147483647)], [], [some (0, -2147483648, 2147483647)], [], 20, 1600, false)
theorem cxq_feeds : con_chkS (kl bB cxF [cxt64, cxt196, cxt241, cxt242]) PT bB 198 cxF cxJ cxjo cxP [(0, 1, 0, 0, [(-1), 5])] 485 cxr_feeds = true := by decide +kernel   -- 85
theorem cxw_feeds : con_ok PT bB 198 cxF cxQ cxr_feeds := con_chkS_ok (fun _ _ h => h) cxpp (kl_ok (List.forall_mem_cons.mpr ⟨cxo64, List.forall_mem_cons.mpr ⟨cxo196, List.forall_mem_cons.mpr ⟨cxo241, List.forall_mem_cons.mpr ⟨cxo242, fun _ h => (by cases h)⟩⟩⟩⟩)) nw_class (fun h => by cases h) cxq_feeds
def cxr_starves : con := (112, [(2, 0, 1), (0, -2147483648, 2147483647), (0, -2147483648, 2147483647)], [], [some (0, -2147483648, 2147483647)], [], 20, 1600, false)
theorem cxq_starves : con_chkS (kl bB cxF [cxt59, cxt127, cxt196, cxt241]) PT bB 198 cxF cxJ cxjo cxP [(0, 1, 0, 0, [(-1), 5]), (0, 2, 0, 0, [(-1), 5])] 1045 cxr_starves = true := by decide +kernel   -- 645
theorem cxw_starves : con_ok PT bB 198 cxF cxQ cxr_starves := con_chkS_ok (fun _ _ h => h) cxpp (kl_ok (List.forall_mem_cons.mpr ⟨cxo59, List.forall_mem_cons.mpr ⟨cxo127, List.forall_mem_cons.mpr ⟨cxo196, List.forall_mem_cons.mpr ⟨cxo241, fun _ h => (by cases h)⟩⟩⟩⟩)) nw_class (fun h => by cases h) cxq_starves
def cxr_net : con := (113, [(2, 0, 1), (0, -2147483648, 2147483647)], [], [some (0, -2147483648, 2147483647)], [], 15, 1200, false)
theorem cxq_net : con_chkS (kl bB cxF [cxt64, cxt124, cxt125]) PT bB 198 cxF cxJ cxjo cxP [(0, 1, 0, 0, [(-1), 5])] 468 cxr_net = true := by decide +kernel   -- 68
theorem cxw_net : con_ok PT bB 198 cxF cxQ cxr_net := con_chkS_ok (fun _ _ h => h) cxpp (kl_ok (List.forall_mem_cons.mpr ⟨cxo64, List.forall_mem_cons.mpr ⟨cxo124, List.forall_mem_cons.mpr ⟨cxo125, fun _ h => (by cases h)⟩⟩⟩)) nw_class (fun h => by cases h) cxq_net
def cxr_settle : con := (114, [(2, 0, 1)], [], [some (0, -2147483648, 2147483647)], [], 15, 1200, false)
theorem cxq_settle : con_chkS (kl bB cxF [cxt126, cxt127, cxt128, cxt248, cxt251, cxt253, cxt254, cxt255, cxt256]) PT bB 198 cxF cxJ cxjo cxP [] 416 cxr_settle = true := by decide +kernel   -- 16
theorem cxw_settle : con_ok PT bB 198 cxF cxQ cxr_settle := con_chkS_ok (fun _ _ h => h) cxpp (kl_ok (List.forall_mem_cons.mpr ⟨cxo126, List.forall_mem_cons.mpr ⟨cxo127, List.forall_mem_cons.mpr ⟨cxo128, List.forall_mem_cons.mpr ⟨cxo248, List.forall_mem_cons.mpr ⟨cxo251, List.forall_mem_cons.mpr ⟨cxo253, List.forall_mem_cons.mpr ⟨cxo254, List.forall_mem_cons.mpr ⟨cxo255, List.forall_mem_cons.mpr ⟨cxo256, fun _ h => (by cases h)⟩⟩⟩⟩⟩⟩⟩⟩⟩)) nw_class (fun h => by cases h) cxq_settle
def cxr_ring : con := (115, [(2, 0, 1)], [], [some (0, -2147483648, 2147483647)], [], 40, 3200, false)
theorem cxq_ring : con_chkS (kl bB cxF [cxt63, cxt149, cxt252]) PT bB 198 cxF cxJ cxjo cxP [] 601 cxr_ring = true := by decide +kernel   -- 201
theorem cxw_ring : con_ok PT bB 198 cxF cxQ cxr_ring := con_chkS_ok (fun _ _ h => h) cxpp (kl_ok (List.forall_mem_cons.mpr ⟨cxo63, List.forall_mem_cons.mpr ⟨cxo149, List.forall_mem_cons.mpr ⟨cxo252, fun _ h => (by cases h)⟩⟩⟩)) nw_class (fun h => by cases h) cxq_ring
def cxr_ranks : con := (116, [(2, 0, 1)], [], [some (0, -2147483648, 2147483647)], [], 15, 1200, false)
theorem cxq_ranks : con_chkS (kl bB cxF [cxt63, cxt150, cxt151]) PT bB 198 cxF cxJ cxjo cxP [] 594 cxr_ranks = true := by decide +kernel   -- 194
theorem cxw_ranks : con_ok PT bB 198 cxF cxQ cxr_ranks := con_chkS_ok (fun _ _ h => h) cxpp (kl_ok (List.forall_mem_cons.mpr ⟨cxo63, List.forall_mem_cons.mpr ⟨cxo150, List.forall_mem_cons.mpr ⟨cxo151, fun _ h => (by cases h)⟩⟩⟩)) nw_class (fun h => by cases h) cxq_ranks
def cxr_league : con := (117, [(2, 0, 1)], [], [some (0, -2147483648, 2147483647)], [], 15, 1200, false)
theorem cxq_league : con_chkS (kl bB cxF [cxt65, cxt127, cxt249]) PT bB 198 cxF cxJ cxjo cxP [] 1679 cxr_league = true := by decide +kernel   -- 1279
theorem cxw_league : con_ok PT bB 198 cxF cxQ cxr_league := con_chkS_ok (fun _ _ h => h) cxpp (kl_ok (List.forall_mem_cons.mpr ⟨cxo65, List.forall_mem_cons.mpr ⟨cxo127, List.forall_mem_cons.mpr ⟨cxo249, fun _ h => (by cases h)⟩⟩⟩)) nw_class (fun h => by cases h) cxq_league
def cxr_heard : con := (118, [(2, 0, 1), (0, -2147483648, 2147483647), (0, -2147483648, 2147483647)], [], [some (0, -2147483648, 2147483647)], [], 15, 1200, false)
theorem cxq_heard : con_chkS (kl bB cxF [cxt153]) PT bB 198 cxF cxJ cxjo cxP [] 412 cxr_heard = true := by decide +kernel   -- 12
theorem cxw_heard : con_ok PT bB 198 cxF cxQ cxr_heard := con_chkS_ok (fun _ _ h => h) cxpp (kl_ok (List.forall_mem_cons.mpr ⟨cxo153, fun _ h => (by cases h)⟩)) nw_class (fun h => by cases h) cxq_heard
def cxr_forget : con := (119, [(2, 0, 1)], [], [some (0, -2147483648, 2147483647)], [], 5, 400, false)
theorem cxq_forget : con_chkS (kl bB cxF []) PT bB 198 cxF cxJ cxjo cxP [] 410 cxr_forget = true := by decide +kernel   -- 10
theorem cxw_forget : con_ok PT bB 198 cxF cxQ cxr_forget := con_chkS_ok (fun _ _ h => h) cxpp (kl_ok (fun _ h => (by cases h))) nw_class (fun h => by cases h) cxq_forget
def cxr_fits : con := (120, [(2, 0, 1)], [], [some (0, -2147483648, 2147483647)], [], 20, 1600, false)
theorem cxq_fits : con_chkS (kl bB cxF [cxt64, cxt65, cxt156]) PT bB 198 cxF cxJ cxjo cxP [] 593 cxr_fits = true := by decide +kernel   -- 193
theorem cxw_fits : con_ok PT bB 198 cxF cxQ cxr_fits := con_chkS_ok (fun _ _ h => h) cxpp (kl_ok (List.forall_mem_cons.mpr ⟨cxo64, List.forall_mem_cons.mpr ⟨cxo65, List.forall_mem_cons.mpr ⟨cxo156, fun _ h => (by cases h)⟩⟩⟩)) nw_class (fun h => by cases h) cxq_fits
def cxr_ask : con := (121, [(2, 0, 1)], [], [some (0, -2147483648, 2147483647)], [], 20, 1600, false)
theorem cxq_ask : con_chkS (kl bB cxF [cxt65, cxt127, cxt156, cxt250]) PT bB 198 cxF cxJ cxjo cxP [] 656 cxr_ask = true := by decide +kernel   -- 256
theorem cxw_ask : con_ok PT bB 198 cxF cxQ cxr_ask := con_chkS_ok (fun _ _ h => h) cxpp (kl_ok (List.forall_mem_cons.mpr ⟨cxo65, List.forall_mem_cons.mpr ⟨cxo127, List.forall_mem_cons.mpr ⟨cxo156, List.forall_mem_cons.mpr ⟨cxo250, fun _ h => (by cases h)⟩⟩⟩⟩)) nw_class (fun h => by cases h) cxq_ask
def cxr_law : con := (122, [(2, 0, 1)], [], [some (0, -2147483648, 2147483647)], [], 175, 14000, false)
theorem cxq_law : con_chkS (kl bB cxF [cxt38, cxt64, cxt191, cxt192, cxt193]) PT bB 198 cxF cxJ cxjo cxP [] 437 cxr_law = true := by decide +kernel   -- 37
theorem cxw_law : con_ok PT bB 198 cxF cxQ cxr_law := con_chkS_ok (fun _ _ h => h) cxpp (kl_ok (List.forall_mem_cons.mpr ⟨cxo38, List.forall_mem_cons.mpr ⟨cxo64, List.forall_mem_cons.mpr ⟨cxo191, List.forall_mem_cons.mpr ⟨cxo192, List.forall_mem_cons.mpr ⟨cxo193, fun _ h => (by cases h)⟩⟩⟩⟩⟩)) nw_class (fun h => by cases h) cxq_law
