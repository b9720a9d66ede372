/-! the calls themselves -/
def cxr_swaps : con := (107, [(2, 0, 1)], [], [some (0, -2147483648, 2147483647)], [], 25, 2000, false)
theorem cxq_swaps : con_chkS (kl bB cxF [cxt88, cxt96, cxt97]) PT bB 198 cxF cxJ cxjo cxP2 [] 1584 cxr_swaps = true := fq_chkS1 (fq_jn_eq _) rfl (by decide +kernel)   -- 1184
theorem cxw_swaps : con_ok PT bB 198 cxF cxQ cxr_swaps := con_chkS_ok (fun _ _ h => h) cxpp (kl_ok (List.forall_mem_cons.mpr ⟨cxo88, List.forall_mem_cons.mpr ⟨cxo96, List.forall_mem_cons.mpr ⟨cxo97, fun _ h => (by cases h)⟩⟩⟩)) nw_class (fun h => by cases h) cxq_swaps
def cxr_way : con := (108, [(2, 0, 1), (0, -2147483648, 2147483647), (0, -2147483648, 2147483647)], [], [some (0, -2147483648, 2147483647)], [], 15, 1200, false)
theorem cxq_way : con_chkS (kl bB cxF [cxt156, cxt158]) PT bB 198 cxF cxJ cxjo cxP2 [(0, 1, 0, 0, [(-1), 5]), (0, 2, 0, 0, [(-1), 5])] 586 cxr_way = true := fq_chkS1 (fq_jn_eq _) rfl (by decide +kernel)   -- 186
theorem cxw_way : con_ok PT bB 198 cxF cxQ cxr_way := con_chkS_ok (fun _ _ h => h) cxpp (kl_ok (List.forall_mem_cons.mpr ⟨cxo156, List.forall_mem_cons.mpr ⟨cxo158, fun _ h => (by cases h)⟩⟩)) nw_class (fun h => by cases h) cxq_way
def cxr_walks : con := (109, [(2, 0, 1), (0, -2147483648, 2147483647), (0, -2147483648, 2147483647), (0, -2147483648, 2147483647), (0, -2147483648, 2147483647)], [], [some (0, -2147483648, 2147483647)], [], 15, 1200, false)
theorem cxq_walks : con_chkS (kl bB cxF [cxt169]) PT bB 198 cxF cxJ cxjo cxP2 [(0, 1, 0, 0, [(-1), 5]), (0, 2, 0, 0, [(-1), 5])] 826 cxr_walks = true := fq_chkS1 (fq_jn_eq _) rfl (by decide +kernel)   -- 426
theorem cxw_walks : con_ok PT bB 198 cxF cxQ cxr_walks := con_chkS_ok (fun _ _ h => h) cxpp (kl_ok (List.forall_mem_cons.mpr ⟨cxo169, fun _ h => (by cases h)⟩)) nw_class (fun h => by cases h) cxq_walks
def cxr_alive : con := (110, [(2, 0, 1), (0, -2147483648, 2147483647), (0, -2147483648, 2147483647), (0, -2147483648, 2147483647)], [], [some (0, -2147483648, 2147483647)], [], 20, 1600, false)
theorem cxq_alive : con_chkS (kl bB cxF [cxt98, cxt99, cxt156]) PT bB 198 cxF cxJ cxjo cxP2 [(0, 1, 0, 0, [(-1), 5]), (0, 2, 0, 0, [(-1), 5])] 671 cxr_alive = true := fq_chkS1 (fq_jn_eq _) rfl (by decide +kernel)   -- 271
theorem cxw_alive : con_ok PT bB 198 cxF cxQ cxr_alive := con_chkS_ok (fun _ _ h => h) cxpp (kl_ok (List.forall_mem_cons.mpr ⟨cxo98, List.forall_mem_cons.mpr ⟨cxo99, List.forall_mem_cons.mpr ⟨cxo156, fun _ h => (by cases h)⟩⟩⟩)) nw_class (fun h => by cases h) cxq_alive
def cxr_feeds : con := (111, [(2, 0, 1), (0, -2147483648, 2147483647)], [], [some (0, -2147483648, 2147483647)], [], 20, 1600, false)
theorem cxq_feeds : con_chkS (kl bB cxF [cxt97, cxt102, cxt154, cxt247]) PT bB 198 cxF cxJ cxjo cxP2 [(0, 1, 0, 0, [(-1), 5])] 485 cxr_feeds = true := fq_chkS1 (fq_jn_eq _) rfl (by decide +kernel)   -- 85
theorem cxw_feeds : con_ok PT bB 198 cxF cxQ cxr_feeds := con_chkS_ok (fun _ _ h => h) cxpp (kl_ok (List.forall_mem_cons.mpr ⟨cxo97, List.forall_mem_cons.mpr ⟨cxo102, List.forall_mem_cons.mpr ⟨cxo154, List.forall_mem_cons.mpr ⟨cxo247, fun _ h => (by cases h)⟩⟩⟩⟩)) nw_class (fun h => by cases h) cxq_feeds
def cxr_starves : con := (112, [(2, 0, 1), (0, -2147483648, 2147483647), (0, -2147483648, 2147483647)], [], [some (0, -2147483648, 2147483647)], [], 20, 1600, false)
theorem cxq_starves : con_chkS (kl bB cxF [cxt38, cxt154, cxt170, cxt247]) PT bB 198 cxF cxJ cxjo cxP2 [(0, 1, 0, 0, [(-1), 5]), (0, 2, 0, 0, [(-1), 5])] 1045 cxr_starves = true := fq_chkS1 (fq_jn_eq _) rfl (by decide +kernel)   -- 645
theorem cxw_starves : con_ok PT bB 198 cxF cxQ cxr_starves := con_chkS_ok (fun _ _ h => h) cxpp (kl_ok (List.forall_mem_cons.mpr ⟨cxo38, List.forall_mem_cons.mpr ⟨cxo154, List.forall_mem_cons.mpr ⟨cxo170, List.forall_mem_cons.mpr ⟨cxo247, fun _ h => (by cases h)⟩⟩⟩⟩)) nw_class (fun h => by cases h) cxq_starves
def cxr_net : con := (113, [(2, 0, 1), (0, -2147483648, 2147483647)], [], [some (0, -2147483648, 2147483647)], [], 15, 1200, false)
theorem cxq_net : con_chkS (kl bB cxF [cxt2, cxt3, cxt97]) PT bB 198 cxF cxJ cxjo cxP2 [(0, 1, 0, 0, [(-1), 5])] 468 cxr_net = true := fq_chkS1 (fq_jn_eq _) rfl (by decide +kernel)   -- 68
theorem cxw_net : con_ok PT bB 198 cxF cxQ cxr_net := con_chkS_ok (fun _ _ h => h) cxpp (kl_ok (List.forall_mem_cons.mpr ⟨cxo2, List.forall_mem_cons.mpr ⟨cxo3, List.forall_mem_cons.mpr ⟨cxo97, fun _ h => (by cases h)⟩⟩⟩)) nw_class (fun h => by cases h) cxq_net
def cxr_settle : con := (114, [(2, 0, 1)], [], [some (0, -2147483648, 2147483647)], [], 15, 1200, false)
theorem cxq_settle : con_chkS (kl bB cxF [cxt4, cxt5, cxt6, cxt7, cxt8, cxt9, cxt10, cxt11, cxt170]) PT bB 198 cxF cxJ cxjo cxP2 [] 416 cxr_settle = true := fq_chkS1 (fq_jn_eq _) rfl (by decide +kernel)   -- 16
theorem cxw_settle : con_ok PT bB 198 cxF cxQ cxr_settle := con_chkS_ok (fun _ _ h => h) cxpp (kl_ok (List.forall_mem_cons.mpr ⟨cxo4, List.forall_mem_cons.mpr ⟨cxo5, List.forall_mem_cons.mpr ⟨cxo6, List.forall_mem_cons.mpr ⟨cxo7, List.forall_mem_cons.mpr ⟨cxo8, List.forall_mem_cons.mpr ⟨cxo9, List.forall_mem_cons.mpr ⟨cxo10, List.forall_mem_cons.mpr ⟨cxo11, List.forall_mem_cons.mpr ⟨cxo170, fun _ h => (by cases h)⟩⟩⟩⟩⟩⟩⟩⟩⟩)) nw_class (fun h => by cases h) cxq_settle
def cxr_ring : con := (115, [(2, 0, 1)], [], [some (0, -2147483648, 2147483647)], [], 40, 3200, false)
theorem cxq_ring : con_chkS (kl bB cxF [cxt32, cxt37, cxt96]) PT bB 198 cxF cxJ cxjo cxP2 [] 601 cxr_ring = true := fq_chkS1 (fq_jn_eq _) rfl (by decide +kernel)   -- 201
theorem cxw_ring : con_ok PT bB 198 cxF cxQ cxr_ring := con_chkS_ok (fun _ _ h => h) cxpp (kl_ok (List.forall_mem_cons.mpr ⟨cxo32, List.forall_mem_cons.mpr ⟨cxo37, List.forall_mem_cons.mpr ⟨cxo96, fun _ h => (by cases h)⟩⟩⟩)) nw_class (fun h => by cases h) cxq_ring
def cxr_ranks : con := (116, [(2, 0, 1)], [], [some (0, -2147483648, 2147483647)], [], 15, 1200, false)
theorem cxq_ranks : con_chkS (kl bB cxF [cxt89, cxt90, cxt96]) PT bB 198 cxF cxJ cxjo cxP2 [] 594 cxr_ranks = true := fq_chkS1 (fq_jn_eq _) rfl (by decide +kernel)   -- 194
theorem cxw_ranks : con_ok PT bB 198 cxF cxQ cxr_ranks := con_chkS_ok (fun _ _ h => h) cxpp (kl_ok (List.forall_mem_cons.mpr ⟨cxo89, List.forall_mem_cons.mpr ⟨cxo90, List.forall_mem_cons.mpr ⟨cxo96, fun _ h => (by cases h)⟩⟩⟩)) nw_class (fun h => by cases h) cxq_ranks
def cxr_league : con := (117, [(2, 0, 1)], [], [some (0, -2147483648, 2147483647)], [], 15, 1200, false)
theorem cxq_league : con_chkS (kl bB cxF [cxt42, cxt92, cxt170]) PT bB 198 cxF cxJ cxjo cxP2 [] 1679 cxr_league = true := fq_chkS1 (fq_jn_eq _) rfl (by decide +kernel)   -- 1279
theorem cxw_league : con_ok PT bB 198 cxF cxQ cxr_league := con_chkS_ok (fun _ _ h => h) cxpp (kl_ok (List.forall_mem_cons.mpr ⟨cxo42, List.forall_mem_cons.mpr ⟨cxo92, List.forall_mem_cons.mpr ⟨cxo170, fun _ h => (by cases h)⟩⟩⟩)) nw_class (fun h => by cases h) cxq_league
def cxr_heard : con := (118, [(2, 0, 1), (0, -2147483648, 2147483647), (0, -2147483648, 2147483647)], [], [some (0, -2147483648, 2147483647)], [], 15, 1200, false)
theorem cxq_heard : con_chkS (kl bB cxF [cxt1]) PT bB 198 cxF cxJ cxjo cxP2 [] 412 cxr_heard = true := fq_chkS1 (fq_jn_eq _) rfl (by decide +kernel)   -- 12
theorem cxw_heard : con_ok PT bB 198 cxF cxQ cxr_heard := con_chkS_ok (fun _ _ h => h) cxpp (kl_ok (List.forall_mem_cons.mpr ⟨cxo1, fun _ h => (by cases h)⟩)) nw_class (fun h => by cases h) cxq_heard
def cxr_forget : con := (119, [(2, 0, 1)], [], [some (0, -2147483648, 2147483647)], [], 5, 400, false)
theorem cxq_forget : con_chkS (kl bB cxF []) PT bB 198 cxF cxJ cxjo cxP2 [] 410 cxr_forget = true := fq_chkS1 (fq_jn_eq _) rfl (by decide +kernel)   -- 10
theorem cxw_forget : con_ok PT bB 198 cxF cxQ cxr_forget := con_chkS_ok (fun _ _ h => h) cxpp (kl_ok (fun _ h => (by cases h))) nw_class (fun h => by cases h) cxq_forget
def cxr_fits : con := (120, [(2, 0, 1)], [], [some (0, -2147483648, 2147483647)], [], 20, 1600, false)
theorem cxq_fits : con_chkS (kl bB cxF [cxt42, cxt97, cxt142]) PT bB 198 cxF cxJ cxjo cxP2 [] 593 cxr_fits = true := fq_chkS1 (fq_jn_eq _) rfl (by decide +kernel)   -- 193
theorem cxw_fits : con_ok PT bB 198 cxF cxQ cxr_fits := con_chkS_ok (fun _ _ h => h) cxpp (kl_ok (List.forall_mem_cons.mpr ⟨cxo42, List.forall_mem_cons.mpr ⟨cxo97, List.forall_mem_cons.mpr ⟨cxo142, fun _ h => (by cases h)⟩⟩⟩)) nw_class (fun h => by cases h) cxq_fits
def cxr_ask : con := (121, [(2, 0, 1)], [], [some (0, -2147483648, 2147483647)], [], 20, 1600, false)
theorem cxq_ask : con_chkS (kl bB cxF [cxt42, cxt142, cxt143, cxt170]) PT bB 198 cxF cxJ cxjo cxP2 [] 656 cxr_ask = true := fq_chkS1 (fq_jn_eq _) rfl (by decide +kernel)   -- 256
theorem cxw_ask : con_ok PT bB 198 cxF cxQ cxr_ask := con_chkS_ok (fun _ _ h => h) cxpp (kl_ok (List.forall_mem_cons.mpr ⟨cxo42, List.forall_mem_cons.mpr ⟨cxo142, List.forall_mem_cons.mpr ⟨cxo143, List.forall_mem_cons.mpr ⟨cxo170, fun _ h => (by cases h)⟩⟩⟩⟩)) nw_class (fun h => by cases h) cxq_ask
def cxr_law : con := (122, [(2, 0, 1)], [], [some (0, -2147483648, 2147483647)], [], 175, 14000, false)
theorem cxq_law : con_chkS (kl bB cxF [cxt93, cxt94, cxt97, cxt205, cxt240]) PT bB 198 cxF cxJ cxjo cxP2 [] 437 cxr_law = true := fq_chkS1 (fq_jn_eq _) rfl (by decide +kernel)   -- 37
theorem cxw_law : con_ok PT bB 198 cxF cxQ cxr_law := con_chkS_ok (fun _ _ h => h) cxpp (kl_ok (List.forall_mem_cons.mpr ⟨cxo93, List.forall_mem_cons.mpr ⟨cxo94, List.forall_mem_cons.mpr ⟨cxo97, List.forall_mem_cons.mpr ⟨cxo205, List.forall_mem_cons.mpr ⟨cxo240, fun _ h => (by cases h)⟩⟩⟩⟩⟩)) nw_class (fun h => by cases h) cxq_law
