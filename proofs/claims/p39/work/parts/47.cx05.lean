/-! contracts -/
def cxt62 : con := (140, [(2, 0, 1), (0, (-1), 60)], [], [none], [], 20, 1600, false)
theorem cxk62 : con_chk (kl bB cxF [cxt61]) PT bB 198 cxF cxJ cxjo cxP 1906 cxt62 = true := by decide +kernel   -- X10_passMonths
theorem cxo62 : con_ok PT bB 198 cxF cxQ cxt62 := con_chk_ok (fun _ _ h => h) cxpp (kl_ok (List.forall_mem_cons.mpr ⟨cxo61, fun _ h => (by cases h)⟩)) nw_class (fun h => by cases h) cxk62
def cxt63 : con := (54, [(2, 3, 1), (1, (-9223372036854775808), 9223372036854775807)], [], [none], [], 5, 400, false)
theorem cxk63 : con_chk (kl bB cxF []) PT bB 198 cxF cxJ cxjo cxP 421 cxt63 = true := by decide +kernel   -- X5_tell
theorem cxo63 : con_ok PT bB 198 cxF cxQ cxt63 := con_chk_ok (fun _ _ h => h) cxpp (kl_ok (fun _ h => (by cases h))) nw_class (fun h => by cases h) cxk63
def cxt64 : con := (56, [(2, 3, 1), (1, (-9223372036854775808), 9223372036854775807), (1, (-9223372036854775808), 9223372036854775807)], [], [none], [], 10, 800, false)
theorem cxk64 : con_chk (kl bB cxF [cxt63]) PT bB 198 cxF cxJ cxjo cxP 413 cxt64 = true := by decide +kernel   -- X5_tellTwo
theorem cxo64 : con_ok PT bB 198 cxF cxQ cxt64 := con_chk_ok (fun _ _ h => h) cxpp (kl_ok (List.forall_mem_cons.mpr ⟨cxo63, fun _ h => (by cases h)⟩)) nw_class (fun h => by cases h) cxk64
def cxt65 : con := (270, [(0, (-2147483648), 2147483647)], [], [some (0, 0, 2147483647)], [], 5, 400, true)
theorem cxk65 : con_chk (kl bB cxF []) PT bB 198 cxF cxJ cxjo cxP 442 cxt65 = true := by decide +kernel   -- J6_bitCount_0f7a4
theorem cxo65 : con_ok PT bB 198 cxF cxQ cxt65 := con_chk_ok (fun _ _ h => h) cxpp (kl_ok (fun _ h => (by cases h))) nw_class (fun _ => by decide) cxk65
