/-! contracts -/
def cxt227 : con := (51, [(2, 148, 1), (0, 97, 97), (0, 0, 5), (0, (-2147483648), 2147483647), (0, (-2147483648), 2147483647)], [], [none], [], 5, 400, false)
theorem cxk227 : con_chk (kl bB cxF []) PT bB 198 cxF cxJ cxjo cxP 1016 cxt227 = true := by decide +kernel   -- X4_goOn
theorem cxo227 : con_ok PT bB 198 cxF cxQ cxt227 := con_chk_ok (fun _ _ h => h) cxpp (kl_ok (fun _ h => (by cases h))) nw_class (fun h => by cases h) cxk227
def cxt228 : con := (51, [(2, 148, 1), (0, 95, 95), (0, 0, 5), (0, (-2147483648), 2147483647), (0, (-2147483648), 2147483647)], [], [none], [], 5, 400, false)
theorem cxk228 : con_chk (kl bB cxF []) PT bB 198 cxF cxJ cxjo cxP 1016 cxt228 = true := by decide +kernel   -- X4_goOn
theorem cxo228 : con_ok PT bB 198 cxF cxQ cxt228 := con_chk_ok (fun _ _ h => h) cxpp (kl_ok (fun _ h => (by cases h))) nw_class (fun h => by cases h) cxk228
def cxt229 : con := (51, [(2, 148, 1), (0, 98, 98), (0, 0, 5), (0, (-2147483648), 2147483647), (0, (-2147483648), 2147483647)], [], [none], [], 5, 400, false)
theorem cxk229 : con_chk (kl bB cxF []) PT bB 198 cxF cxJ cxjo cxP 1016 cxt229 = true := by decide +kernel   -- X4_goOn
theorem cxo229 : con_ok PT bB 198 cxF cxQ cxt229 := con_chk_ok (fun _ _ h => h) cxpp (kl_ok (fun _ h => (by cases h))) nw_class (fun h => by cases h) cxk229
def cxt230 : con := (51, [(2, 148, 1), (0, 91, 91), (0, 0, 5), (0, (-2147483648), 2147483647), (0, (-2147483648), 2147483647)], [], [none], [], 5, 400, false)
theorem cxk230 : con_chk (kl bB cxF []) PT bB 198 cxF cxJ cxjo cxP 1016 cxt230 = true := by decide +kernel   -- X4_goOn
theorem cxo230 : con_ok PT bB 198 cxF cxQ cxt230 := con_chk_ok (fun _ _ h => h) cxpp (kl_ok (fun _ h => (by cases h))) nw_class (fun h => by cases h) cxk230
def cxt231 : con := (51, [(2, 148, 1), (0, 96, 96), (0, 0, 5), (0, (-2147483648), 2147483647), (0, (-2147483648), 2147483647)], [], [none], [], 5, 400, false)
theorem cxk231 : con_chk (kl bB cxF []) PT bB 198 cxF cxJ cxjo cxP 1016 cxt231 = true := by decide +kernel   -- X4_goOn
theorem cxo231 : con_ok PT bB 198 cxF cxQ cxt231 := con_chk_ok (fun _ _ h => h) cxpp (kl_ok (fun _ h => (by cases h))) nw_class (fun h => by cases h) cxk231
def cxt232 : con := (51, [(2, 148, 1), (0, 93, 93), (0, 0, 5), (0, (-2147483648), 2147483647), (0, (-2147483648), 2147483647)], [], [none], [], 5, 400, false)
theorem cxk232 : con_chk (kl bB cxF []) PT bB 198 cxF cxJ cxjo cxP 1016 cxt232 = true := by decide +kernel   -- X4_goOn
theorem cxo232 : con_ok PT bB 198 cxF cxQ cxt232 := con_chk_ok (fun _ _ h => h) cxpp (kl_ok (fun _ h => (by cases h))) nw_class (fun h => by cases h) cxk232
def cxt233 : con := (51, [(2, 148, 1), (0, 94, 94), (0, 0, 5), (0, (-2147483648), 2147483647), (0, (-2147483648), 2147483647)], [], [none], [], 5, 400, false)
theorem cxk233 : con_chk (kl bB cxF []) PT bB 198 cxF cxJ cxjo cxP 1016 cxt233 = true := by decide +kernel   -- X4_goOn
theorem cxo233 : con_ok PT bB 198 cxF cxQ cxt233 := con_chk_ok (fun _ _ h => h) cxpp (kl_ok (fun _ h => (by cases h))) nw_class (fun h => by cases h) cxk233
def cxt234 : con := (51, [(2, 148, 1), (0, 0, 90), (0, 0, 5), (0, (-2147483648), 2147483647), (0, (-2147483648), 2147483647)], [], [none], [], 5, 400, false)
theorem cxk234 : con_chk (kl bB cxF []) PT bB 198 cxF cxJ cxjo cxP 1016 cxt234 = true := by decide +kernel   -- X4_goOn
theorem cxo234 : con_ok PT bB 198 cxF cxQ cxt234 := con_chk_ok (fun _ _ h => h) cxpp (kl_ok (fun _ h => (by cases h))) nw_class (fun h => by cases h) cxk234
def cxt235 : con := (51, [(2, 148, 1), (0, 99, 99), (0, 0, 5), (0, (-2147483648), 2147483647), (0, (-2147483648), 2147483647)], [], [none], [], 5, 400, false)
theorem cxk235 : con_chk (kl bB cxF []) PT bB 198 cxF cxJ cxjo cxP 842 cxt235 = true := by decide +kernel   -- X4_goOn
theorem cxo235 : con_ok PT bB 198 cxF cxQ cxt235 := con_chk_ok (fun _ _ h => h) cxpp (kl_ok (fun _ h => (by cases h))) nw_class (fun h => by cases h) cxk235
def cxt236 : con := (51, [(2, 148, 1), (0, 92, 92), (0, 0, 5), (0, (-2147483648), 2147483647), (0, (-2147483648), 2147483647)], [], [none], [], 5, 400, false)
theorem cxk236 : con_chk (kl bB cxF []) PT bB 198 cxF cxJ cxjo cxP 1016 cxt236 = true := by decide +kernel   -- X4_goOn
theorem cxo236 : con_ok PT bB 198 cxF cxQ cxt236 := con_chk_ok (fun _ _ h => h) cxpp (kl_ok (fun _ h => (by cases h))) nw_class (fun h => by cases h) cxk236
