/-! contracts -/
def cxt253 : con := (11, [(2, 151, 1), (0, 3, 3)], [], [some (0, (-2147483648), 2147483647)], [], 5, 400, false)
theorem cxk253 : con_chk (kl bB cxF []) PT bB 198 cxF cxJ cxjo cxP 1146 cxt253 = true := by decide +kernel   -- X1_fewestPayments
theorem cxo253 : con_ok PT bB 198 cxF cxQ cxt253 := con_chk_ok (fun _ _ h => h) cxpp (kl_ok (fun _ h => (by cases h))) nw_class (fun h => by cases h) cxk253
def cxt254 : con := (11, [(2, 151, 1), (0, 4, 4)], [], [some (0, (-2147483648), 2147483647)], [], 5, 400, false)
theorem cxk254 : con_chk (kl bB cxF []) PT bB 198 cxF cxJ cxjo cxP 2263 cxt254 = true := by decide +kernel   -- X1_fewestPayments
theorem cxo254 : con_ok PT bB 198 cxF cxQ cxt254 := con_chk_ok (fun _ _ h => h) cxpp (kl_ok (fun _ h => (by cases h))) nw_class (fun h => by cases h) cxk254
