/-! contracts -/
def cxt256 : con := (11, [(2, 151, 1), (0, 6, 6)], [], [some (0, (-2147483648), 2147483647)], [], 5, 400, false)
theorem cxk256 : con_chk (kl bB cxF []) PT bB 198 cxF cxJ cxjo cxP 10689 cxt256 = true := by decide +kernel   -- X1_fewestPayments
theorem cxo256 : con_ok PT bB 198 cxF cxQ cxt256 := con_chk_ok (fun _ _ h => h) cxpp (kl_ok (fun _ h => (by cases h))) nw_class (fun h => by cases h) cxk256
