/-! contracts -/
def cxt10 : con := (11, [(2, 151, 1), (0, 6, 6)], [], [some (0, (-2147483648), 2147483647)], [], 5, 400, false)
theorem cxk10 : con_chk (kl bB cxF []) PT bB 198 cxF cxJ cxjo cxP 10689 cxt10 = true := fq_chk1 (fq_jn_eq _) rfl (by decide +kernel)   -- X1_fewestPayments
theorem cxo10 : con_ok PT bB 198 cxF cxQ cxt10 := con_chk_ok (fun _ _ h => h) cxpp (kl_ok (fun _ h => (by cases h))) nw_class (fun h => by cases h) cxk10
