/-! contracts -/
def cxt9 : con := (11, [(2, 151, 1), (0, 5, 5)], [], [some (0, (-2147483648), 2147483647)], [], 5, 400, false)
theorem cxk9 : con_chk (kl bB cxF []) PT bB 198 cxF cxJ cxjo cxP 4844 cxt9 = true := fq_chk1 (fq_jn_eq _) rfl (by decide +kernel)   -- X1_fewestPayments
theorem cxo9 : con_ok PT bB 198 cxF cxQ cxt9 := con_chk_ok (fun _ _ h => h) cxpp (kl_ok (fun _ h => (by cases h))) nw_class (fun h => by cases h) cxk9
