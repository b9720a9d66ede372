/-! contracts -/
def cxt0 : con := (79, [(2, 1, 1), (0, (-2147483648), 2147483647)], [], [some (0, 0, 1)], [], 5, 400, false)
theorem cxk0 : con_chk (kl cxB []) PT cxB 198 cxJ cxjo cxP 404 cxt0 = true := by decide +kernel   -- X8_addFour
def cxt1 : con := (80, [(2, 1, 1), (0, (-2147483648), 2147483647), (0, 40, 60)], [], [some (0, (-1), 65535)], [], 5, 400, true)
theorem cxk1 : con_chk (kl cxB []) PT cxB 198 cxJ cxjo cxP 328 cxt1 = true := by decide +kernel   -- X8_signAt
def cxt2 : con := (81, [(2, 1, 1), (0, (-2147483648), 2147483647), (0, 40, 60)], [], [some (0, (-1), 9)], [], 10, 800, true)
theorem cxk2 : con_chk (kl cxB [cxt1]) PT cxB 198 cxJ cxjo cxP 323 cxt2 = true := by decide +kernel   -- X8_digitAt
def cxt3 : con := (60, [(2, 145, 1), (0, (-2147483648), 999)], [], [none], [], 5, 400, false)
theorem cxk3 : con_chk (kl cxB []) PT cxB 198 cxJ cxjo cxP 321 cxt3 = true := by decide +kernel   -- X6_emit
def cxt4 : con := (59, [(2, 145, 1)], [], [none], [], 10, 800, false)
theorem cxk4 : con_chk (kl cxB [cxt3]) PT cxB 198 cxJ cxjo cxP 319 cxt4 = true := by decide +kernel   -- X6_beFirstRule
def cxt5 : con := (61, [(2, 145, 1)], [], [some (0, (-1), 65535)], [], 10, 800, true)
theorem cxk5 : con_chk (kl cxB [cxt1]) PT cxB 198 cxJ cxjo cxP 307 cxt5 = true := by decide +kernel   -- X6_nextSign
def cxt6 : con := (66, [(2, 145, 1)], [], [none], [], 15, 1200, false)
theorem cxk6 : con_chk (kl cxB [cxt2, cxt3]) PT cxB 198 cxJ cxjo cxP 402 cxt6 = true := by decide +kernel   -- X6_readNumber
def cxt7 : con := (67, [(0, (-2147483648), 2147483647)], [], [some (0, (-1), 6)], [], 5, 400, true)
theorem cxk7 : con_chk (kl cxB []) PT cxB 198 cxJ cxjo cxP 318 cxt7 = true := by decide +kernel   -- X6_letterOf
def cxt8 : con := (65, [(2, 145, 1), (0, 4, 4)], [], [some (0, 0, 1)], [], 20, 1600, false)
theorem cxk8 : con_chk (kl cxB [cxt3, cxt5, cxt6, cxt7]) PT cxB 198 cxJ cxjo cxP 348 cxt8 = true := by decide +kernel   -- X6_readThing
def cxt9 : con := (64, [(2, 145, 1), (0, 4, 4)], [], [some (0, 0, 1)], [], 25, 2000, false)
theorem cxk9 : con_chk (kl cxB [cxt3, cxt5, cxt8]) PT cxB 198 cxJ cxjo cxP 1102 cxt9 = true := by decide +kernel   -- X6_readSigned
def cxt10 : con := (62, [(2, 145, 1), (0, 3, 3), (0, 4, 4)], [], [some (0, 0, 1)], [], 30, 2400, false)
theorem cxk10 : con_chk (kl cxB [cxt9]) PT cxB 198 cxJ cxjo cxP 307 cxt10 = true := by decide +kernel   -- X6_readLevel
