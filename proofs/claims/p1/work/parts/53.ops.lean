/-! the answers on the fresh heap, opcode by opcode -/
theorem op_sign : bt_chk (fz_both fz_n fz_m 261 86 179) [(0, 0)] [bx_T 1] = true := by decide +kernel
theorem op_end : bt_chk (fz_both fz_n fz_m 90 87 180) [(1, -1), (0, 0), (1, 0), (0, 0), (0, 0)] [bx_T 1] = true := by decide +kernel
theorem op_courts : bt_chk (fz_both fz_n fz_m 163 88 189) [(0, 0)] [bx_T 0] = true := by decide +kernel
theorem op_gifts : bt_chk (fz_both fz_n fz_m 163 89 193) [(0, 0)] [bx_T 0] = true := by decide +kernel
theorem op_rule : bt_chk (fz_both fz_n fz_m 264 90 199) [(0, 0)] [bx_T 0] = true := by decide +kernel
theorem op_road : bt_chk (fz_both fz_n fz_m 117 94 210) [(1, -1), (0, 0), (0, 0)] [bx_T 3] = true := by decide +kernel
theorem op_sheet : bt_chk (fz_both fz_n fz_m 146 95 211) [(1, -1), (0, 0), (1, 3), (2, 6), (1, 2), (2, -1), (1, 0), (0, 0), (0, 0), (1, 0), (0, 0), (0, 0), (0, 0), (0, 0), (0, 0)] [bx_T 4] = true := by decide +kernel
theorem op_send : bt_chk (fz_both fz_n fz_m 1874 96 223) [(1, -1), (0, 0), (0, 0)] [bx_T 2] = true := by decide +kernel
theorem op_envoy : bt_chk (fz_both fz_n fz_m 1882 98 225) [(1, -1), (0, 0), (0, 0)] [bx_T 3] = true := by decide +kernel
theorem op_forgive : bt_chk (fz_both fz_n fz_m 1881 99 226) [(1, -1), (0, 0), (0, 0)] [bx_T 2] = true := by decide +kernel
theorem op_year : bt_chk (fz_both fz_n fz_m 2166 100 229) [(0, 0)] [bx_T 0] = true := by decide +kernel
theorem op_undo : bt_chk (fz_both fz_n fz_m 71 101 215) [(0, 0)] [bx_T 0] = true := by decide +kernel
theorem op_value : bt_chk (fz_both fz_n fz_m 100 102 231) [(1, -1), (0, 0), (0, 0)] [bx_T 2] = true := by decide +kernel
theorem op_where : bt_chk (fz_both fz_n fz_m 100 103 232) [(1, -1), (0, 0), (0, 0)] [bx_T 1] = true := by decide +kernel
theorem op_answer : bt_chk (fz_both fz_n fz_m 117 104 233) [(1, -1), (0, 0), (0, 0)] [bx_T 2] = true := by decide +kernel
theorem op_wins : bt_chk (fz_both fz_n fz_m 117 105 235) [(1, -1), (0, 0), (0, 0)] [bx_T 2] = true := by decide +kernel
theorem op_unseen : bt_chk (fz_both fz_n fz_m 100 106 236) [(1, -1), (0, 0), (0, 0)] [bx_T 1] = true := by decide +kernel
theorem op_swaps : bt_chk (fz_both fz_n fz_m 94 107 237) [(0, 0)] [bx_T 0] = true := by decide +kernel
theorem op_way : bt_chk (fz_both fz_n fz_m 100 108 239) [(1, -1), (0, 0), (0, 0)] [bx_T 2] = true := by decide +kernel
theorem op_walks : bt_chk (fz_both fz_n fz_m 279 109 240) [(1, -1), (0, 0), (0, 0)] [bx_T 4] = true := by decide +kernel
theorem op_alive : bt_chk (fz_both fz_n fz_m 107 110 241) [(1, -1), (0, 0), (0, 0)] [bx_T 3] = true := by decide +kernel
theorem op_feeds : bt_chk (fz_both fz_n fz_m 100 111 243) [(1, -1), (0, 0), (0, 0)] [bx_T 1] = true := by decide +kernel
theorem op_starves : bt_chk (fz_both fz_n fz_m 117 112 244) [(1, -1), (0, 0), (0, 0)] [bx_T 2] = true := by decide +kernel
theorem op_net : bt_chk (fz_both fz_n fz_m 100 113 245) [(1, -1), (0, 0), (0, 0)] [bx_T 1] = true := by decide +kernel
theorem op_settle : bt_chk (fz_both fz_n fz_m 298 114 246) [(0, 0)] [bx_T 0] = true := by decide +kernel
theorem op_ring : bt_chk (fz_both fz_n fz_m 87 115 248) [(0, 0)] [bx_T 0] = true := by decide +kernel
theorem op_ranks : bt_chk (fz_both fz_n fz_m 79 116 250) [(0, 0)] [bx_T 0] = true := by decide +kernel
theorem op_league : bt_chk (fz_both fz_n fz_m 325 117 251) [(0, 0)] [bx_T 0] = true := by decide +kernel
theorem op_heard : bt_chk (fz_both fz_n fz_m 182 118 252) [(1, -1), (0, 0), (1, 3), (1, 0), (2, -1), (0, 0), (2, 4), (2, 0), (0, 0), (2, 3), (0, 0), (0, 0), (0, 0), (1, 1), (2, 0), (0, 0), (2, 99), (2, 1), (0, 0), (2, 98), (0, 0), (0, 0), (0, 0), (1, 2), (2, -1), (0, 0), (2, 5), (2, 0), (0, 0), (2, 4), (0, 0), (0, 0), (0, 0), (2, -1), (0, 0), (2, 0), (0, 0), (2, 1), (0, 0), (0, 0), (0, 0)] [bx_T 2] = true := by decide +kernel
theorem op_forget : bt_chk (fz_both fz_n fz_m 71 119 253) [(0, 0)] [bx_T 0] = true := by decide +kernel
theorem op_fits : bt_chk (fz_both fz_n fz_m 281 120 256) [(0, 0)] [bx_T 0] = true := by decide +kernel
theorem op_ask : bt_chk (fz_both fz_n fz_m 91 121 257) [(0, 0)] [bx_T 0] = true := by decide +kernel
theorem op_law : bt_chk (fz_both fz_n fz_m 430 122 259) [(0, 0)] [bx_T 0] = true := by decide +kernel
theorem op_keep : bt_chk (fz_both fz_n fz_m 1791 125 265) [(1, -1), (0, 0), (1, 2), (1, 0), (0, 0), (1, 1), (0, 0), (0, 0), (0, 0)] [bx_T 1] = true := by decide +kernel
theorem op_again : bt_chk (fz_both fz_n fz_m 101 126 266) [(1, -1), (0, 0), (1, 2), (0, 0), (0, 0)] [bx_T 1] = true := by decide +kernel
theorem op_count : bt_chk (fz_both fz_n fz_m 89 127 268) [(1, -1), (0, 0), (1, 12), (1, 0), (0, 0), (1, 1), (0, 0), (1, 2), (0, 0), (1, 3), (0, 0), (1, 4), (0, 0), (1, 5), (0, 0), (1, 6), (0, 0), (1, 7), (0, 0), (1, 8), (0, 0), (1, 9), (0, 0), (1, 10), (0, 0), (1, 11), (0, 0), (0, 0), (0, 0)] [bx_T 1] = true := by decide +kernel
