section MH69rxs11x0
/-! long calls, in pieces -/
def rxr_gifts2 : con := (192, [(2, 162, 1)], [(162, .inr (11, [(0, 0, 1), (0, 0, 100), (2, 163, 1), (0, 1, 6), (0, 2, 2), (0, (-2147483648), 2147483647), (2, 164, 1), (2, 165, 1), (2, 166, 1), (2, 167, 1), (2, 168, 1), (2, 169, 1), (2, 170, 1), (2, 171, 1), (2, 172, 1), (0, 0, 80), (0, 0, 63), (0, 0, 60), (0, 0, 4), (2, 173, 1), (0, 0, 8), (2, 174, 1), (2, 175, 1), (0, 0, 80), (0, 0, 80), (2, 176, 1), (2, 177, 1), (0, 0, 15), (2, 178, 1), (0, 0, 999), (0, 0, 1), (2, 179, 1), (2, 180, 1), (2, 181, 1), (2, 182, 1), (0, 0, 35), (2, 183, 1), (2, 184, 1), (0, 0, 1000000), (2, 185, 1), (2, 186, 1), (0, (-2147483648), 2147483647), (2, 187, 1), (2, 188, 1), (2, 189, 1), (2, 190, 1), (0, 0, 7), (0, 0, 12), (2, 191, 1), (2, 192, 1), (2, 193, 1), (0, (-2147483648), 2147483647), (2, 194, 1), (2, 195, 1), (2, 196, 1)]))], [some (0, -2147483648, 2147483647)], [], 65, 3400, false)
def rxz_gifts2_1 : List ast := [(60, [some (2, 162, 1), some (0, 0, 80), some (0, 0, 0), some (0, 0, 0), none, none], [], [(162, .inr (11, [(0, 0, 0), (0, 0, 100), (2, 163, 1), (0, 1, 6), (0, 2, 2), (0, (-2147483648), 2147483647), (2, 164, 1), (2, 165, 1), (2, 166, 1), (2, 167, 1), (2, 168, 1), (2, 169, 1), (2, 170, 1), (2, 171, 1), (2, 172, 1), (0, 0, 0), (0, 1, 3), (0, 0, 55), (0, 0, 0), (2, 173, 1), (0, 0, 0), (2, 174, 1), (2, 175, 1), (0, 0, 80), (0, 0, 80), (2, 176, 1), (2, 177, 1), (0, 0, 15), (2, 178, 1), (0, 0, 999), (0, 0, 1), (2, 179, 1), (2, 180, 1), (2, 181, 1), (2, 182, 1), (0, 0, 35), (2, 183, 1), (2, 184, 1), (0, 0, 1000000), (2, 185, 1), (2, 186, 1), (0, (-2147483648), 2147483647), (2, 187, 1), (2, 188, 1), (2, 189, 1), (2, 190, 1), (0, 0, 7), (0, 0, 12), (2, 191, 1), (2, 192, 1), (2, 193, 1), (0, (-2147483648), 2147483647), (2, 194, 1), (2, 195, 1), (2, 196, 1)])), (173, .inr (1000, [(0, 0, 4), (0, (-1), 99), (0, (-1), 9), (0, (-1), 9), (0, (-1), 9), (0, (-1), 99), (0, (-1), 9), (0, (-1), 9), (0, (-1), 9), (0, (-1), 99), (0, (-1), 9), (0, (-1), 9), (0, (-1), 9), (0, (-1), 99), (0, (-1), 9), (0, (-1), 9), (0, (-1), 9), (0, (-1), 99), (0, (-1), 9), (0, (-1), 9), (0, (-1), 9), (0, (-1), 99), (0, (-1), 9), (0, (-1), 9), (0, (-1), 9), (0, (-1), 99), (0, (-1), 9), (0, (-1), 9), (0, (-1), 9), (0, (-1), 99), (0, (-1), 9), (0, (-1), 9), (0, (-1), 9), (0, (-1), 9), (0, (-1), 9), (0, (-1), 9)]))]), (60, [some (2, 162, 1), some (0, 0, 80), some (0, 0, 0), some (0, 0, 0), none, none], [], [(162, .inr (11, [(0, 0, 0), (0, 0, 100), (2, 163, 1), (0, 1, 6), (0, 2, 2), (0, (-2147483648), 2147483647), (2, 164, 1), (2, 165, 1), (2, 166, 1), (2, 167, 1), (2, 168, 1), (2, 169, 1), (2, 170, 1), (2, 171, 1), (2, 172, 1), (0, 0, 0), (0, 3, 10), (0, 0, 55), (0, 0, 0), (2, 173, 1), (0, 1, 1), (2, 174, 1), (2, 175, 1), (0, 0, 80), (0, 0, 80), (2, 176, 1), (2, 177, 1), (0, 0, 15), (2, 178, 1), (0, 0, 999), (0, 0, 1), (2, 179, 1), (2, 180, 1), (2, 181, 1), (2, 182, 1), (0, 0, 35), (2, 183, 1), (2, 184, 1), (0, 0, 1000000), (2, 185, 1), (2, 186, 1), (0, (-2147483648), 2147483647), (2, 187, 1), (2, 188, 1), (2, 189, 1), (2, 190, 1), (0, 0, 7), (0, 0, 12), (2, 191, 1), (2, 192, 1), (2, 193, 1), (0, (-2147483648), 2147483647), (2, 194, 1), (2, 195, 1), (2, 196, 1)])), (173, .inr (1000, [(0, 0, 4), (0, 0, 99), (0, (-1), 9), (0, (-1), 5), (0, (-1), 9), (0, (-1), 99), (0, (-1), 9), (0, (-1), 9), (0, (-1), 9), (0, (-1), 99), (0, (-1), 9), (0, (-1), 9), (0, (-1), 9), (0, (-1), 99), (0, (-1), 9), (0, (-1), 9), (0, (-1), 9), (0, (-1), 99), (0, (-1), 9), (0, (-1), 9), (0, (-1), 9), (0, (-1), 99), (0, (-1), 9), (0, (-1), 9), (0, (-1), 9), (0, (-1), 99), (0, (-1), 9), (0, (-1), 9), (0, (-1), 9), (0, (-1), 99), (0, (-1), 9), (0, (-1), 9), (0, (-1), 9), (0, (-1), 9), (0, (-1), 9), (0, (-1), 9)]))]), (60, [some (2, 162, 1), some (0, 0, 80), some (0, 0, 0), some (0, 0, 0), none, none], [], [(162, .inr (11, [(0, 0, 0), (0, 0, 100), (2, 163, 1), (0, 1, 6), (0, 2, 2), (0, (-2147483648), 2147483647), (2, 164, 1), (2, 165, 1), (2, 166, 1), (2, 167, 1), (2, 168, 1), (2, 169, 1), (2, 170, 1), (2, 171, 1), (2, 172, 1), (0, 0, 0), (0, 9, 17), (0, 0, 55), (0, 0, 0), (2, 173, 1), (0, 2, 2), (2, 174, 1), (2, 175, 1), (0, 0, 80), (0, 0, 80), (2, 176, 1), (2, 177, 1), (0, 0, 15), (2, 178, 1), (0, 0, 999), (0, 0, 1), (2, 179, 1), (2, 180, 1), (2, 181, 1), (2, 182, 1), (0, 0, 35), (2, 183, 1), (2, 184, 1), (0, 0, 1000000), (2, 185, 1), (2, 186, 1), (0, (-2147483648), 2147483647), (2, 187, 1), (2, 188, 1), (2, 189, 1), (2, 190, 1), (0, 0, 7), (0, 0, 12), (2, 191, 1), (2, 192, 1), (2, 193, 1), (0, (-2147483648), 2147483647), (2, 194, 1), (2, 195, 1), (2, 196, 1)])), (173, .inr (1000, [(0, 0, 4), (0, 0, 99), (0, 0, 9), (0, 0, 5), (0, 0, 4), (0, 0, 99), (0, (-1), 9), (0, (-1), 5), (0, (-1), 9), (0, (-1), 99), (0, (-1), 9), (0, (-1), 9), (0, (-1), 9), (0, (-1), 99), (0, (-1), 9), (0, (-1), 9), (0, (-1), 9), (0, (-1), 99), (0, (-1), 9), (0, (-1), 9), (0, (-1), 9), (0, (-1), 99), (0, (-1), 9), (0, (-1), 9), (0, (-1), 9), (0, (-1), 99), (0, (-1), 9), (0, (-1), 9), (0, (-1), 9), (0, (-1), 99), (0, (-1), 9), (0, (-1), 9), (0, (-1), 9), (0, (-1), 9), (0, (-1), 9), (0, (-1), 9)]))]), (60, [some (2, 162, 1), some (0, 0, 80), some (0, 0, 0), some (0, 0, 0), none, none], [], [(162, .inr (11, [(0, 0, 0), (0, 0, 100), (2, 163, 1), (0, 1, 6), (0, 2, 2), (0, (-2147483648), 2147483647), (2, 164, 1), (2, 165, 1), (2, 166, 1), (2, 167, 1), (2, 168, 1), (2, 169, 1), (2, 170, 1), (2, 171, 1), (2, 172, 1), (0, 0, 0), (0, 15, 24), (0, 0, 55), (0, 0, 0), (2, 173, 1), (0, 3, 3), (2, 174, 1), (2, 175, 1), (0, 0, 80), (0, 0, 80), (2, 176, 1), (2, 177, 1), (0, 0, 15), (2, 178, 1), (0, 0, 999), (0, 0, 1), (2, 179, 1), (2, 180, 1), (2, 181, 1), (2, 182, 1), (0, 0, 35), (2, 183, 1), (2, 184, 1), (0, 0, 1000000), (2, 185, 1), (2, 186, 1), (0, (-2147483648), 2147483647), (2, 187, 1), (2, 188, 1), (2, 189, 1), (2, 190, 1), (0, 0, 7), (0, 0, 12), (2, 191, 1), (2, 192, 1), (2, 193, 1), (0, (-2147483648), 2147483647), (2, 194, 1), (2, 195, 1), (2, 196, 1)])), (173, .inr (1000, [(0, 0, 4), (0, 0, 99), (0, 0, 9), (0, 0, 5), (0, 0, 4), (0, 0, 99), (0, 0, 9), (0, 0, 5), (0, 0, 4), (0, 0, 99), (0, (-1), 9), (0, (-1), 5), (0, (-1), 9), (0, (-1), 99), (0, (-1), 9), (0, (-1), 9), (0, (-1), 9), (0, (-1), 99), (0, (-1), 9), (0, (-1), 9), (0, (-1), 9), (0, (-1), 99), (0, (-1), 9), (0, (-1), 9), (0, (-1), 9), (0, (-1), 99), (0, (-1), 9), (0, (-1), 9), (0, (-1), 9), (0, (-1), 99), (0, (-1), 9), (0, (-1), 9), (0, (-1), 9), (0, (-1), 9), (0, (-1), 9), (0, (-1), 9)]))]), (60, [some (2, 162, 1), some (0, 0, 80), some (0, 0, 0), some (0, 0, 0), none, none], [], [(162, .inr (11, [(0, 0, 0), (0, 0, 100), (2, 163, 1), (0, 1, 6), (0, 2, 2), (0, (-2147483648), 2147483647), (2, 164, 1), (2, 165, 1), (2, 166, 1), (2, 167, 1), (2, 168, 1), (2, 169, 1), (2, 170, 1), (2, 171, 1), (2, 172, 1), (0, 0, 0), (0, 21, 31), (0, 0, 55), (0, 0, 0), (2, 173, 1), (0, 4, 4), (2, 174, 1), (2, 175, 1), (0, 0, 80), (0, 0, 80), (2, 176, 1), (2, 177, 1), (0, 0, 15), (2, 178, 1), (0, 0, 999), (0, 0, 1), (2, 179, 1), (2, 180, 1), (2, 181, 1), (2, 182, 1), (0, 0, 35), (2, 183, 1), (2, 184, 1), (0, 0, 1000000), (2, 185, 1), (2, 186, 1), (0, (-2147483648), 2147483647), (2, 187, 1), (2, 188, 1), (2, 189, 1), (2, 190, 1), (0, 0, 7), (0, 0, 12), (2, 191, 1), (2, 192, 1), (2, 193, 1), (0, (-2147483648), 2147483647), (2, 194, 1), (2, 195, 1), (2, 196, 1)])), (173, .inr (1000, [(0, 0, 4), (0, 0, 99), (0, 0, 9), (0, 0, 5), (0, 0, 4), (0, 0, 99), (0, 0, 9), (0, 0, 5), (0, 0, 4), (0, 0, 99), (0, 0, 9), (0, 0, 5), (0, 0, 4), (0, 0, 99), (0, (-1), 9), (0, (-1), 5), (0, (-1), 9), (0, (-1), 99), (0, (-1), 9), (0, (-1), 9), (0, (-1), 9), (0, (-1), 99), (0, (-1), 9), (0, (-1), 9), (0, (-1), 9), (0, (-1), 99), (0, (-1), 9), (0, (-1), 9), (0, (-1), 9), (0, (-1), 99), (0, (-1), 9), (0, (-1), 9), (0, (-1), 9), (0, (-1), 9), (0, (-1), 9), (0, (-1), 9)]))]), (60, [some (2, 162, 1), some (0, 0, 80), some (0, 0, 0), some (0, 0, 0), none, none], [], [(162, .inr (11, [(0, 0, 0), (0, 0, 100), (2, 163, 1), (0, 1, 6), (0, 2, 2), (0, (-2147483648), 2147483647), (2, 164, 1), (2, 165, 1), (2, 166, 1), (2, 167, 1), (2, 168, 1), (2, 169, 1), (2, 170, 1), (2, 171, 1), (2, 172, 1), (0, 0, 0), (0, 27, 38), (0, 0, 55), (0, 0, 0), (2, 173, 1), (0, 5, 5), (2, 174, 1), (2, 175, 1), (0, 0, 80), (0, 0, 80), (2, 176, 1), (2, 177, 1), (0, 0, 15), (2, 178, 1), (0, 0, 999), (0, 0, 1), (2, 179, 1), (2, 180, 1), (2, 181, 1), (2, 182, 1), (0, 0, 35), (2, 183, 1), (2, 184, 1), (0, 0, 1000000), (2, 185, 1), (2, 186, 1), (0, (-2147483648), 2147483647), (2, 187, 1), (2, 188, 1), (2, 189, 1), (2, 190, 1), (0, 0, 7), (0, 0, 12), (2, 191, 1), (2, 192, 1), (2, 193, 1), (0, (-2147483648), 2147483647), (2, 194, 1), (2, 195, 1), (2, 196, 1)])), (173, .inr (1000, [(0, 0, 4), (0, 0, 99), (0, 0, 9), (0, 0, 5), (0, 0, 4), (0, 0, 99), (0, 0, 9), (0, 0, 5), (0, 0, 4), (0, 0, 99), (0, 0, 9), (0, 0, 5), (0, 0, 4), (0, 0, 99), (0, 0, 9), (0, 0, 5), (0, 0, 4), (0, 0, 99), (0, (-1), 9), (0, (-1), 5), (0, (-1), 9), (0, (-1), 99), (0, (-1), 9), (0, (-1), 9), (0, (-1), 9), (0, (-1), 99), (0, (-1), 9), (0, (-1), 9), (0, (-1), 9), (0, (-1), 99), (0, (-1), 9), (0, (-1), 9), (0, (-1), 9), (0, (-1), 9), (0, (-1), 9), (0, (-1), 9)]))]), (60, [some (2, 162, 1), some (0, 0, 80), some (0, 0, 0), some (0, 0, 0), none, none], [], [(162, .inr (11, [(0, 0, 0), (0, 0, 100), (2, 163, 1), (0, 1, 6), (0, 2, 2), (0, (-2147483648), 2147483647), (2, 164, 1), (2, 165, 1), (2, 166, 1), (2, 167, 1), (2, 168, 1), (2, 169, 1), (2, 170, 1), (2, 171, 1), (2, 172, 1), (0, 0, 0), (0, 33, 42), (0, 0, 55), (0, 0, 0), (2, 173, 1), (0, 6, 6), (2, 174, 1), (2, 175, 1), (0, 0, 80), (0, 0, 80), (2, 176, 1), (2, 177, 1), (0, 0, 15), (2, 178, 1), (0, 0, 999), (0, 0, 1), (2, 179, 1), (2, 180, 1), (2, 181, 1), (2, 182, 1), (0, 0, 35), (2, 183, 1), (2, 184, 1), (0, 0, 1000000), (2, 185, 1), (2, 186, 1), (0, (-2147483648), 2147483647), (2, 187, 1), (2, 188, 1), (2, 189, 1), (2, 190, 1), (0, 0, 7), (0, 0, 12), (2, 191, 1), (2, 192, 1), (2, 193, 1), (0, (-2147483648), 2147483647), (2, 194, 1), (2, 195, 1), (2, 196, 1)])), (173, .inr (1000, [(0, 0, 4), (0, 0, 99), (0, 0, 9), (0, 0, 5), (0, 0, 4), (0, 0, 99), (0, 0, 9), (0, 0, 5), (0, 0, 4), (0, 0, 99), (0, 0, 9), (0, 0, 5), (0, 0, 4), (0, 0, 99), (0, 0, 9), (0, 0, 5), (0, 0, 4), (0, 0, 99), (0, 0, 9), (0, 0, 5), (0, 0, 4), (0, 0, 99), (0, (-1), 9), (0, (-1), 5), (0, (-1), 9), (0, (-1), 99), (0, (-1), 9), (0, (-1), 9), (0, (-1), 9), (0, (-1), 99), (0, (-1), 9), (0, (-1), 9), (0, (-1), 9), (0, (-1), 9), (0, (-1), 9), (0, (-1), 9)]))]), (60, [some (2, 162, 1), some (0, 0, 80), some (0, 0, 1), some (0, 0, 0), none, none], [], [(162, .inr (11, [(0, 0, 0), (0, 0, 100), (2, 163, 1), (0, 1, 6), (0, 2, 2), (0, (-2147483648), 2147483647), (2, 164, 1), (2, 165, 1), (2, 166, 1), (2, 167, 1), (2, 168, 1), (2, 169, 1), (2, 170, 1), (2, 171, 1), (2, 172, 1), (0, 0, 0), (0, 0, 0), (0, 0, 55), (0, 0, 0), (2, 173, 1), (0, 0, 0), (2, 174, 1), (2, 175, 1), (0, 0, 80), (0, 0, 80), (2, 176, 1), (2, 177, 1), (0, 0, 15), (2, 178, 1), (0, 0, 999), (0, 0, 1), (2, 179, 1), (2, 180, 1), (2, 181, 1), (2, 182, 1), (0, 0, 35), (2, 183, 1), (2, 184, 1), (0, 0, 1000000), (2, 185, 1), (2, 186, 1), (0, (-2147483648), 2147483647), (2, 187, 1), (2, 188, 1), (2, 189, 1), (2, 190, 1), (0, 0, 7), (0, 0, 12), (2, 191, 1), (2, 192, 1), (2, 193, 1), (0, (-2147483648), 2147483647), (2, 194, 1), (2, 195, 1), (2, 196, 1)])), (173, .inr (1000, [(0, (-1), 9), (0, (-1), 99), (0, (-1), 9), (0, (-1), 9), (0, (-1), 9), (0, (-1), 99), (0, (-1), 9), (0, (-1), 9), (0, (-1), 9), (0, (-1), 99), (0, (-1), 9), (0, (-1), 9), (0, (-1), 9), (0, (-1), 99), (0, (-1), 9), (0, (-1), 9), (0, (-1), 9), (0, (-1), 99), (0, (-1), 9), (0, (-1), 9), (0, (-1), 9), (0, (-1), 99), (0, (-1), 9), (0, (-1), 9), (0, (-1), 9), (0, (-1), 99), (0, (-1), 9), (0, (-1), 9), (0, (-1), 9), (0, (-1), 99), (0, (-1), 9), (0, (-1), 9), (0, (-1), 9), (0, (-1), 9), (0, (-1), 9), (0, (-1), 9)]))]), (60, [some (2, 162, 1), some (0, 0, 80), some (0, 1, 1), some (0, 0, 0), none, none], [], [(162, .inr (11, [(0, 0, 0), (0, 0, 100), (2, 163, 1), (0, 1, 6), (0, 2, 2), (0, (-2147483648), 2147483647), (2, 164, 1), (2, 165, 1), (2, 166, 1), (2, 167, 1), (2, 168, 1), (2, 169, 1), (2, 170, 1), (2, 171, 1), (2, 172, 1), (0, 0, 0), (0, 5, 6), (0, 0, 55), (0, 0, 0), (2, 173, 1), (0, 1, 1), (2, 174, 1), (2, 175, 1), (0, 0, 80), (0, 0, 80), (2, 176, 1), (2, 177, 1), (0, 0, 15), (2, 178, 1), (0, 0, 999), (0, 0, 1), (2, 179, 1), (2, 180, 1), (2, 181, 1), (2, 182, 1), (0, 0, 35), (2, 183, 1), (2, 184, 1), (0, 0, 1000000), (2, 185, 1), (2, 186, 1), (0, (-2147483648), 2147483647), (2, 187, 1), (2, 188, 1), (2, 189, 1), (2, 190, 1), (0, 0, 7), (0, 0, 12), (2, 191, 1), (2, 192, 1), (2, 193, 1), (0, (-2147483648), 2147483647), (2, 194, 1), (2, 195, 1), (2, 196, 1)])), (173, .inr (1000, [(0, 0, 4), (0, 0, 99), (0, 0, 9), (0, 0, 5), (0, (-1), 9), (0, (-1), 99), (0, (-1), 9), (0, (-1), 9), (0, (-1), 9), (0, (-1), 99), (0, (-1), 9), (0, (-1), 9), (0, (-1), 9), (0, (-1), 99), (0, (-1), 9), (0, (-1), 9), (0, (-1), 9), (0, (-1), 99), (0, (-1), 9), (0, (-1), 9), (0, (-1), 9), (0, (-1), 99), (0, (-1), 9), (0, (-1), 9), (0, (-1), 9), (0, (-1), 99), (0, (-1), 9), (0, (-1), 9), (0, (-1), 9), (0, (-1), 99), (0, (-1), 9), (0, (-1), 9), (0, (-1), 9), (0, (-1), 9), (0, (-1), 9), (0, (-1), 9)]))]), (60, [some (2, 162, 1), some (0, 0, 80), some (0, 1, 1), some (0, 0, 0), none, none], [], [(162, .inr (11, [(0, 0, 0), (0, 0, 100), (2, 163, 1), (0, 1, 6), (0, 2, 2), (0, (-2147483648), 2147483647), (2, 164, 1), (2, 165, 1), (2, 166, 1), (2, 167, 1), (2, 168, 1), (2, 169, 1), (2, 170, 1), (2, 171, 1), (2, 172, 1), (0, 0, 0), (0, 11, 13), (0, 0, 55), (0, 0, 0), (2, 173, 1), (0, 2, 2), (2, 174, 1), (2, 175, 1), (0, 0, 80), (0, 0, 80), (2, 176, 1), (2, 177, 1), (0, 0, 15), (2, 178, 1), (0, 0, 999), (0, 0, 1), (2, 179, 1), (2, 180, 1), (2, 181, 1), (2, 182, 1), (0, 0, 35), (2, 183, 1), (2, 184, 1), (0, 0, 1000000), (2, 185, 1), (2, 186, 1), (0, (-2147483648), 2147483647), (2, 187, 1), (2, 188, 1), (2, 189, 1), (2, 190, 1), (0, 0, 7), (0, 0, 12), (2, 191, 1), (2, 192, 1), (2, 193, 1), (0, (-2147483648), 2147483647), (2, 194, 1), (2, 195, 1), (2, 196, 1)])), (173, .inr (1000, [(0, 0, 4), (0, 0, 99), (0, 0, 9), (0, 0, 5), (0, 0, 4), (0, 0, 99), (0, 0, 9), (0, 0, 5), (0, (-1), 9), (0, (-1), 99), (0, (-1), 9), (0, (-1), 9), (0, (-1), 9), (0, (-1), 99), (0, (-1), 9), (0, (-1), 9), (0, (-1), 9), (0, (-1), 99), (0, (-1), 9), (0, (-1), 9), (0, (-1), 9), (0, (-1), 99), (0, (-1), 9), (0, (-1), 9), (0, (-1), 9), (0, (-1), 99), (0, (-1), 9), (0, (-1), 9), (0, (-1), 9), (0, (-1), 99), (0, (-1), 9), (0, (-1), 9), (0, (-1), 9), (0, (-1), 9), (0, (-1), 9), (0, (-1), 9)]))]), (60, [some (2, 162, 1), some (0, 0, 80), some (0, 1, 1), some (0, 0, 0), none, none], [], [(162, .inr (11, [(0, 0, 0), (0, 0, 100), (2, 163, 1), (0, 1, 6), (0, 2, 2), (0, (-2147483648), 2147483647), (2, 164, 1), (2, 165, 1), (2, 166, 1), (2, 167, 1), (2, 168, 1), (2, 169, 1), (2, 170, 1), (2, 171, 1), (2, 172, 1), (0, 0, 0), (0, 17, 20), (0, 0, 55), (0, 0, 0), (2, 173, 1), (0, 3, 3), (2, 174, 1), (2, 175, 1), (0, 0, 80), (0, 0, 80), (2, 176, 1), (2, 177, 1), (0, 0, 15), (2, 178, 1), (0, 0, 999), (0, 0, 1), (2, 179, 1), (2, 180, 1), (2, 181, 1), (2, 182, 1), (0, 0, 35), (2, 183, 1), (2, 184, 1), (0, 0, 1000000), (2, 185, 1), (2, 186, 1), (0, (-2147483648), 2147483647), (2, 187, 1), (2, 188, 1), (2, 189, 1), (2, 190, 1), (0, 0, 7), (0, 0, 12), (2, 191, 1), (2, 192, 1), (2, 193, 1), (0, (-2147483648), 2147483647), (2, 194, 1), (2, 195, 1), (2, 196, 1)])), (173, .inr (1000, [(0, 0, 4), (0, 0, 99), (0, 0, 9), (0, 0, 5), (0, 0, 4), (0, 0, 99), (0, 0, 9), (0, 0, 5), (0, 0, 4), (0, 0, 99), (0, 0, 9), (0, 0, 5), (0, (-1), 9), (0, (-1), 99), (0, (-1), 9), (0, (-1), 9), (0, (-1), 9), (0, (-1), 99), (0, (-1), 9), (0, (-1), 9), (0, (-1), 9), (0, (-1), 99), (0, (-1), 9), (0, (-1), 9), (0, (-1), 9), (0, (-1), 99), (0, (-1), 9), (0, (-1), 9), (0, (-1), 9), (0, (-1), 99), (0, (-1), 9), (0, (-1), 9), (0, (-1), 9), (0, (-1), 9), (0, (-1), 9), (0, (-1), 9)]))]), (60, [some (2, 162, 1), some (0, 0, 80), some (0, 1, 1), some (0, 0, 0), none, none], [], [(162, .inr (11, [(0, 0, 0), (0, 0, 100), (2, 163, 1), (0, 1, 6), (0, 2, 2), (0, (-2147483648), 2147483647), (2, 164, 1), (2, 165, 1), (2, 166, 1), (2, 167, 1), (2, 168, 1), (2, 169, 1), (2, 170, 1), (2, 171, 1), (2, 172, 1), (0, 0, 0), (0, 23, 27), (0, 0, 55), (0, 0, 0), (2, 173, 1), (0, 4, 4), (2, 174, 1), (2, 175, 1), (0, 0, 80), (0, 0, 80), (2, 176, 1), (2, 177, 1), (0, 0, 15), (2, 178, 1), (0, 0, 999), (0, 0, 1), (2, 179, 1), (2, 180, 1), (2, 181, 1), (2, 182, 1), (0, 0, 35), (2, 183, 1), (2, 184, 1), (0, 0, 1000000), (2, 185, 1), (2, 186, 1), (0, (-2147483648), 2147483647), (2, 187, 1), (2, 188, 1), (2, 189, 1), (2, 190, 1), (0, 0, 7), (0, 0, 12), (2, 191, 1), (2, 192, 1), (2, 193, 1), (0, (-2147483648), 2147483647), (2, 194, 1), (2, 195, 1), (2, 196, 1)])), (173, .inr (1000, [(0, 0, 4), (0, 0, 99), (0, 0, 9), (0, 0, 5), (0, 0, 4), (0, 0, 99), (0, 0, 9), (0, 0, 5), (0, 0, 4), (0, 0, 99), (0, 0, 9), (0, 0, 5), (0, 0, 4), (0, 0, 99), (0, 0, 9), (0, 0, 5), (0, (-1), 9), (0, (-1), 99), (0, (-1), 9), (0, (-1), 9), (0, (-1), 9), (0, (-1), 99), (0, (-1), 9), (0, (-1), 9), (0, (-1), 9), (0, (-1), 99), (0, (-1), 9), (0, (-1), 9), (0, (-1), 9), (0, (-1), 99), (0, (-1), 9), (0, (-1), 9), (0, (-1), 9), (0, (-1), 9), (0, (-1), 9), (0, (-1), 9)]))]), (60, [some (2, 162, 1), some (0, 0, 80), some (0, 1, 1), some (0, 0, 0), none, none], [], [(162, .inr (11, [(0, 0, 0), (0, 0, 100), (2, 163, 1), (0, 1, 6), (0, 2, 2), (0, (-2147483648), 2147483647), (2, 164, 1), (2, 165, 1), (2, 166, 1), (2, 167, 1), (2, 168, 1), (2, 169, 1), (2, 170, 1), (2, 171, 1), (2, 172, 1), (0, 0, 0), (0, 29, 34), (0, 0, 55), (0, 0, 0), (2, 173, 1), (0, 5, 5), (2, 174, 1), (2, 175, 1), (0, 0, 80), (0, 0, 80), (2, 176, 1), (2, 177, 1), (0, 0, 15), (2, 178, 1), (0, 0, 999), (0, 0, 1), (2, 179, 1), (2, 180, 1), (2, 181, 1), (2, 182, 1), (0, 0, 35), (2, 183, 1), (2, 184, 1), (0, 0, 1000000), (2, 185, 1), (2, 186, 1), (0, (-2147483648), 2147483647), (2, 187, 1), (2, 188, 1), (2, 189, 1), (2, 190, 1), (0, 0, 7), (0, 0, 12), (2, 191, 1), (2, 192, 1), (2, 193, 1), (0, (-2147483648), 2147483647), (2, 194, 1), (2, 195, 1), (2, 196, 1)])), (173, .inr (1000, [(0, 0, 4), (0, 0, 99), (0, 0, 9), (0, 0, 5), (0, 0, 4), (0, 0, 99), (0, 0, 9), (0, 0, 5), (0, 0, 4), (0, 0, 99), (0, 0, 9), (0, 0, 5), (0, 0, 4), (0, 0, 99), (0, 0, 9), (0, 0, 5), (0, 0, 4), (0, 0, 99), (0, 0, 9), (0, 0, 5), (0, (-1), 9), (0, (-1), 99), (0, (-1), 9), (0, (-1), 9), (0, (-1), 9), (0, (-1), 99), (0, (-1), 9), (0, (-1), 9), (0, (-1), 9), (0, (-1), 99), (0, (-1), 9), (0, (-1), 9), (0, (-1), 9), (0, (-1), 9), (0, (-1), 9), (0, (-1), 9)]))]), (60, [some (2, 162, 1), some (0, 0, 80), some (0, 1, 1), some (0, 0, 0), none, none], [], [(162, .inr (11, [(0, 0, 0), (0, 0, 100), (2, 163, 1), (0, 1, 6), (0, 2, 2), (0, (-2147483648), 2147483647), (2, 164, 1), (2, 165, 1), (2, 166, 1), (2, 167, 1), (2, 168, 1), (2, 169, 1), (2, 170, 1), (2, 171, 1), (2, 172, 1), (0, 0, 0), (0, 35, 41), (0, 0, 55), (0, 0, 0), (2, 173, 1), (0, 6, 6), (2, 174, 1), (2, 175, 1), (0, 0, 80), (0, 0, 80), (2, 176, 1), (2, 177, 1), (0, 0, 15), (2, 178, 1), (0, 0, 999), (0, 0, 1), (2, 179, 1), (2, 180, 1), (2, 181, 1), (2, 182, 1), (0, 0, 35), (2, 183, 1), (2, 184, 1), (0, 0, 1000000), (2, 185, 1), (2, 186, 1), (0, (-2147483648), 2147483647), (2, 187, 1), (2, 188, 1), (2, 189, 1), (2, 190, 1), (0, 0, 7), (0, 0, 12), (2, 191, 1), (2, 192, 1), (2, 193, 1), (0, (-2147483648), 2147483647), (2, 194, 1), (2, 195, 1), (2, 196, 1)])), (173, .inr (1000, [(0, 0, 4), (0, 0, 99), (0, 0, 9), (0, 0, 5), (0, 0, 4), (0, 0, 99), (0, 0, 9), (0, 0, 5), (0, 0, 4), (0, 0, 99), (0, 0, 9), (0, 0, 5), (0, 0, 4), (0, 0, 99), (0, 0, 9), (0, 0, 5), (0, 0, 4), (0, 0, 99), (0, 0, 9), (0, 0, 5), (0, 0, 4), (0, 0, 99), (0, 0, 9), (0, 0, 5), (0, (-1), 9), (0, (-1), 99), (0, (-1), 9), (0, (-1), 9), (0, (-1), 9), (0, (-1), 99), (0, (-1), 9), (0, (-1), 9), (0, (-1), 9), (0, (-1), 9), (0, (-1), 9), (0, (-1), 9)]))])]
theorem rxs_gifts2_1 : seg_chk [] rkp PT bB 198 rxFg0 rxJ rxjo rxP 4871 rxr_gifts2 rxz_gifts2_1 = true := fq_seg3 (fq_jn_eq _) rfl (by decide +kernel)   -- 4471
theorem rxs_gifts2_0 : seg_chk rxz_gifts2_1 rkp PT bB 198 rxFg0 rxJ rxjo rxP 1956 rxr_gifts2 (sp_all bB 198 [] [(0, aa_l0 rxr_gifts2.2.1 (pm_max PT rxr_gifts2.1), [], rxr_gifts2.2.2.1)]) = true := fq_seg3 (fq_jn_eq _) rfl (by decide +kernel)   -- 1556
theorem rxw_gifts2 : con_ok PT bB 198 rxFg rxQ1 rxr_gifts2 := seg_con rfl (ps := []) (seg_chk_ok rxleg rxppg (rkp_ok at_g) (seg_chk_ok rxleg rxppg (rkp_ok at_g) seg_nil rxs_gifts2_1) rxs_gifts2_0)
end MH69rxs11x0
section MH69rxs11x1
section MG70farx0
/-! the ways: the shortest lengths, step by step and in place -/
section FAR
/-- the least of x and of f b for b below n where p b -/
def lmn (p : Nat → Bool) (f : Nat → Nat) (x : Nat) : Nat → Nat
  | 0 => x
  | n + 1 => cond (p n) (min (lmn p f x n) (f n)) (lmn p f x n)
theorem lmn_x {p : Nat → Bool} {f : Nat → Nat} {x : Nat} : ∀ n, lmn p f x n ≤ x
  | 0 => Nat.le_refl _
  | n + 1 => by
    have := lmn_x (p := p) (f := f) (x := x) n
    unfold lmn
    cases p n with
    | true => exact Nat.le_trans (Nat.min_le_left _ _) this
    | false => exact this
theorem lmn_f {p : Nat → Bool} {f : Nat → Nat} {x b : Nat} : ∀ n, b < n → p b = true → lmn p f x n ≤ f b
  | 0, h, _ => by omega
  | n + 1, h, e => by
    unfold lmn
    by_cases q : b = n
    · subst q
      rw [e]
      exact Nat.min_le_right _ _
    · have := lmn_f (p := p) (f := f) (x := x) n (by omega) e
      cases p n with
      | true => exact Nat.le_trans (Nat.min_le_left _ _) this
      | false => exact this
theorem lmn_or {p : Nat → Bool} {f : Nat → Nat} {x : Nat} : ∀ n, lmn p f x n = x ∨ ∃ b, b < n ∧ p b = true ∧ lmn p f x n = f b
  | 0 => Or.inl rfl
  | n + 1 => by
    have ih := lmn_or (p := p) (f := f) (x := x) n
    unfold lmn
    cases e : p n with
    | false =>
      rcases ih with ih | ⟨b, h1, h2, h3⟩
      · exact Or.inl ih
      · exact Or.inr ⟨b, by omega, h2, h3⟩
    | true =>
      show min (lmn p f x n) (f n) = x ∨ _
      by_cases q : f n ≤ lmn p f x n
      · exact Or.inr ⟨n, by omega, e, Nat.min_eq_right q⟩
      · have : min (lmn p f x n) (f n) = lmn p f x n := Nat.min_eq_left (by omega)
        rw [this]
        rcases ih with ih | ⟨b, h1, h2, h3⟩
        · exact Or.inl ih
        · exact Or.inr ⟨b, by omega, h2, h3⟩
def INF : Nat := 1000000
/-- the roads w, n courts, the end t: lengths with up to k roads -/
def lD (w : Nat → Nat → Nat) (n t : Nat) : Nat → Nat → Nat
  | 0, a => if a = t then 0 else INF
  | k + 1, a => lmn (fun b => decide (0 < w a b)) (fun b => lD w n t k b + w a b) (lD w n t k a) n
variable {w : Nat → Nat → Nat} {n t : Nat}
theorem lD_dec1 (k a : Nat) : lD w n t (k + 1) a ≤ lD w n t k a := lmn_x n
theorem lD_dec {i k : Nat} (a : Nat) (h : i ≤ k) : lD w n t k a ≤ lD w n t i a := by
  induction k with
  | zero => rw [show i = 0 by omega]; exact Nat.le_refl _
  | succ k ih =>
    by_cases q : i = k + 1
    · subst q; exact Nat.le_refl _
    · exact Nat.le_trans (lD_dec1 k a) (ih (by omega))
theorem lD_step {k a b : Nat} (hb : b < n) (hw : 0 < w a b) : lD w n t (k + 1) a ≤ lD w n t k b + w a b := lmn_f (f := fun b => lD w n t k b + w a b) n hb (decide_eq_true hw)
theorem lD_or (k a : Nat) : lD w n t (k + 1) a = lD w n t k a ∨ ∃ b, b < n ∧ 0 < w a b ∧ lD w n t (k + 1) a = lD w n t k b + w a b := by
  rcases lmn_or (p := fun b => decide (0 < w a b)) (f := fun b => lD w n t k b + w a b) (x := lD w n t k a) n with q | ⟨b, h1, h2, h3⟩
  · exact Or.inl q
  · exact Or.inr ⟨b, h1, of_decide_eq_true h2, h3⟩
/-- a list of different numbers below n has at most n -/
theorem nd_len : ∀ (n : Nat) (l : List Nat), l.Nodup → (∀ x, x ∈ l → x < n) → l.length ≤ n
  | 0, l, _, h => by
    cases l with
    | nil => exact Nat.le_refl _
    | cons x l => exact absurd (h x (List.mem_cons_self)) (by omega)
  | n + 1, l, hd, h => by
    by_cases q : n ∈ l
    · have h1 := nd_len n (l.erase n) (hd.erase n) (fun x hx => by
        have := (List.Nodup.mem_erase_iff hd).mp hx
        have h2 := h x this.2
        have h3 := this.1
        omega)
      have h2 := List.length_erase_of_mem q
      omega
    · have h1 := nd_len n l hd (fun x hx => by
        have h2 := h x hx
        have h3 : x ≠ n := fun e => q (e ▸ hx)
        omega)
      omega
theorem lD_chain : ∀ (k a : Nat), a < n → (k = 0 ∧ a = t ∨ ∃ j, k = j + 1 ∧ lD w n t (j + 1) a < lD w n t j a) → ∃ l : List Nat, l.length = k + 1 ∧ l.Nodup ∧ ∀ x, x ∈ l → x < n ∧ ∃ i, i ≤ k ∧ lD w n t i x ≤ lD w n t k a
  | 0, a, ha, h => ⟨[a], rfl, by simp, fun x hx => by
      have : x = a := by simpa using hx
      subst this
      exact ⟨ha, 0, Nat.le_refl _, Nat.le_refl _⟩⟩
  | k + 1, a, ha, h => by
    have h1 : lD w n t (k + 1) a < lD w n t k a := by
      rcases h with ⟨q, -⟩ | ⟨j, q, e⟩
      · omega
      · rw [show k = j by omega]; exact e
    rcases lD_or (w := w) (n := n) (t := t) k a with q | ⟨b, hb, hw, e⟩
    · omega
    · have h2 : k = 0 ∧ b = t ∨ ∃ j, k = j + 1 ∧ lD w n t (j + 1) b < lD w n t j b := by
        cases k with
        | zero =>
          refine Or.inl ⟨rfl, ?_⟩
          by_cases z : b = t
          · exact z
          · have e0 : lD w n t 0 b = INF := if_neg z
            have e1 : lD w n t 0 a ≤ INF := by
              show (if a = t then 0 else INF) ≤ INF
              split
              · exact Nat.zero_le _
              · exact Nat.le_refl _
            omega
        | succ j =>
          refine Or.inr ⟨j, rfl, ?_⟩
          have h3 := lD_dec1 (w := w) (n := n) (t := t) j b
          have h4 := lD_step (w := w) (n := n) (t := t) (k := j) (a := a) hb hw
          omega
      obtain ⟨l, l1, l2, l3⟩ := lD_chain k b hb h2
      refine ⟨a :: l, by simp [l1], List.nodup_cons.mpr ⟨fun m => ?_, l2⟩, fun x hx => ?_⟩
      · obtain ⟨-, i, hi, hv⟩ := l3 a m
        have := lD_dec (w := w) (n := n) (t := t) a hi
        omega
      · rcases List.mem_cons.mp hx with rfl | hx
        · exact ⟨ha, k + 1, Nat.le_refl _, Nat.le_refl _⟩
        · obtain ⟨h5, i, hi, hv⟩ := l3 x hx
          exact ⟨h5, i, by omega, by omega⟩
theorem lD_fix {a : Nat} (ha : a < n) : lD w n t (n + 1) a = lD w n t n a := by
  have h1 := lD_dec1 (w := w) (n := n) (t := t) n a
  by_cases q : lD w n t (n + 1) a < lD w n t n a
  · obtain ⟨l, l1, l2, l3⟩ := lD_chain (w := w) (n := n) (t := t) (n + 1) a ha (Or.inr ⟨n, rfl, q⟩)
    have := nd_len n l l2 (fun x hx => (l3 x hx).1)
    omega
  · omega
theorem lD_le {a b : Nat} (ha : a < n) (hb : b < n) (hw : 0 < w a b) : lD w n t n a ≤ lD w n t n b + w a b := by
  rw [← lD_fix ha]
  exact lD_step hb hw
theorem lD_wit {a : Nat} (hat : a ≠ t) : ∀ k, lD w n t k a < INF → ∃ b, b < n ∧ 0 < w a b ∧ lD w n t k b + w a b ≤ lD w n t k a
  | 0, h => by
    have e0 : lD w n t 0 a = INF := if_neg hat
    omega
  | k + 1, h => by
    rcases lD_or (w := w) (n := n) (t := t) k a with q | ⟨b, hb, hw, e⟩
    · obtain ⟨b, h1, h2, h3⟩ := lD_wit hat k (by omega)
      have := lD_dec1 (w := w) (n := n) (t := t) k b
      exact ⟨b, h1, h2, by omega⟩
    · have := lD_dec1 (w := w) (n := n) (t := t) k b
      exact ⟨b, hb, hw, by omega⟩
theorem lD_eqw {a : Nat} (ha : a < n) (hat : a ≠ t) (h : lD w n t n a < INF) : ∃ b, b < n ∧ 0 < w a b ∧ lD w n t n b + w a b = lD w n t n a := by
  obtain ⟨b, h1, h2, h3⟩ := lD_wit hat n h
  have := lD_le (w := w) (n := n) (t := t) ha h1 h2
  exact ⟨b, h1, h2, by omega⟩
theorem lD_bd (h9 : ∀ a b, a < n → b < n → w a b ≤ 9) : ∀ k a, a < n → lD w n t k a = INF ∨ lD w n t k a ≤ 9 * k
  | 0, a, _ => by
    by_cases q : a = t
    · exact Or.inr (by have : lD w n t 0 a = 0 := if_pos q; omega)
    · exact Or.inl (if_neg q)
  | k + 1, a, ha => by
    rcases lD_or (w := w) (n := n) (t := t) k a with q | ⟨b, hb, hw, e⟩
    · rcases lD_bd h9 k a ha with z | z
      · exact Or.inl (q.trans z)
      · exact Or.inr (by omega)
    · have := h9 a b ha hb
      rcases lD_bd h9 k b hb with z | z
      · have h1 := lD_dec (w := w) (n := n) (t := t) a (Nat.zero_le (k + 1))
        have h2 : lD w n t 0 a ≤ INF := by
          show (if a = t then 0 else INF) ≤ INF
          split
          · exact Nat.zero_le _
          · exact Nat.le_refl _
        omega
      · exact Or.inr (by omega)
/-- one step in place -/
def fst1 (w : Nat → Nat → Nat) (f : Nat → Nat) (a b : Nat) : Nat → Nat := fun j => if j = a then (if 0 < w a b then min (f a) (f b + w a b) else f a) else f j
theorem fst1_le (f : Nat → Nat) (a b j : Nat) : fst1 w f a b j ≤ f j := by
  unfold fst1
  split
  · rename_i e
    subst e
    split
    · exact Nat.min_le_left _ _
    · exact Nat.le_refl _
  · exact Nat.le_refl _
theorem fst1_lo {f : Nat → Nat} {a b : Nat} (ha : a < n) (hb : b < n) (h : ∀ j, j < n → lD w n t n j ≤ f j) : ∀ j, j < n → lD w n t n j ≤ fst1 w f a b j := by
  intro j hj
  unfold fst1
  split
  · rename_i e
    subst e
    split
    · rename_i hw
      have h1 := h j hj
      have h2 := h b hb
      have h3 := lD_le (w := w) (n := n) (t := t) ha hb hw
      omega
    · exact h j hj
  · exact h j hj
/-- in place, in round r at row a, column b: what is known -/
def fOk (w : Nat → Nat → Nat) (n t r a b : Nat) (f : Nat → Nat) : Prop := (∀ j, j < n → lD w n t n j ≤ f j) ∧ (∀ j, j < n → f j ≤ lD w n t r j) ∧ (∀ j, j < n → j < a → f j ≤ lD w n t (r + 1) j) ∧ (∀ c, c < b → c < n → 0 < w a c → f a ≤ lD w n t r c + w a c)
theorem fOk_0 : fOk w n t 0 0 0 (fun j => if j = t then 0 else INF) := ⟨fun j _ => lD_dec j (Nat.zero_le _), fun j _ => Nat.le_refl _, fun j _ h => by omega, fun c h => by omega⟩
theorem fOk_b {r a b : Nat} {f : Nat → Nat} (ha : a < n) (hb : b < n) (h : fOk w n t r a b f) : fOk w n t r a (b + 1) (fst1 w f a b) := by
  obtain ⟨h1, h2, h3, h4⟩ := h
  refine ⟨fst1_lo ha hb h1, fun j hj => Nat.le_trans (fst1_le _ _ _ _) (h2 j hj), fun j hj q => Nat.le_trans (fst1_le _ _ _ _) (h3 j hj q), fun c hc hcn hw => ?_⟩
  by_cases q : c = b
  · subst q
    have e : fst1 w f a c a = min (f a) (f c + w a c) := by
      unfold fst1
      rw [if_pos rfl, if_pos hw]
    have := h2 c hcn
    omega
  · exact Nat.le_trans (fst1_le _ _ _ _) (h4 c (by omega) hcn hw)
theorem fOk_a {r a : Nat} {f : Nat → Nat} (ha : a < n) (h : fOk w n t r a n f) : fOk w n t r (a + 1) 0 f := by
  obtain ⟨h1, h2, h3, h4⟩ := h
  refine ⟨h1, h2, fun j hj q => ?_, fun c hc => by omega⟩
  by_cases z : j = a
  · subst z
    rcases lD_or (w := w) (n := n) (t := t) r j with e | ⟨b, hb, hw, e⟩
    · rw [e]; exact h2 j hj
    · rw [e]; exact h4 b hb hb hw
  · exact h3 j hj (by omega)
theorem fOk_r {r : Nat} {f : Nat → Nat} (h : fOk w n t r n 0 f) : fOk w n t (r + 1) 0 0 f := ⟨h.1, fun j hj => h.2.2.1 j hj hj, fun j _ q => by omega, fun c hc => by omega⟩
theorem fOk_end {f : Nat → Nat} (h : fOk w n t n 0 0 f) : ∀ j, j < n → f j = lD w n t n j := fun j hj => Nat.le_antisymm (h.2.1 j hj) (h.1 j hj)
end FAR
end MG70farx0
section MG70farx1
/-! undo, keep and again keep what must be kept -/
section UKA
variable {fr lo sl : Nat} {h : pm_H}
/-- the row of a court's world is typed -/
theorem ty_row {g : Nat → Int32} (t : ∀ j, j < 96 → av_ok (.int (g j)) (rowT j)) : ac_ok (.inl (0, 96, .inl g)) (bB 170) := by
  have hb : ∃ cs, bB 170 = .inr (1000, cs) ∧ cs.length = 96 := ⟨_, rfl, rfl⟩
  obtain ⟨cs, eb, hl⟩ := hb
  have er : ∀ j, rowT j = cs.getD j (0, 0, 0) := fun j => by unfold rowT; rw [eb]
  rw [eb]
  refine ⟨rfl, hl.symm, fun j a ha => ?_⟩
  have hj : j < 96 := by have := (List.getElem?_eq_some_iff.mp ha).1; omega
  have := t j hj
  rw [er, List.getD_eq_getElem?_getD, ha] at this
  exact this
theorem ty_row_of {g : Nat → Int32} (hh : ah_ok bB 198 [] h) (e : h 170 = .inl (0, 96, .inl g)) : ∀ j, j < 96 → av_ok (.int (g j)) (rowT j) := by
  intro j hj
  have hb : ∃ cs, bB 170 = .inr (1000, cs) ∧ cs.length = 96 := ⟨_, rfl, rfl⟩
  obtain ⟨cs, eb, hl⟩ := hb
  have h0 : ac_ok (h 170) (bB 170) := hh 170 (by decide)
  rw [e, eb] at h0
  have er : rowT j = cs.getD j (0, 0, 0) := by unfold rowT; rw [eb]
  have hc : cs[j]? = some cs[j] := List.getElem?_eq_getElem (by omega)
  rw [er, List.getD_eq_getElem?_getD, hc]
  exact h0.2.2 j _ hc
def noC (_ : Nat) : Bool := false
def g0G (g : Nat) : Bool := Nat.beq g 0
def nowC (i : Nat) : Bool := Nat.beq i 170
def g27G (g : Nat) : Bool := Nat.beq g 0 || Nat.beq g 27
theorem x_lt {C : Nat → Bool} {G : Nat → Bool} {h h' : pm_H} (d : dD C G h h') (hC : ∀ i, i < 162 → C i = false) : ∀ i, i < 162 → h' i = h i := fun i hi => d.1 i (by omega) (hC i hi)
theorem post0 (hI : mInv h) {x0 : Value} (m0 : mF h 0 x0) {A : Option Value → Prop} {v : Option Value} (hA : A v) : mPost A h sl (v, mset h 0 (.int 0), 198, sl) := by
  have d : dD noC g0G h (mset h 0 (.int 0)) := dD_set rfl
  refine ⟨hA, rfl, x_lt d (fun _ _ => rfl), dD_ty hI.1 d (fun i hi => by cases hi) (fun g hg b hb => ?_), rxQ_dD d rfl rfl rfl rfl rfl rfl hI.2⟩
  have := Nat.eq_of_beq_eq_true hg
  subst this
  cases (Option.some.inj hb : _ = b)
  exact ⟨_, mF_self m0, ⟨rfl, by decide, by decide⟩⟩
theorem hm_undo (hI : mInv h) (hf : 100 ≤ fr) (hl : 4000 ≤ lo) : pm_WP PT fr lo 214 (0, pm_l0 [.ref 162] 2, [], h, 198, sl) (mPost anInt h sl) := by
  obtain ⟨hh, hq⟩ := id hI
  obtain ⟨x0, h0, -⟩ := ty_fld hh (g := 0) rfl
  obtain ⟨u, h27, hu⟩ := ty_nat hh (g := 27) (u := 15) rfl (by decide)
  have h12 := ty_ref hh (g := 12) (p := 170) rfl
  have h28 := ty_ref hh (g := 28) (p := 178) rfl
  obtain ⟨g, hN, -⟩ := ty_arrE hh (i := 170) (by decide) rfl
  obtain ⟨q1, q2, ⟨f, hU, tU⟩, q4⟩ := id hq
  refine wp_mono (hd_undo h0 h12 h28 h27 hu hU hN) ?_
  rintro _ (⟨-, rfl⟩ | ⟨v, g2, rfl, rfl, hg⟩)
  · exact post0 hI h0 ⟨_, rfl⟩
  · have d : dD nowC g27G h (aset (mset (mset h 0 (.int 0)) 27 (.int (nI v))) 170 96 g2) := dD_tr (dD_tr (dD_set rfl) (dD_set rfl)) (dD_arr rfl (by decide))
    refine ⟨⟨_, rfl⟩, rfl, x_lt d (fun i hi => nb_ne (by omega)), dD_ty hh d (fun i hi _ _ => ?_) (fun k hg b hb => ?_), rxQ_dD d rfl rfl rfl rfl rfl rfl hq⟩
    · have := Nat.eq_of_beq_eq_true hi
      subst this
      show ac_ok (aset (mset (mset h 0 (.int 0)) 27 (.int (nI v))) 170 96 g2 170) (bB 170)
      rw [aset_self]
      refine ty_row (fun j hj => ?_)
      rw [hg j hj]
      have := tU (96 * v + j) (by omega)
      rw [show (96 * v + j) % 96 = j by omega] at this
      exact this
    · have hg2 : k = 0 ∨ k = 27 := by
        unfold g27G at hg
        simp only [Bool.or_eq_true, Nat.beq_eq] at hg
        exact hg
      rcases hg2 with rfl | rfl
      · cases (Option.some.inj hb : _ = b); exact ⟨_, mF_as (by decide) (mF_ne (by decide) (mF_self h0)), ⟨rfl, by decide, by decide⟩⟩
      · cases (Option.some.inj hb : _ = b); exact ⟨_, mF_as (by decide) (mF_self (mF_ne (by decide) h27)), av_nI (by omega) (by omega) (by omega)⟩
def aBool (v : Option Value) : Prop := v = some (.int 0) ∨ v = some (.int 1)
def kpC (i : Nat) : Bool := Nat.beq i 194 || (Nat.beq i 195 || Nat.beq i 196)
theorem ty_bool (hh : ah_ok bB 198 [] h) : ∃ b : Nat → Int32, h 194 = .inl (3, 3, .inl b) ∧ ∀ j, j < 3 → av_ok (.int (b j)) (0, 0, 1) := by
  have h0 : ac_ok (h 194) (bB 194) := hh 194 (by decide)
  have hb : bB 194 = .inl (3, 3, (0, 0, 1)) := rfl
  rw [hb] at h0
  cases e : h 194 with
  | inr q => rw [e] at h0; obtain ⟨ci, fs⟩ := q; exact h0.elim
  | inl q =>
    rw [e] at h0
    obtain ⟨kd, m, f | f | f | f | f⟩ := q
    · obtain ⟨rfl, rfl, q⟩ := h0
      exact ⟨f, rfl, q⟩
    · have := (h0.2.2 0 (by rw [h0.2.1]; decide)).1
      cases this
    · exact h0.elim
    · exact h0.elim
    · have q := h0.2.2 0 (by rw [h0.2.1]; decide)
      cases e3 : f 0 with
      | none => rw [e3] at q; cases q
      | some p => rw [e3] at q; cases q.1
theorem hm_keep (hI : mInv h) (v : Int32) (hf : 100 ≤ fr) (hl : 4000 ≤ lo) : pm_WP PT fr lo 264 (0, pm_l0 [.ref 162, .int v] 3, [], h, 198, sl) (fun x => mPost aBool h sl x ∧ x.1 = some (.int (cond (in_b v.toInt64 0 2) 1 0))) := by
  obtain ⟨hh, hq⟩ := id hI
  obtain ⟨x0, h0, -⟩ := ty_fld hh (g := 0) rfl
  obtain ⟨ch, h5, -⟩ := ty_int hh (g := 5) rfl
  have h12 := ty_ref hh (g := 12) (p := 170) rfl
  have h52 := ty_ref hh (g := 52) (p := 194) rfl
  have h53 := ty_ref hh (g := 53) (p := 195) rfl
  have h54 := ty_ref hh (g := 54) (p := 196) rfl
  obtain ⟨f, hN, -⟩ := ty_arrE hh (i := 170) (by decide) rfl
  obtain ⟨b, hB, tB⟩ := ty_bool hh
  obtain ⟨c, hC, -⟩ := ty_arr hh (i := 195) (by decide) rfl rfl (by decide)
  obtain ⟨q1, q2, q3, ⟨g, hK, tK⟩⟩ := id hq
  refine wp_mono (hd_keep v h0 h5 h52 h53 h54 h12 hN hK hB hC (by omega) (by omega)) ?_
  rintro _ (⟨e, rfl⟩ | ⟨i, g2, hi, rfl, rfl, c1, c2⟩)
  · rw [e]
    exact ⟨post0 hI h0 (Or.inl rfl), rfl⟩
  · have e1 : in_b (nI i).toInt64 0 2 = true := by
      have : ∀ i : Nat, i < 3 → in_b (nI i).toInt64 0 2 = true := by decide
      exact this i hi
    rw [e1]
    refine ⟨?_, rfl⟩
    generalize hw : aset (aset (zset (mset h 0 (.int 0)) 194 3 (upd b i 1)) 195 3 (upd c i ch)) 196 288 g2 = w
    have w196 : w 196 = .inl (0, 288, .inl g2) := by rw [← hw, aset_self]
    have w195 : w 195 = .inl (0, 3, .inl (upd c i ch)) := by rw [← hw, aset_nei (by decide), aset_self]
    have w194 : w 194 = .inl (3, 3, .inl (upd b i 1)) := by rw [← hw, aset_nei (by decide), aset_nei (by decide), zset_self]
    have d : dD kpC g0G h w := by
      rw [← hw]
      refine dD_tr (dD_tr (dD_tr (dD_set (f := 0) (v := .int 0) rfl) ?_) (dD_arr (a := 195) rfl (by decide))) (dD_arr (a := 196) rfl (by decide))
      refine ⟨fun i _ hb => zset_nei (fun q => by rw [q] at hb; cases hb), fun fs e => ⟨fs, ?_, rfl, fun _ _ => rfl⟩⟩
      rw [zset_nei (by decide)]
      exact e
    have w0 : mF w 0 (.int 0) := by
      rw [← hw]
      exact mF_as (by decide) (mF_as (by decide) (mF_zs (by decide) (mF_self h0)))
    refine ⟨Or.inr rfl, rfl, x_lt d (fun i hi => by unfold kpC; rw [nb_ne (by omega), nb_ne (by omega), nb_ne (by omega)]; rfl), dD_ty hh d (fun k hk _ _ => ?_) (fun k hg b hb => ?_), ?_⟩
    · have hk2 : k = 194 ∨ k = 195 ∨ k = 196 := by
        unfold kpC at hk
        simp only [Bool.or_eq_true, Nat.beq_eq] at hk
        exact hk
      rcases hk2 with rfl | rfl | rfl
      · show ac_ok (w 194) _
        rw [w194]
        refine ⟨rfl, rfl, fun j hj => ?_⟩
        unfold upd
        by_cases z : j = i
        · rw [if_pos z]; exact ⟨rfl, by decide, by decide⟩
        · rw [if_neg z]; exact tB j hj
      · show ac_ok (w 195) _
        rw [w195]
        exact ⟨rfl, rfl, fun j _ => ai_top_ok _⟩
      · show ac_ok (w 196) _
        rw [w196]
        exact ⟨rfl, rfl, fun j _ => ai_top_ok _⟩
    · have := Nat.eq_of_beq_eq_true hg
      subst this
      cases (Option.some.inj hb : _ = b)
      exact ⟨_, w0, ⟨rfl, by decide, by decide⟩⟩
    · obtain ⟨⟨n, dn, ff, a1, a2, a3⟩, ⟨cc, gg, b1, b2, b3⟩, ⟨f1, r1, r2⟩⟩ : codeOk h ∧ cgOk h ∧ rowsOk h 178 1536 := ⟨q1, q2, q3⟩
      refine ⟨⟨n, dn, ff, dD_mF d rfl a1, (d.1 174 (by decide) rfl).trans a2, a3⟩, ⟨cc, gg, dD_mF d rfl b1, dD_mF d rfl b2, b3⟩, ⟨f1, (d.1 178 (by decide) rfl).trans r1, r2⟩, g2, w196, fun j hj => ?_⟩
      by_cases z : 96 * i ≤ j ∧ j < 96 * i + 96
      · have := c1 (j - 96 * i) (by omega)
        rw [show 96 * i + (j - 96 * i) = j by omega, Nat.zero_add] at this
        rw [this, show j % 96 = j - 96 * i by omega]
        exact ty_row_of hh hN _ (by omega)
      · rw [c2 j (by omega)]
        exact tK j hj
theorem hm_again (hI : mInv h) (v : Int32) (hf : 100 ≤ fr) (hl : 4000 ≤ lo) : pm_WP PT fr lo 265 (0, pm_l0 [.ref 162, .int v] 3, [], h, 198, sl) (mPost aBool h sl) := by
  obtain ⟨hh, hq⟩ := id hI
  obtain ⟨x0, h0, -⟩ := ty_fld hh (g := 0) rfl
  obtain ⟨x27, h27, -⟩ := ty_fld hh (g := 27) rfl
  obtain ⟨ch, h5, -⟩ := ty_int hh (g := 5) rfl
  have h12 := ty_ref hh (g := 12) (p := 170) rfl
  have h52 := ty_ref hh (g := 52) (p := 194) rfl
  have h53 := ty_ref hh (g := 53) (p := 195) rfl
  have h54 := ty_ref hh (g := 54) (p := 196) rfl
  obtain ⟨g, hN, -⟩ := ty_arrE hh (i := 170) (by decide) rfl
  obtain ⟨b, hB, tB⟩ := ty_bool hh
  obtain ⟨c, hC, -⟩ := ty_arr hh (i := 195) (by decide) rfl rfl (by decide)
  obtain ⟨q1, q2, q3, ⟨f, hK, tK⟩⟩ := id hq
  refine wp_mono (hd_again v h0 h5 h27 h52 h53 h54 h12 hN hK hB hC (by omega) (by omega)) ?_
  rintro _ (rfl | ⟨i, g2, hi, rfl, rfl, hg⟩)
  · exact post0 hI h0 (Or.inl rfl)
  · have d : dD nowC g27G h (mset (aset (mset h 0 (.int 0)) 170 96 g2) 27 (.int 0)) := dD_tr (dD_tr (dD_set rfl) (dD_arr rfl (by decide))) (dD_set rfl)
    refine ⟨Or.inr rfl, rfl, x_lt d (fun i hi => nb_ne (by omega)), dD_ty hh d (fun k hk _ _ => ?_) (fun k hg b hb => ?_), rxQ_dD d rfl rfl rfl rfl rfl rfl hq⟩
    · have := Nat.eq_of_beq_eq_true hk
      subst this
      show ac_ok (mset (aset (mset h 0 (.int 0)) 170 96 g2) 27 (.int 0) 170) (bB 170)
      rw [mset_ne (by decide), aset_self]
      refine ty_row (fun j hj => ?_)
      rw [hg j hj]
      have := tK (96 * i + j) (by omega)
      rw [show (96 * i + j) % 96 = j by omega] at this
      exact this
    · have hg2 : k = 0 ∨ k = 27 := by
        unfold g27G at hg
        simp only [Bool.or_eq_true, Nat.beq_eq] at hg
        exact hg
      rcases hg2 with rfl | rfl
      · cases (Option.some.inj hb : _ = b); exact ⟨_, mF_ne (by decide) (mF_as (by decide) (mF_self h0)), ⟨rfl, by decide, by decide⟩⟩
      · cases (Option.some.inj hb : _ = b); exact ⟨_, mF_self (mF_as (by decide) (mF_ne (by decide) h27)), ⟨rfl, by decide, by decide⟩⟩
end UKA
end MG70farx1
section MG70farx2
/-! the lengths of the ways, by hand -/
section LFR
variable {fr lo sl : Nat} {h : pm_H} {Q : pm_Rs → Prop} {c t : Nat} {w : Nat → Nat → Nat} {rd f0 : Nat → Int32}
theorem ix6 (u k : Nat) : (6 : Int32) * nI u + nI k = nI (6 * u + k) := by rw [show (6 : Int32) = nI 6 from rfl, hI_mul, nI_add]
/-- the roads as numbers -/
def rdOk (rd : Nat → Int32) (w : Nat → Nat → Nat) : Prop := ∀ a b, a < 6 → b < 6 → rd (6 * a + b) = nI (w a b) ∧ w a b ≤ 9
/-- the lengths as numbers -/
def frOk (c : Nat) (f0 f : Nat → Int32) (F : Nat → Nat) : Prop := (∀ j, j < c → f j = nI (F j) ∧ F j ≤ INF) ∧ ∀ j, c ≤ j → f j = f0 j
theorem INF_lt : INF = 1000000 := rfl
theorem frOk_up {f : Nat → Int32} {F : Nat → Nat} {a b : Nat} {v : Int32} (ha : a < c) (h : frOk c f0 f F) (hv : v = nI (fst1 w F a b a)) : frOk c f0 (upd f a v) (fst1 w F a b) := by
  refine ⟨fun j hj => ?_, fun j hj => ?_⟩
  · refine ⟨?_, Nat.le_trans (fst1_le _ _ _ _) (h.1 j hj).2⟩
    by_cases e : j = a
    · subst e
      simp only [upd, if_true]
      exact hv
    · simp only [upd, if_neg e]
      rw [(h.1 j hj).1]
      unfold fst1
      rw [if_neg e]
  · have : ¬ j = a := by omega
    simp only [upd, if_neg this]
    exact h.2 j hj
theorem fst1_no {F : Nat → Nat} {a b : Nat} (hw : ¬ 0 < w a b) : fst1 w F a b a = F a := by
  unfold fst1
  rw [if_pos rfl, if_neg hw]
theorem fst1_yes {F : Nat → Nat} {a b : Nat} (hw : 0 < w a b) : fst1 w F a b a = min (F a) (F b + w a b) := by
  unfold fst1
  rw [if_pos rfl, if_pos hw]
theorem lf_A (h3 : mF h 3 (.int (nI c))) (hc : c ≤ 6) (h39 : mF h 39 (.ref 185)) (h11 : mF h 11 (.ref 169)) (hR : h 169 = .inl (0, 36, .inl rd)) (hw : rdOk rd w) (ht : t < 1000000) (kk : ∀ f, frOk c f0 f (fun j => if j = t then 0 else INF) → pm_WP PT fr lo 237 (34, [some (.ref 162), some (.int (nI t)), some (.int (nI c)), none, none, none], [], aset h 185 6 f, 198, sl) Q) : ∀ (m i : Nat) (f : Nat → Int32), i + m = c → (∀ j, j < i → f j = nI (if j = t then 0 else INF)) → (∀ j, c ≤ j → f j = f0 j) → pm_WP PT fr lo 237 (2, [some (.ref 162), some (.int (nI t)), some (.int (nI i)), none, none, none], [], aset h 185 6 f, 198, sl) Q := by
  intro m
  induction m with
  | zero =>
    intro i f hi e1 e2
    obtain rfl : i = c := by omega
    refine wp_i rfl rfl rfl rfl ?_
    refine wp_i rfl rfl rfl rfl ?_
    show pm_WP PT fr lo 237 (4, [some (.ref 162), some (.int (nI t)), some (.int (nI i)), none, none, none], [.ref 162, .int (nI i)], (aset h 185 6 f), 198, sl) _
    refine wp_gfm rfl rfl (mF_as (by decide) h3) ?_
    show pm_WP PT fr lo 237 (7, [some (.ref 162), some (.int (nI t)), some (.int (nI i)), none, none, none], [.int (nI i), .int (nI i)], (aset h 185 6 f), 198, sl) _
    refine wp_icmp (c := .ge) (off := 27) (t := 34) rfl rfl (fun _ => ?_) (fun q => absurd (q.symm.trans ((hI_ge (by omega) (by omega)).trans (decide_eq_true (by omega)))) (by decide))
    show pm_WP PT fr lo 237 (34, [some (.ref 162), some (.int (nI t)), some (.int (nI i)), none, none, none], [], (aset h 185 6 f), 198, sl) _
    refine kk f ⟨fun j hj => ⟨e1 j hj, ?_⟩, e2⟩
    show (if j = t then 0 else INF) ≤ INF
    split
    · exact Nat.zero_le _
    · exact Nat.le_refl _
  | succ m ih =>
    intro i f hi e1 e2
    refine wp_i rfl rfl rfl rfl ?_
    refine wp_i rfl rfl rfl rfl ?_
    show pm_WP PT fr lo 237 (4, [some (.ref 162), some (.int (nI t)), some (.int (nI i)), none, none, none], [.ref 162, .int (nI i)], (aset h 185 6 f), 198, sl) _
    refine wp_gfm rfl rfl (mF_as (by decide) h3) ?_
    show pm_WP PT fr lo 237 (7, [some (.ref 162), some (.int (nI t)), some (.int (nI i)), none, none, none], [.int (nI c), .int (nI i)], (aset h 185 6 f), 198, sl) _
    refine wp_icmp (c := .ge) (off := 27) (t := 34) rfl rfl (fun q => absurd (q.symm.trans ((hI_ge (by omega) (by omega)).trans (decide_eq_false (by omega)))) (by decide)) (fun _ => ?_)
    refine wp_i rfl rfl rfl rfl ?_
    show pm_WP PT fr lo 237 (11, [some (.ref 162), some (.int (nI t)), some (.int (nI i)), none, none, none], [.ref 162], (aset h 185 6 f), 198, sl) _
    refine wp_gfm rfl rfl (mF_as (by decide) h39) ?_
    refine wp_i rfl rfl rfl rfl ?_
    refine wp_i rfl rfl rfl rfl ?_
    refine wp_i rfl rfl rfl rfl ?_
    show pm_WP PT fr lo 237 (17, [some (.ref 162), some (.int (nI t)), some (.int (nI i)), none, none, none], [.int (nI t), .int (nI i), .int (nI i), .ref 185], (aset h 185 6 f), 198, sl) _
    refine wp_icmp (c := .ne) (off := 7) (t := 24) rfl rfl (fun q => ?_) (fun q => ?_)
    · have q : ¬ i = t := of_decide_eq_true ((hI_ne (by omega) (by omega)).symm.trans q)
      refine wp_i rfl rfl rfl rfl ?_
      show pm_WP PT fr lo 237 (27, [some (.ref 162), some (.int (nI t)), some (.int (nI i)), none, none, none], [.int 1000000, .int (nI i), .ref 185], (aset h 185 6 f), 198, sl) _
      refine wp_ism rfl (aset_self _ _ _ _) (hI_in (by omega) (by omega)) (by decide) ?_
      rw [nI_clamp (by omega)]
      refine wp_i rfl rfl rfl rfl ?_
      refine wp_i rfl rfl rfl rfl ?_
      show pm_WP PT fr lo 237 (2, [some (.ref 162), some (.int (nI t)), some (.int (nI i + 1)), none, none, none], [], (aset (aset h 185 6 f) 185 6 (upd f i (1000000))), 198, sl) _
      rw [nI_1 i, aset_aset]
      refine ih (i + 1) _ (by omega) (fun j hj => ?_) (fun j hj => ?_)
      · by_cases e : j = i
        · subst e
          simp only [upd, if_true]
          rw [if_neg q]
          rfl
        · simp only [upd, if_neg e]
          exact e1 j (by omega)
      · have : ¬ j = i := by omega
        simp only [upd, if_neg this]
        exact e2 j hj
    · have q : i = t := Decidable.not_not.mp (of_decide_eq_false ((hI_ne (by omega) (by omega)).symm.trans q))
      refine wp_i rfl rfl rfl rfl ?_
      refine wp_i rfl rfl rfl rfl ?_
      show pm_WP PT fr lo 237 (27, [some (.ref 162), some (.int (nI t)), some (.int (nI i)), none, none, none], [.int 0, .int (nI i), .ref 185], (aset h 185 6 f), 198, sl) _
      refine wp_ism rfl (aset_self _ _ _ _) (hI_in (by omega) (by omega)) (by decide) ?_
      rw [nI_clamp (by omega)]
      refine wp_i rfl rfl rfl rfl ?_
      refine wp_i rfl rfl rfl rfl ?_
      show pm_WP PT fr lo 237 (2, [some (.ref 162), some (.int (nI t)), some (.int (nI i + 1)), none, none, none], [], (aset (aset h 185 6 f) 185 6 (upd f i (0))), 198, sl) _
      rw [nI_1 i, aset_aset]
      refine ih (i + 1) _ (by omega) (fun j hj => ?_) (fun j hj => ?_)
      · by_cases e : j = i
        · subst e
          simp only [upd, if_true]
          rw [if_pos q]
          rfl
        · simp only [upd, if_neg e]
          exact e1 j (by omega)
      · have : ¬ j = i := by omega
        simp only [upd, if_neg this]
        exact e2 j hj
theorem lf_B (h3 : mF h 3 (.int (nI c))) (hc : c ≤ 6) (h39 : mF h 39 (.ref 185)) (h11 : mF h 11 (.ref 169)) (hR : h 169 = .inl (0, 36, .inl rd)) (hw : rdOk rd w) (hf : 1 ≤ fr) (hl : 20 ≤ lo) {r a : Nat} (ha : a < c) (kk : ∀ f F x5, frOk c f0 f F → fOk w c t r a c F → pm_WP PT fr lo 237 (125, [some (.ref 162), some (.int (nI t)), some (.int (nI r)), some (.int (nI a)), some (.int (nI c)), x5], [], aset h 185 6 f, 198, sl) Q) : ∀ (m b : Nat) (f : Nat → Int32) (F : Nat → Nat) (x5 : Option Value), b + m = c → frOk c f0 f F → fOk w c t r a b F → pm_WP PT fr lo 237 (57, [some (.ref 162), some (.int (nI t)), some (.int (nI r)), some (.int (nI a)), some (.int (nI b)), x5], [], aset h 185 6 f, 198, sl) Q := by
  intro m
  induction m with
  | zero =>
    intro b f F x5 hb e1 e2
    obtain rfl : b = c := by omega
    refine wp_i rfl rfl rfl rfl ?_
    refine wp_i rfl rfl rfl rfl ?_
    show pm_WP PT fr lo 237 (60, [some (.ref 162), some (.int (nI t)), some (.int (nI r)), some (.int (nI a)), some (.int (nI b)), x5], [.ref 162, .int (nI b)], (aset h 185 6 f), 198, sl) _
    refine wp_gfm rfl rfl (mF_as (by decide) h3) ?_
    show pm_WP PT fr lo 237 (63, [some (.ref 162), some (.int (nI t)), some (.int (nI r)), some (.int (nI a)), some (.int (nI b)), x5], [.int (nI b), .int (nI b)], (aset h 185 6 f), 198, sl) _
    refine wp_icmp (c := .ge) (off := 62) (t := 125) rfl rfl (fun _ => ?_) (fun q => absurd (q.symm.trans ((hI_ge (by omega) (by omega)).trans (decide_eq_true (by omega)))) (by decide))
    show pm_WP PT fr lo 237 (125, [some (.ref 162), some (.int (nI t)), some (.int (nI r)), some (.int (nI a)), some (.int (nI b)), x5], [], (aset h 185 6 f), 198, sl) _
    exact kk f F x5 e1 e2
  | succ m ih =>
    intro b f F x5 hb e1 e2
    have hbc : b < c := by omega
    obtain ⟨ew, hw9⟩ := hw a b (by omega) (by omega)
    obtain ⟨ea, la⟩ := e1.1 a ha
    obtain ⟨eb, lb⟩ := e1.1 b hbc
    have hI0 := INF_lt
    refine wp_i rfl rfl rfl rfl ?_
    refine wp_i rfl rfl rfl rfl ?_
    show pm_WP PT fr lo 237 (60, [some (.ref 162), some (.int (nI t)), some (.int (nI r)), some (.int (nI a)), some (.int (nI b)), x5], [.ref 162, .int (nI b)], (aset h 185 6 f), 198, sl) _
    refine wp_gfm rfl rfl (mF_as (by decide) h3) ?_
    show pm_WP PT fr lo 237 (63, [some (.ref 162), some (.int (nI t)), some (.int (nI r)), some (.int (nI a)), some (.int (nI b)), x5], [.int (nI c), .int (nI b)], (aset h 185 6 f), 198, sl) _
    refine wp_icmp (c := .ge) (off := 62) (t := 125) rfl rfl (fun q => absurd (q.symm.trans ((hI_ge (by omega) (by omega)).trans (decide_eq_false (by omega)))) (by decide)) (fun _ => ?_)
    refine wp_i rfl rfl rfl rfl ?_
    show pm_WP PT fr lo 237 (67, [some (.ref 162), some (.int (nI t)), some (.int (nI r)), some (.int (nI a)), some (.int (nI b)), x5], [.ref 162], (aset h 185 6 f), 198, sl) _
    refine wp_gfm rfl rfl (mF_as (by decide) h11) ?_
    refine wp_i rfl rfl rfl rfl ?_
    refine wp_i rfl rfl rfl rfl ?_
    refine wp_i rfl rfl rfl rfl ?_
    refine wp_i rfl rfl rfl rfl ?_
    refine wp_i rfl rfl rfl rfl ?_
    show pm_WP PT fr lo 237 (77, [some (.ref 162), some (.int (nI t)), some (.int (nI r)), some (.int (nI a)), some (.int (nI b)), x5], [.int ((6 * (nI a)) + (nI b)), .ref 169], (aset h 185 6 f), 198, sl) _
    rw [ix6 a b]
    show pm_WP PT fr lo 237 (77, [some (.ref 162), some (.int (nI t)), some (.int (nI r)), some (.int (nI a)), some (.int (nI b)), x5], [.int (nI (6 * a + b)), .ref 169], (aset h 185 6 f), 198, sl) _
    refine wp_iam rfl (aset_ne (by decide) hR) (hI_in (by omega) (by omega)) (by decide) ?_
    rw [nI_clamp (by omega), ew]
    show pm_WP PT fr lo 237 (78, [some (.ref 162), some (.int (nI t)), some (.int (nI r)), some (.int (nI a)), some (.int (nI b)), x5], [.int (nI (w a b))], (aset h 185 6 f), 198, sl) _
    refine wp_i rfl rfl rfl rfl ?_
    refine wp_i rfl rfl rfl rfl ?_
    show pm_WP PT fr lo 237 (81, [some (.ref 162), some (.int (nI t)), some (.int (nI r)), some (.int (nI a)), some (.int (nI b)), some (.int (nI (w a b)))], [.ref 162], (aset h 185 6 f), 198, sl) _
    refine wp_gfm rfl rfl (mF_as (by decide) h39) ?_
    refine wp_i rfl rfl rfl rfl ?_
    refine wp_i rfl rfl rfl rfl ?_
    show pm_WP PT fr lo 237 (87, [some (.ref 162), some (.int (nI t)), some (.int (nI r)), some (.int (nI a)), some (.int (nI b)), some (.int (nI (w a b)))], [.int (nI (w a b)), .int (nI a), .ref 185], (aset h 185 6 f), 198, sl) _
    refine wp_if (c := .le) (off := 25) (t := 112) rfl rfl (fun q => ?_) (fun q => ?_)
    · have q : ¬ 0 < w a b := Nat.not_lt.mpr (of_decide_eq_true ((hI_le (b := 0) (by omega) (by omega)).symm.trans q))
      refine wp_i rfl rfl rfl rfl ?_
      show pm_WP PT fr lo 237 (113, [some (.ref 162), some (.int (nI t)), some (.int (nI r)), some (.int (nI a)), some (.int (nI b)), some (.int (nI (w a b)))], [.ref 162, .int (nI a), .ref 185], (aset h 185 6 f), 198, sl) _
      refine wp_gfm rfl rfl (mF_as (by decide) h39) ?_
      refine wp_i rfl rfl rfl rfl ?_
      show pm_WP PT fr lo 237 (117, [some (.ref 162), some (.int (nI t)), some (.int (nI r)), some (.int (nI a)), some (.int (nI b)), some (.int (nI (w a b)))], [.int (nI a), .ref 185, .int (nI a), .ref 185], (aset h 185 6 f), 198, sl) _
      refine wp_iam rfl (aset_self _ _ _ _) (hI_in (by omega) (by omega)) (by decide) ?_
      rw [nI_clamp (by omega), ea]
      show pm_WP PT fr lo 237 (118, [some (.ref 162), some (.int (nI t)), some (.int (nI r)), some (.int (nI a)), some (.int (nI b)), some (.int (nI (w a b)))], [.int (nI (F a)), .int (nI a), .ref 185], (aset h 185 6 f), 198, sl) _
      show pm_WP PT fr lo 237 (118, [some (.ref 162), some (.int (nI t)), some (.int (nI r)), some (.int (nI a)), some (.int (nI b)), some (.int (nI (w a b)))], [.int (nI (F a)), .int (nI a), .ref 185], (aset h 185 6 f), 198, sl) _
      refine wp_ism rfl (aset_self _ _ _ _) (hI_in (by omega) (by omega)) (by decide) ?_
      rw [nI_clamp (by omega)]
      refine wp_i rfl rfl rfl rfl ?_
      refine wp_i rfl rfl rfl rfl ?_
      show pm_WP PT fr lo 237 (57, [some (.ref 162), some (.int (nI t)), some (.int (nI r)), some (.int (nI a)), some (.int (nI b + 1)), some (.int (nI (w a b)))], [], (aset (aset h 185 6 f) 185 6 (upd f a (nI (F a)))), 198, sl) _
      rw [nI_1 b, aset_aset]
      exact ih (b + 1) _ (fst1 w F a b) _ (by omega) (frOk_up ha e1 (by rw [fst1_no q])) (fOk_b ha hbc e2)
    · have q : 0 < w a b := Nat.lt_of_not_le (of_decide_eq_false ((hI_le (b := 0) (by omega) (by omega)).symm.trans q))
      refine wp_i rfl rfl rfl rfl ?_
      show pm_WP PT fr lo 237 (91, [some (.ref 162), some (.int (nI t)), some (.int (nI r)), some (.int (nI a)), some (.int (nI b)), some (.int (nI (w a b)))], [.ref 162, .int (nI a), .ref 185], (aset h 185 6 f), 198, sl) _
      refine wp_gfm rfl rfl (mF_as (by decide) h39) ?_
      refine wp_i rfl rfl rfl rfl ?_
      show pm_WP PT fr lo 237 (95, [some (.ref 162), some (.int (nI t)), some (.int (nI r)), some (.int (nI a)), some (.int (nI b)), some (.int (nI (w a b)))], [.int (nI a), .ref 185, .int (nI a), .ref 185], (aset h 185 6 f), 198, sl) _
      refine wp_iam rfl (aset_self _ _ _ _) (hI_in (by omega) (by omega)) (by decide) ?_
      rw [nI_clamp (by omega), ea]
      show pm_WP PT fr lo 237 (96, [some (.ref 162), some (.int (nI t)), some (.int (nI r)), some (.int (nI a)), some (.int (nI b)), some (.int (nI (w a b)))], [.int (nI (F a)), .int (nI a), .ref 185], (aset h 185 6 f), 198, sl) _
      refine wp_i rfl rfl rfl rfl ?_
      show pm_WP PT fr lo 237 (97, [some (.ref 162), some (.int (nI t)), some (.int (nI r)), some (.int (nI a)), some (.int (nI b)), some (.int (nI (w a b)))], [.ref 162, .int (nI (F a)), .int (nI a), .ref 185], (aset h 185 6 f), 198, sl) _
      refine wp_gfm rfl rfl (mF_as (by decide) h39) ?_
      refine wp_i rfl rfl rfl rfl ?_
      show pm_WP PT fr lo 237 (102, [some (.ref 162), some (.int (nI t)), some (.int (nI r)), some (.int (nI a)), some (.int (nI b)), some (.int (nI (w a b)))], [.int (nI b), .ref 185, .int (nI (F a)), .int (nI a), .ref 185], (aset h 185 6 f), 198, sl) _
      refine wp_iam rfl (aset_self _ _ _ _) (hI_in (by omega) (by omega)) (by decide) ?_
      rw [nI_clamp (by omega), eb]
      show pm_WP PT fr lo 237 (103, [some (.ref 162), some (.int (nI t)), some (.int (nI r)), some (.int (nI a)), some (.int (nI b)), some (.int (nI (w a b)))], [.int (nI (F b)), .int (nI (F a)), .int (nI a), .ref 185], (aset h 185 6 f), 198, sl) _
      refine wp_i rfl rfl rfl rfl ?_
      refine wp_i rfl rfl rfl rfl ?_
      show pm_WP PT fr lo 237 (106, [some (.ref 162), some (.int (nI t)), some (.int (nI r)), some (.int (nI a)), some (.int (nI b)), some (.int (nI (w a b)))], [.int ((nI (F b)) + (nI (w a b))), .int (nI (F a)), .int (nI a), .ref 185], (aset h 185 6 f), 198, sl) _
      rw [nI_add]
      show pm_WP PT fr lo 237 (106, [some (.ref 162), some (.int (nI t)), some (.int (nI r)), some (.int (nI a)), some (.int (nI b)), some (.int (nI (w a b)))], [.int (nI (F b + w a b)), .int (nI (F a)), .int (nI a), .ref 185], (aset h 185 6 f), 198, sl) _
      refine wp_min rfl rfl hf (by show pm_sum [Value.int (nI a), Value.ref 185] + 13 ≤ lo; have : pm_sum [Value.int (nI a), Value.ref 185] = 2 := rfl; omega) ?_
      rw [hI_min (by omega) (by omega)]
      show pm_WP PT fr lo 237 (109, [some (.ref 162), some (.int (nI t)), some (.int (nI r)), some (.int (nI a)), some (.int (nI b)), some (.int (nI (w a b)))], [.int (nI (min (F a) (F b + w a b))), .int (nI a), .ref 185], (aset h 185 6 f), 198, sl) _
      refine wp_i rfl rfl rfl rfl ?_
      show pm_WP PT fr lo 237 (118, [some (.ref 162), some (.int (nI t)), some (.int (nI r)), some (.int (nI a)), some (.int (nI b)), some (.int (nI (w a b)))], [.int (nI (min (F a) (F b + w a b))), .int (nI a), .ref 185], (aset h 185 6 f), 198, sl) _
      refine wp_ism rfl (aset_self _ _ _ _) (hI_in (by omega) (by omega)) (by decide) ?_
      rw [nI_clamp (by omega)]
      refine wp_i rfl rfl rfl rfl ?_
      refine wp_i rfl rfl rfl rfl ?_
      show pm_WP PT fr lo 237 (57, [some (.ref 162), some (.int (nI t)), some (.int (nI r)), some (.int (nI a)), some (.int (nI b + 1)), some (.int (nI (w a b)))], [], (aset (aset h 185 6 f) 185 6 (upd f a (nI (min (F a) (F b + w a b))))), 198, sl) _
      rw [nI_1 b, aset_aset]
      exact ih (b + 1) _ (fst1 w F a b) _ (by omega) (frOk_up ha e1 (by rw [fst1_yes q])) (fOk_b ha hbc e2)
theorem lf_C (h3 : mF h 3 (.int (nI c))) (hc : c ≤ 6) (h39 : mF h 39 (.ref 185)) (h11 : mF h 11 (.ref 169)) (hR : h 169 = .inl (0, 36, .inl rd)) (hw : rdOk rd w) (hf : 1 ≤ fr) (hl : 20 ≤ lo) {r : Nat} (kk : ∀ f F x4 x5, frOk c f0 f F → fOk w c t r c 0 F → pm_WP PT fr lo 237 (131, [some (.ref 162), some (.int (nI t)), some (.int (nI r)), some (.int (nI c)), x4, x5], [], aset h 185 6 f, 198, sl) Q) : ∀ (m a : Nat) (f : Nat → Int32) (F : Nat → Nat) (x4 x5 : Option Value), a + m = c → frOk c f0 f F → fOk w c t r a 0 F → pm_WP PT fr lo 237 (46, [some (.ref 162), some (.int (nI t)), some (.int (nI r)), some (.int (nI a)), x4, x5], [], aset h 185 6 f, 198, sl) Q := by
  intro m
  induction m with
  | zero =>
    intro a f F x4 x5 ha e1 e2
    obtain rfl : a = c := by omega
    refine wp_i rfl rfl rfl rfl ?_
    refine wp_i rfl rfl rfl rfl ?_
    show pm_WP PT fr lo 237 (48, [some (.ref 162), some (.int (nI t)), some (.int (nI r)), some (.int (nI a)), x4, x5], [.ref 162, .int (nI a)], (aset h 185 6 f), 198, sl) _
    refine wp_gfm rfl rfl (mF_as (by decide) h3) ?_
    show pm_WP PT fr lo 237 (51, [some (.ref 162), some (.int (nI t)), some (.int (nI r)), some (.int (nI a)), x4, x5], [.int (nI a), .int (nI a)], (aset h 185 6 f), 198, sl) _
    refine wp_icmp (c := .ge) (off := 80) (t := 131) rfl rfl (fun _ => ?_) (fun q => absurd (q.symm.trans ((hI_ge (by omega) (by omega)).trans (decide_eq_true (by omega)))) (by decide))
    show pm_WP PT fr lo 237 (131, [some (.ref 162), some (.int (nI t)), some (.int (nI r)), some (.int (nI a)), x4, x5], [], (aset h 185 6 f), 198, sl) _
    exact kk f F x4 x5 e1 e2
  | succ m ih =>
    intro a f F x4 x5 ha e1 e2
    refine wp_i rfl rfl rfl rfl ?_
    refine wp_i rfl rfl rfl rfl ?_
    show pm_WP PT fr lo 237 (48, [some (.ref 162), some (.int (nI t)), some (.int (nI r)), some (.int (nI a)), x4, x5], [.ref 162, .int (nI a)], (aset h 185 6 f), 198, sl) _
    refine wp_gfm rfl rfl (mF_as (by decide) h3) ?_
    show pm_WP PT fr lo 237 (51, [some (.ref 162), some (.int (nI t)), some (.int (nI r)), some (.int (nI a)), x4, x5], [.int (nI c), .int (nI a)], (aset h 185 6 f), 198, sl) _
    refine wp_icmp (c := .ge) (off := 80) (t := 131) rfl rfl (fun q => absurd (q.symm.trans ((hI_ge (by omega) (by omega)).trans (decide_eq_false (by omega)))) (by decide)) (fun _ => ?_)
    refine wp_i rfl rfl rfl rfl ?_
    refine wp_i rfl rfl rfl rfl ?_
    show pm_WP PT fr lo 237 (57, [some (.ref 162), some (.int (nI t)), some (.int (nI r)), some (.int (nI a)), some (.int 0), x5], [], (aset h 185 6 f), 198, sl) _
    refine lf_B h3 hc h39 h11 hR hw hf hl (by omega) (fun f2 F2 y5 g1 g2 => ?_) c 0 f F x5 (by omega) e1 e2
    refine wp_i rfl rfl rfl rfl ?_
    refine wp_i rfl rfl rfl rfl ?_
    show pm_WP PT fr lo 237 (46, [some (.ref 162), some (.int (nI t)), some (.int (nI r)), some (.int (nI a + 1)), some (.int (nI c)), y5], [], (aset h 185 6 f2), 198, sl) _
    rw [nI_1 a]
    exact ih (a + 1) f2 F2 _ _ (by omega) g1 (fOk_a (by omega) g2)
theorem lf_D (h3 : mF h 3 (.int (nI c))) (hc : c ≤ 6) (h39 : mF h 39 (.ref 185)) (h11 : mF h 11 (.ref 169)) (hR : h 169 = .inl (0, 36, .inl rd)) (hw : rdOk rd w) (hf : 1 ≤ fr) (hl : 20 ≤ lo) (kk : ∀ f F, frOk c f0 f F → fOk w c t c 0 0 F → Q (none, aset h 185 6 f, 198, sl)) : ∀ (m r : Nat) (f : Nat → Int32) (F : Nat → Nat) (x3 x4 x5 : Option Value), r + m = c → frOk c f0 f F → fOk w c t r 0 0 F → pm_WP PT fr lo 237 (36, [some (.ref 162), some (.int (nI t)), some (.int (nI r)), x3, x4, x5], [], aset h 185 6 f, 198, sl) Q := by
  intro m
  induction m with
  | zero =>
    intro r f F x3 x4 x5 hr e1 e2
    obtain rfl : r = c := by omega
    refine wp_i rfl rfl rfl rfl ?_
    refine wp_i rfl rfl rfl rfl ?_
    show pm_WP PT fr lo 237 (38, [some (.ref 162), some (.int (nI t)), some (.int (nI r)), x3, x4, x5], [.ref 162, .int (nI r)], (aset h 185 6 f), 198, sl) _
    refine wp_gfm rfl rfl (mF_as (by decide) h3) ?_
    show pm_WP PT fr lo 237 (41, [some (.ref 162), some (.int (nI t)), some (.int (nI r)), x3, x4, x5], [.int (nI r), .int (nI r)], (aset h 185 6 f), 198, sl) _
    refine wp_icmp (c := .ge) (off := 96) (t := 137) rfl rfl (fun _ => ?_) (fun q => absurd (q.symm.trans ((hI_ge (by omega) (by omega)).trans (decide_eq_true (by omega)))) (by decide))
    show pm_WP PT fr lo 237 (137, [some (.ref 162), some (.int (nI t)), some (.int (nI r)), x3, x4, x5], [], (aset h 185 6 f), 198, sl) _
    exact wp_vret rfl rfl (kk f F e1 e2)
  | succ m ih =>
    intro r f F x3 x4 x5 hr e1 e2
    refine wp_i rfl rfl rfl rfl ?_
    refine wp_i rfl rfl rfl rfl ?_
    show pm_WP PT fr lo 237 (38, [some (.ref 162), some (.int (nI t)), some (.int (nI r)), x3, x4, x5], [.ref 162, .int (nI r)], (aset h 185 6 f), 198, sl) _
    refine wp_gfm rfl rfl (mF_as (by decide) h3) ?_
    show pm_WP PT fr lo 237 (41, [some (.ref 162), some (.int (nI t)), some (.int (nI r)), x3, x4, x5], [.int (nI c), .int (nI r)], (aset h 185 6 f), 198, sl) _
    refine wp_icmp (c := .ge) (off := 96) (t := 137) rfl rfl (fun q => absurd (q.symm.trans ((hI_ge (by omega) (by omega)).trans (decide_eq_false (by omega)))) (by decide)) (fun _ => ?_)
    refine wp_i rfl rfl rfl rfl ?_
    refine wp_i rfl rfl rfl rfl ?_
    show pm_WP PT fr lo 237 (46, [some (.ref 162), some (.int (nI t)), some (.int (nI r)), some (.int 0), x4, x5], [], (aset h 185 6 f), 198, sl) _
    refine lf_C h3 hc h39 h11 hR hw hf hl (fun f2 F2 y4 y5 g1 g2 => ?_) c 0 f F x4 x5 (by omega) e1 e2
    refine wp_i rfl rfl rfl rfl ?_
    refine wp_i rfl rfl rfl rfl ?_
    show pm_WP PT fr lo 237 (36, [some (.ref 162), some (.int (nI t)), some (.int (nI r + 1)), some (.int (nI c)), y4, y5], [], (aset h 185 6 f2), 198, sl) _
    rw [nI_1 r]
    exact ih (r + 1) f2 F2 _ _ _ (by omega) g1 (fOk_r g2)
theorem hd_laysFar (h3 : mF h 3 (.int (nI c))) (hc : c ≤ 6) (h39 : mF h 39 (.ref 185)) (h11 : mF h 11 (.ref 169)) (hR : h 169 = .inl (0, 36, .inl rd)) (hw : rdOk rd w) (hF : h 185 = .inl (0, 6, .inl f0)) (ht : t < 1000000) (hf : 1 ≤ fr) (hl : 20 ≤ lo) : pm_WP PT fr lo 237 (0, pm_l0 [.ref 162, .int (nI t)] 6, [], h, 198, sl) (fun x => ∃ f : Nat → Int32, x = (none, aset h 185 6 f, 198, sl) ∧ frOk c f0 f (lD w c t c)) := by
  refine wp_i rfl rfl rfl rfl ?_
  refine wp_i rfl rfl rfl rfl ?_
  show pm_WP PT fr lo 237 (2, [some (.ref 162), some (.int (nI t)), some (.int 0), none, none, none], [], h, 198, sl) _
  have key := lf_A (fr := fr) (lo := lo) (sl := sl) (f0 := f0) (Q := fun x => ∃ f : Nat → Int32, x = (none, aset h 185 6 f, 198, sl) ∧ frOk c f0 f (lD w c t c)) h3 hc h39 h11 hR hw ht (fun f e1 => ?_) c 0 f0 (by omega) (fun j hj => by omega) (fun j _ => rfl)
  · rw [aset_same hF] at key
    exact key
  · refine wp_i rfl rfl rfl rfl ?_
    refine wp_i rfl rfl rfl rfl ?_
    show pm_WP PT fr lo 237 (36, [some (.ref 162), some (.int (nI t)), some (.int 0), none, none, none], [], (aset h 185 6 f), 198, sl) _
    exact lf_D h3 hc h39 h11 hR hw hf hl (fun f2 F2 g1 g2 => ⟨f2, rfl, fun j hj => by rw [← fOk_end g2 j hj]; exact g1.1 j hj, g1.2⟩) c 0 f _ none none none (by omega) e1 fOk_0
end LFR
end MG70farx2
section MG70farx3
/-! way, by hand -/
section WAY
variable {fr lo sl : Nat} {h : pm_H} {Q : pm_Rs → Prop} {c t a : Nat} {w : Nat → Nat → Nat} {rd f f0 : Nat → Int32}
theorem ty_lar (hh : ah_ok bB 198 [] h) : ∃ R : Nat → Int64, h 163 = .inl (2, 128, .inr (.inl R)) := by
  have h0 : ac_ok (h 163) (bB 163) := hh 163 (by decide)
  have hb : bB 163 = .inl (2, 128, al_top) := rfl
  rw [hb] at h0
  cases e : h 163 with
  | inr q => rw [e] at h0; obtain ⟨ci, fs⟩ := q; exact h0.elim
  | inl q =>
    rw [e] at h0
    obtain ⟨kd, m, f | f | f | f | f⟩ := q
    · have := (h0.2.2 0 (by rw [h0.2.1]; decide)).1
      cases this
    · obtain ⟨rfl, rfl, q⟩ := h0
      exact ⟨f, rfl⟩
    · exact h0.elim
    · exact h0.elim
    · have q := h0.2.2 0 (by rw [h0.2.1]; decide)
      cases e3 : f 0 with
      | none => rw [e3] at q; cases q
      | some p => rw [e3] at q; cases q.1
theorem ty_rd (hh : ah_ok bB 198 [] h) : ∃ (rd : Nat → Int32) (w : Nat → Nat → Nat), h 169 = .inl (0, 36, .inl rd) ∧ rdOk rd w := by
  obtain ⟨rd, e, q⟩ := ty_arr hh (i := 169) (by decide) rfl rfl (by decide)
  refine ⟨rd, fun a b => (rd (6 * a + b)).toInt.toNat, e, fun a b ha hb => ?_⟩
  have hq := q (6 * a + b) (by omega)
  obtain ⟨n, e1, e2, e3⟩ := hI_of (x := rd (6 * a + b)) hq.1
  have h9 : (rd (6 * a + b)).toInt ≤ 9 := hq.2
  refine ⟨?_, by show (rd (6 * a + b)).toInt.toNat ≤ 9; omega⟩
  show rd (6 * a + b) = nI (rd (6 * a + b)).toInt.toNat
  rw [e3, Int.toNat_natCast]
  exact e1
theorem ty_far (hh : ah_ok bB 198 [] h) : ∃ f : Nat → Int32, h 185 = .inl (0, 6, .inl f) ∧ ∀ j, j < 6 → av_ok (.int (f j)) (0, 0, 1000000) := by
  have hb : ∃ cs, bB 185 = .inr (1000, cs) ∧ cs = [(0, 0, 1000000), (0, 0, 1000000), (0, 0, 1000000), (0, 0, 1000000), (0, 0, 1000000), (0, 0, 1000000)] := ⟨_, rfl, rfl⟩
  obtain ⟨cs, eb, rfl⟩ := hb
  obtain ⟨f, e, q⟩ := ty_arrE hh (i := 185) (by decide) eb
  refine ⟨f, e, fun j hj => q j _ ?_⟩
  have : j = 0 ∨ j = 1 ∨ j = 2 ∨ j = 3 ∨ j = 4 ∨ j = 5 := by omega
  rcases this with rfl | rfl | rfl | rfl | rfl | rfl <;> rfl
theorem ty_farI {f : Nat → Int32} (q : ∀ j, j < 6 → av_ok (.int (f j)) (0, 0, 1000000)) : ac_ok (.inl (0, 6, .inl f)) (bB 185) := by
  have hb : ∃ cs, bB 185 = .inr (1000, cs) ∧ cs = [(0, 0, 1000000), (0, 0, 1000000), (0, 0, 1000000), (0, 0, 1000000), (0, 0, 1000000), (0, 0, 1000000)] := ⟨_, rfl, rfl⟩
  obtain ⟨cs, eb, rfl⟩ := hb
  rw [eb]
  refine ⟨rfl, rfl, fun j b hb => ?_⟩
  have hj : j < 6 := (List.getElem?_eq_some_iff.mp hb).1
  have hbe : b = (0, 0, 1000000) := by
    have : j = 0 ∨ j = 1 ∨ j = 2 ∨ j = 3 ∨ j = 4 ∨ j = 5 := by omega
    rcases this with rfl | rfl | rfl | rfl | rfl | rfl <;> exact (Option.some.inj hb).symm
  rw [hbe]
  exact q j hj
theorem far_ty {F : Nat → Nat} (q : ∀ j, j < 6 → av_ok (.int (f0 j)) (0, 0, 1000000)) (hf : frOk c f0 f F) : ∀ j, j < 6 → av_ok (.int (f j)) (0, 0, 1000000) := by
  intro j hj
  by_cases z : j < c
  · obtain ⟨e, hl⟩ := hf.1 j z
    rw [e]
    have := INF_lt
    exact ⟨rfl, by rw [nI_toInt (by omega)]; show (0 : Int) ≤ _; omega, by rw [nI_toInt (by omega)]; show _ ≤ (1000000 : Int); omega⟩
  · rw [hf.2 j (by omega)]
    exact q j hj
def wyC (i : Nat) : Bool := Nat.beq i 185 || Nat.beq i 163
def wyG (g : Nat) : Bool := Nat.beq g 0 || Nat.beq g 1
/-- on the way: what is the same, what is told -/
def wyI (h0 h : pm_H) (f : Nat → Int32) (k : Nat) : Prop := dD wyC wyG h0 h ∧ mF h 0 (.int 0) ∧ mF h 1 (.int (nI k)) ∧ (∃ R : Nat → Int64, h 163 = .inl (2, 128, .inr (.inl R))) ∧ h 185 = .inl (0, 6, .inl f)
theorem lset_arr {a b n m : Nat} {R : Nat → Int64} {g : Nat → Int32} (hn : b ≠ a) (q : h b = .inl (0, m, .inl g)) : lset h a n R b = .inl (0, m, .inl g) := by
  rw [lset_nei hn]
  exact q
theorem wyI_en {h0 : pm_H} {k : Nat} {R R2 : Nat → Int64} (q : wyI h0 h f k) : wyI h0 (mset (lset h 163 128 R2) 1 (.int (nI (k + 1)))) f (k + 1) := by
  obtain ⟨d, m0, m1, -, m4⟩ := q
  refine ⟨dD_tr d (dD_tr (dD_lset rfl (by decide)) (dD_set rfl)), mF_ne (by decide) (mF_ls (by decide) m0), mF_self (mF_ls (by decide) m1), ⟨R2, ?_⟩, mset_arr (by decide) (lset_arr (by decide) m4)⟩
  rw [mset_ne (by decide), lset_self]
theorem wyP {k : Nat} {hk : pm_H} (hI : mInv h) (q : wyI h hk f k) (hk2 : k ≤ 100) (tf : ∀ j, j < 6 → av_ok (.int (f j)) (0, 0, 1000000)) {A : Option Value → Prop} {v : Option Value} (hA : A v) : mPost A h sl (v, hk, 198, sl) := by
  obtain ⟨d, m0, m1, ⟨R, m3⟩, m4⟩ := q
  refine ⟨hA, rfl, x_lt d (fun i hi => by unfold wyC; rw [nb_ne (by omega), nb_ne (by omega)]; rfl), dD_ty hI.1 d (fun i hi _ _ => ?_) (fun g hg b hb => ?_), rxQ_dD d rfl rfl rfl rfl rfl rfl hI.2⟩
  · unfold wyC at hi
    rw [Bool.or_eq_true] at hi
    rcases hi with hi | hi
    · have := Nat.eq_of_beq_eq_true hi
      subst this
      show ac_ok (hk 185) _
      rw [m4]
      exact ty_farI tf
    · have := Nat.eq_of_beq_eq_true hi
      subst this
      show ac_ok (hk 163) _
      rw [m3]
      exact ⟨rfl, rfl, fun j _ => al_top_ok _⟩
  · unfold wyG at hg
    rw [Bool.or_eq_true] at hg
    rcases hg with hg | hg
    · have := Nat.eq_of_beq_eq_true hg
      subst this
      cases (Option.some.inj hb : _ = b)
      exact ⟨_, m0, ⟨rfl, by decide, by decide⟩⟩
    · have := Nat.eq_of_beq_eq_true hg
      subst this
      cases (Option.some.inj hb : _ = b)
      exact ⟨_, m1, av_nI (by omega) (by omega) (by omega)⟩
theorem wy_S (h3 : mF h 3 (.int (nI c))) (hc : c ≤ 6) (h39 : mF h 39 (.ref 185)) (h11 : mF h 11 (.ref 169)) (hR : h 169 = .inl (0, 36, .inl rd)) (hw : rdOk rd w) (hF : h 185 = .inl (0, 6, .inl f)) (hf : frOk c f0 f (lD w c t c)) {s : Nat} (hs : s < c) (kk : ∀ b y5 y6, b < c → 0 < w s b → lD w c t c b + w s b = lD w c t c s → pm_WP PT fr lo 238 (134, [some (.ref 162), some (.int (nI a)), some (.int (nI t)), some (.int (nI s)), some (.int (nI b)), y5, y6], [], h, 198, sl) Q) : ∀ (m b : Nat) (x6 : Option Value), b + m = c → (∃ b2, b ≤ b2 ∧ b2 < c ∧ 0 < w s b2 ∧ lD w c t c b2 + w s b2 = lD w c t c s) → pm_WP PT fr lo 238 (67, [some (.ref 162), some (.int (nI a)), some (.int (nI t)), some (.int (nI s)), some (.int (-1)), some (.int (nI b)), x6], [], h, 198, sl) Q := by
  intro m
  induction m with
  | zero =>
    intro b x6 hb e1
    obtain ⟨b2, q1, q2, -⟩ := e1
    omega
  | succ m ih =>
    intro b x6 hb e1
    have hbc : b < c := by omega
    obtain ⟨ew, hw9⟩ := hw s b (by omega) (by omega)
    obtain ⟨es, ls⟩ := hf.1 s hs
    obtain ⟨eb, lb⟩ := hf.1 b hbc
    have hI0 := INF_lt
    refine wp_i rfl rfl rfl rfl ?_
    refine wp_i rfl rfl rfl rfl ?_
    show pm_WP PT fr lo 238 (70, [some (.ref 162), some (.int (nI a)), some (.int (nI t)), some (.int (nI s)), some (.int (-1)), some (.int (nI b)), x6], [.ref 162, .int (nI b)], h, 198, sl) _
    refine wp_gfm rfl rfl h3 ?_
    show pm_WP PT fr lo 238 (73, [some (.ref 162), some (.int (nI a)), some (.int (nI t)), some (.int (nI s)), some (.int (-1)), some (.int (nI b)), x6], [.int (nI c), .int (nI b)], h, 198, sl) _
    refine wp_icmp (c := .ge) (off := 61) (t := 134) rfl rfl (fun q => absurd (q.symm.trans ((hI_ge (by omega) (by omega)).trans (decide_eq_false (by omega)))) (by decide)) (fun _ => ?_)
    refine wp_i rfl rfl rfl rfl ?_
    refine wp_i rfl rfl rfl rfl ?_
    refine wp_i rfl rfl rfl rfl ?_
    show pm_WP PT fr lo 238 (82, [some (.ref 162), some (.int (nI a)), some (.int (nI t)), some (.int (nI s)), some (.int (-1)), some (.int (nI b)), x6], [.ref 162], h, 198, sl) _
    refine wp_gfm rfl rfl h11 ?_
    refine wp_i rfl rfl rfl rfl ?_
    refine wp_i rfl rfl rfl rfl ?_
    refine wp_i rfl rfl rfl rfl ?_
    refine wp_i rfl rfl rfl rfl ?_
    refine wp_i rfl rfl rfl rfl ?_
    show pm_WP PT fr lo 238 (92, [some (.ref 162), some (.int (nI a)), some (.int (nI t)), some (.int (nI s)), some (.int (-1)), some (.int (nI b)), x6], [.int ((6 * (nI s)) + (nI b)), .ref 169], h, 198, sl) _
    rw [ix6 s b]
    show pm_WP PT fr lo 238 (92, [some (.ref 162), some (.int (nI a)), some (.int (nI t)), some (.int (nI s)), some (.int (-1)), some (.int (nI b)), x6], [.int (nI (6 * s + b)), .ref 169], h, 198, sl) _
    refine wp_iam rfl hR (hI_in (by omega) (by omega)) (by decide) ?_
    rw [nI_clamp (by omega), ew]
    show pm_WP PT fr lo 238 (93, [some (.ref 162), some (.int (nI a)), some (.int (nI t)), some (.int (nI s)), some (.int (-1)), some (.int (nI b)), x6], [.int (nI (w s b))], h, 198, sl) _
    refine wp_i rfl rfl rfl rfl ?_
    refine wp_i rfl rfl rfl rfl ?_
    show pm_WP PT fr lo 238 (97, [some (.ref 162), some (.int (nI a)), some (.int (nI t)), some (.int (nI s)), some (.int (-1)), some (.int (nI b)), some (.int (nI (w s b)))], [.int (nI (w s b))], h, 198, sl) _
    refine wp_if (c := .le) (off := 27) (t := 124) rfl rfl (fun q => ?_) (fun q => ?_)
    · have q : ¬ 0 < w s b := Nat.not_lt.mpr (of_decide_eq_true ((hI_le (b := 0) (by omega) (by omega)).symm.trans q))
      show pm_WP PT fr lo 238 (124, [some (.ref 162), some (.int (nI a)), some (.int (nI t)), some (.int (nI s)), some (.int (-1)), some (.int (nI b)), some (.int (nI (w s b)))], [], h, 198, sl) _
      refine wp_i rfl rfl rfl rfl ?_
      refine wp_i rfl rfl rfl rfl ?_
      refine wp_i rfl rfl rfl rfl ?_
      refine wp_i rfl rfl rfl rfl ?_
      show pm_WP PT fr lo 238 (67, [some (.ref 162), some (.int (nI a)), some (.int (nI t)), some (.int (nI s)), some (.int (-1)), some (.int (nI b + 1)), some (.int (nI (w s b)))], [], h, 198, sl) _
      rw [nI_1 b]
      refine ih (b + 1) _ (by omega) ?_
      obtain ⟨b2, r1, r2, r3, r4⟩ := e1
      refine ⟨b2, ?_, r2, r3, r4⟩
      have : b ≠ b2 := fun z => by subst z; exact q r3
      omega
    · have q : 0 < w s b := Nat.lt_of_not_le (of_decide_eq_false ((hI_le (b := 0) (by omega) (by omega)).symm.trans q))
      refine wp_i rfl rfl rfl rfl ?_
      show pm_WP PT fr lo 238 (101, [some (.ref 162), some (.int (nI a)), some (.int (nI t)), some (.int (nI s)), some (.int (-1)), some (.int (nI b)), some (.int (nI (w s b)))], [.ref 162], h, 198, sl) _
      refine wp_gfm rfl rfl h39 ?_
      refine wp_i rfl rfl rfl rfl ?_
      show pm_WP PT fr lo 238 (106, [some (.ref 162), some (.int (nI a)), some (.int (nI t)), some (.int (nI s)), some (.int (-1)), some (.int (nI b)), some (.int (nI (w s b)))], [.int (nI b), .ref 185], h, 198, sl) _
      refine wp_iam rfl hF (hI_in (by omega) (by omega)) (by decide) ?_
      rw [nI_clamp (by omega), eb]
      show pm_WP PT fr lo 238 (107, [some (.ref 162), some (.int (nI a)), some (.int (nI t)), some (.int (nI s)), some (.int (-1)), some (.int (nI b)), some (.int (nI (w s b)))], [.int (nI (lD w c t c b))], h, 198, sl) _
      refine wp_i rfl rfl rfl rfl ?_
      refine wp_i rfl rfl rfl rfl ?_
      refine wp_i rfl rfl rfl rfl ?_
      show pm_WP PT fr lo 238 (111, [some (.ref 162), some (.int (nI a)), some (.int (nI t)), some (.int (nI s)), some (.int (-1)), some (.int (nI b)), some (.int (nI (w s b)))], [.ref 162, .int ((nI (lD w c t c b)) + (nI (w s b)))], h, 198, sl) _
      refine wp_gfm rfl rfl h39 ?_
      refine wp_i rfl rfl rfl rfl ?_
      show pm_WP PT fr lo 238 (115, [some (.ref 162), some (.int (nI a)), some (.int (nI t)), some (.int (nI s)), some (.int (-1)), some (.int (nI b)), some (.int (nI (w s b)))], [.int (nI s), .ref 185, .int ((nI (lD w c t c b)) + (nI (w s b)))], h, 198, sl) _
      refine wp_iam rfl hF (hI_in (by omega) (by omega)) (by decide) ?_
      rw [nI_clamp (by omega), es, nI_add]
      show pm_WP PT fr lo 238 (116, [some (.ref 162), some (.int (nI a)), some (.int (nI t)), some (.int (nI s)), some (.int (-1)), some (.int (nI b)), some (.int (nI (w s b)))], [.int (nI (lD w c t c s)), .int (nI (lD w c t c b + w s b))], h, 198, sl) _
      show pm_WP PT fr lo 238 (116, [some (.ref 162), some (.int (nI a)), some (.int (nI t)), some (.int (nI s)), some (.int (-1)), some (.int (nI b)), some (.int (nI (w s b)))], [.int (nI (lD w c t c s)), .int (nI (lD w c t c b + w s b))], h, 198, sl) _
      refine wp_icmp (c := .ne) (off := 8) (t := 124) rfl rfl (fun q2 => ?_) (fun q2 => ?_)
      · have q2 : ¬ lD w c t c b + w s b = lD w c t c s := of_decide_eq_true ((hI_ne (by omega) (by omega)).symm.trans q2)
        show pm_WP PT fr lo 238 (124, [some (.ref 162), some (.int (nI a)), some (.int (nI t)), some (.int (nI s)), some (.int (-1)), some (.int (nI b)), some (.int (nI (w s b)))], [], h, 198, sl) _
        refine wp_i rfl rfl rfl rfl ?_
        refine wp_i rfl rfl rfl rfl ?_
        refine wp_i rfl rfl rfl rfl ?_
        refine wp_i rfl rfl rfl rfl ?_
        show pm_WP PT fr lo 238 (67, [some (.ref 162), some (.int (nI a)), some (.int (nI t)), some (.int (nI s)), some (.int (-1)), some (.int (nI b + 1)), some (.int (nI (w s b)))], [], h, 198, sl) _
        rw [nI_1 b]
        refine ih (b + 1) _ (by omega) ?_
        obtain ⟨b2, r1, r2, r3, r4⟩ := e1
        refine ⟨b2, ?_, r2, r3, r4⟩
        have : b ≠ b2 := fun z => by subst z; exact q2 r4
        omega
      · have q2 : lD w c t c b + w s b = lD w c t c s := Decidable.not_not.mp (of_decide_eq_false ((hI_ne (by omega) (by omega)).symm.trans q2))
        show pm_WP PT fr lo 238 (119, [some (.ref 162), some (.int (nI a)), some (.int (nI t)), some (.int (nI s)), some (.int (-1)), some (.int (nI b)), some (.int (nI (w s b)))], [], h, 198, sl) _
        refine wp_i rfl rfl rfl rfl ?_
        refine wp_i rfl rfl rfl rfl ?_
        refine wp_i rfl rfl rfl rfl ?_
        refine wp_i rfl rfl rfl rfl ?_
        refine wp_i rfl rfl rfl rfl ?_
        show pm_WP PT fr lo 238 (67, [some (.ref 162), some (.int (nI a)), some (.int (nI t)), some (.int (nI s)), some (.int (nI b)), some (.int (nI b + 1)), some (.int (nI (w s b)))], [], h, 198, sl) _
        refine wp_i rfl rfl rfl rfl ?_
        refine wp_i rfl rfl rfl rfl ?_
        show pm_WP PT fr lo 238 (70, [some (.ref 162), some (.int (nI a)), some (.int (nI t)), some (.int (nI s)), some (.int (nI b)), some (.int (nI b + 1)), some (.int (nI (w s b)))], [.ref 162, .int (nI b + 1)], h, 198, sl) _
        refine wp_gfm rfl rfl h3 ?_
        show pm_WP PT fr lo 238 (73, [some (.ref 162), some (.int (nI a)), some (.int (nI t)), some (.int (nI s)), some (.int (nI b)), some (.int (nI b + 1)), some (.int (nI (w s b)))], [.int (nI c), .int (nI b + 1)], h, 198, sl) _
        refine wp_icmp (c := .ge) (off := 61) (t := 134) rfl rfl (fun q3 => ?_) (fun q3 => ?_)
        · show pm_WP PT fr lo 238 (134, [some (.ref 162), some (.int (nI a)), some (.int (nI t)), some (.int (nI s)), some (.int (nI b)), some (.int (nI b + 1)), some (.int (nI (w s b)))], [], h, 198, sl) _
          exact kk b _ _ hbc q q2
        · refine wp_i rfl rfl rfl rfl ?_
          show pm_WP PT fr lo 238 (78, [some (.ref 162), some (.int (nI a)), some (.int (nI t)), some (.int (nI s)), some (.int (nI b)), some (.int (nI b + 1)), some (.int (nI (w s b)))], [.int (nI b)], h, 198, sl) _
          refine wp_if (c := .ge) (off := 56) (t := 134) rfl rfl (fun _ => ?_) (fun q => absurd (q.symm.trans ((hI_ge (b := 0) (by omega) (by omega)).trans (decide_eq_true (by omega)))) (by decide))
          show pm_WP PT fr lo 238 (134, [some (.ref 162), some (.int (nI a)), some (.int (nI t)), some (.int (nI s)), some (.int (nI b)), some (.int (nI b + 1)), some (.int (nI (w s b)))], [], h, 198, sl) _
          exact kk b _ _ hbc q q2
theorem wy_L {h0 : pm_H} (h3 : mF h0 3 (.int (nI c))) (hc : c ≤ 6) (h39 : mF h0 39 (.ref 185)) (h11 : mF h0 11 (.ref 169)) (h2 : mF h0 2 (.ref 163)) (hR : h0 169 = .inl (0, 36, .inl rd)) (hw : rdOk rd w) (hf : frOk c f0 f (lD w c t c)) (ht : t < c) (ha : a < c) (hf1 : 1 ≤ fr) (hl1 : 40 ≤ lo) (kk : ∀ h k, wyI h0 h f k → k ≤ 61 → Q (some (.int (f a)), h, 198, sl)) : ∀ (m s k : Nat) (h : pm_H) (x4 x5 x6 : Option Value), lD w c t c s ≤ m → s < c → lD w c t c s < INF → k + m ≤ 60 → wyI h0 h f k → pm_WP PT fr lo 238 (56, [some (.ref 162), some (.int (nI a)), some (.int (nI t)), some (.int (nI s)), x4, x5, x6], [], h, 198, sl) Q := by
  intro m
  induction m with
  | zero =>
    intro s k h x4 x5 x6 hm hs hi hk hq
    by_cases z : s = t
    · subst z
      obtain ⟨d, m0, m1, -, m4⟩ := id hq
      have p39 := dD_mF d rfl h39
      refine wp_i rfl rfl rfl rfl ?_
      refine wp_i rfl rfl rfl rfl ?_
      show pm_WP PT fr lo 238 (58, [some (.ref 162), some (.int (nI a)), some (.int (nI s)), some (.int (nI s)), x4, x5, x6], [.int (nI s), .int (nI s)], h, 198, sl) _
      refine wp_icmp (c := .eq) (off := 88) (t := 146) rfl rfl (fun _ => ?_) (fun q => absurd (q.symm.trans ((hI_eq (by omega) (by omega)).trans (decide_eq_true rfl))) (by decide))
      refine wp_i rfl rfl rfl rfl ?_
      show pm_WP PT fr lo 238 (147, [some (.ref 162), some (.int (nI a)), some (.int (nI s)), some (.int (nI s)), x4, x5, x6], [.ref 162], h, 198, sl) _
      refine wp_gfm rfl rfl p39 ?_
      refine wp_i rfl rfl rfl rfl ?_
      show pm_WP PT fr lo 238 (151, [some (.ref 162), some (.int (nI a)), some (.int (nI s)), some (.int (nI s)), x4, x5, x6], [.int (nI a), .ref 185], h, 198, sl) _
      refine wp_iam rfl m4 (hI_in (by omega) (by omega)) (by decide) ?_
      rw [nI_clamp (by omega)]
      show pm_WP PT fr lo 238 (152, [some (.ref 162), some (.int (nI a)), some (.int (nI s)), some (.int (nI s)), x4, x5, x6], [.int (f a)], h, 198, sl) _
      exact wp_iret rfl rfl (kk h k hq (by omega))
    · obtain ⟨b, q1, q2, q3⟩ := lD_eqw (w := w) (n := c) (t := t) hs z hi
      omega
  | succ m ih =>
    intro s k h x4 x5 x6 hm hs hi hk hq
    obtain ⟨d, m0, m1, ⟨R, m3⟩, m4⟩ := id hq
    have p39 := dD_mF d rfl h39
    by_cases z : s = t
    · subst z
      refine wp_i rfl rfl rfl rfl ?_
      refine wp_i rfl rfl rfl rfl ?_
      show pm_WP PT fr lo 238 (58, [some (.ref 162), some (.int (nI a)), some (.int (nI s)), some (.int (nI s)), x4, x5, x6], [.int (nI s), .int (nI s)], h, 198, sl) _
      refine wp_icmp (c := .eq) (off := 88) (t := 146) rfl rfl (fun _ => ?_) (fun q => absurd (q.symm.trans ((hI_eq (by omega) (by omega)).trans (decide_eq_true rfl))) (by decide))
      refine wp_i rfl rfl rfl rfl ?_
      show pm_WP PT fr lo 238 (147, [some (.ref 162), some (.int (nI a)), some (.int (nI s)), some (.int (nI s)), x4, x5, x6], [.ref 162], h, 198, sl) _
      refine wp_gfm rfl rfl p39 ?_
      refine wp_i rfl rfl rfl rfl ?_
      show pm_WP PT fr lo 238 (151, [some (.ref 162), some (.int (nI a)), some (.int (nI s)), some (.int (nI s)), x4, x5, x6], [.int (nI a), .ref 185], h, 198, sl) _
      refine wp_iam rfl m4 (hI_in (by omega) (by omega)) (by decide) ?_
      rw [nI_clamp (by omega)]
      show pm_WP PT fr lo 238 (152, [some (.ref 162), some (.int (nI a)), some (.int (nI s)), some (.int (nI s)), x4, x5, x6], [.int (f a)], h, 198, sl) _
      exact wp_iret rfl rfl (kk h k hq (by omega))
    · have p3 := dD_mF d rfl h3
      have p11 := dD_mF d rfl h11
      have p2 := dD_mF d rfl h2
      have pR := (d.1 169 (by decide) rfl).trans hR
      obtain ⟨b0, q1, q2, q3⟩ := lD_eqw (w := w) (n := c) (t := t) hs z hi
      refine wp_i rfl rfl rfl rfl ?_
      refine wp_i rfl rfl rfl rfl ?_
      show pm_WP PT fr lo 238 (58, [some (.ref 162), some (.int (nI a)), some (.int (nI t)), some (.int (nI s)), x4, x5, x6], [.int (nI t), .int (nI s)], h, 198, sl) _
      refine wp_icmp (c := .eq) (off := 88) (t := 146) rfl rfl (fun q => absurd (q.symm.trans ((hI_eq (by omega) (by omega)).trans (decide_eq_false z))) (by decide)) (fun _ => ?_)
      refine wp_i rfl rfl rfl rfl ?_
      refine wp_i rfl rfl rfl rfl ?_
      refine wp_i rfl rfl rfl rfl ?_
      refine wp_i rfl rfl rfl rfl ?_
      show pm_WP PT fr lo 238 (67, [some (.ref 162), some (.int (nI a)), some (.int (nI t)), some (.int (nI s)), some (.int (-1)), some (.int 0), x6], [], h, 198, sl) _
      refine wy_S p3 hc p39 p11 pR hw m4 hf hs (fun b y5 y6 r1 r2 r3 => ?_) c 0 x6 (by omega) ⟨b0, by omega, q1, q2, q3⟩
      refine wp_i rfl rfl rfl rfl ?_
      refine wp_i rfl rfl rfl rfl ?_
      refine wp_i rfl rfl rfl rfl ?_
      refine wp_i rfl rfl rfl rfl ?_
      refine wp_i rfl rfl rfl rfl ?_
      show pm_WP PT fr lo 238 (140, [some (.ref 162), some (.int (nI a)), some (.int (nI t)), some (.int (nI b)), some (.int (nI b)), y5, y6], [.long ((nI b)).toInt64, .ref 162], h, 198, sl) _
      refine wp_callM (t := 167) (As := [.long ((nI b)).toInt64]) (rest := []) (mx := 3) rfl rfl rfl rfl (Nat.le_of_ble_eq_true rfl) (Nat.le_of_ble_eq_true rfl) hf1 (by omega) rfl (mF_obj m1) (wp_mono (hd_enters (nI b).toInt64 m1 (by omega) p2 m3) ?_)
      rintro _ rfl
      show pm_WP PT fr lo 238 (143, [some (.ref 162), some (.int (nI a)), some (.int (nI t)), some (.int (nI b)), some (.int (nI b)), y5, y6], [], (mset (lset h 163 128 (vp_updL R k (nI b).toInt64)) 1 (.int (nI (k + 1)))), 198, sl) _
      refine wp_i rfl rfl rfl rfl ?_
      show pm_WP PT fr lo 238 (56, [some (.ref 162), some (.int (nI a)), some (.int (nI t)), some (.int (nI b)), some (.int (nI b)), y5, y6], [], (mset (lset h 163 128 (vp_updL R k (nI b).toInt64)) 1 (.int (nI (k + 1)))), 198, sl) _
      exact ih b (k + 1) _ _ _ _ (by omega) r1 (by omega) (by omega) (wyI_en (R := R) hq)
theorem hm_way (hI : mInv h) (x y : Int32) (hf : 100 ≤ fr) (hl : 4000 ≤ lo) : pm_WP PT fr lo 238 (0, pm_l0 [.ref 162, .int x, .int y] 7, [], h, 198, sl) (mPost anInt h sl) := by
  obtain ⟨hh, hq⟩ := id hI
  obtain ⟨x0, h0, -⟩ := ty_fld hh (g := 0) rfl
  obtain ⟨x1, h1, -⟩ := ty_fld hh (g := 1) rfl
  obtain ⟨c, h3, hc⟩ := ty_nat hh (g := 3) (u := 6) rfl (by decide)
  have h2 := ty_ref hh (g := 2) (p := 163) rfl
  have h39 := ty_ref hh (g := 39) (p := 185) rfl
  have h11 := ty_ref hh (g := 11) (p := 169) rfl
  obtain ⟨rd, w, hR, hw⟩ := ty_rd hh
  obtain ⟨f0, hF, tF⟩ := ty_far hh
  obtain ⟨R, hL⟩ := ty_lar hh
  refine wp_i rfl rfl rfl rfl ?_
  refine wp_i rfl rfl rfl rfl ?_
  show pm_WP PT fr lo 238 (2, [some (.ref 162), some (.int x), some (.int y), none, none, none, none], [.int 0, .ref 162], h, 198, sl) _
  refine wp_pfm rfl rfl rfl (by decide) h0 ?_
  refine wp_i rfl rfl rfl rfl ?_
  refine wp_i rfl rfl rfl rfl ?_
  show pm_WP PT fr lo 238 (7, [some (.ref 162), some (.int x), some (.int y), none, none, none, none], [.int x, .ref 162], (mset h 0 (.int 0)), 198, sl) _
  refine wp_callM (t := 168) (As := [.int x]) (rest := []) (mx := 2) rfl rfl rfl rfl (Nat.le_of_ble_eq_true rfl) (Nat.le_of_ble_eq_true rfl) (by omega) (by omega) rfl (mF_obj (mF_self h0)) (wp_mono (hd_isCourt (c := c) x (mF_ne (by decide) h3) (by omega) (by omega)) ?_)
  rintro _ rfl
  cases b1 : in_b x.toInt64 0 (nI c - 1).toInt64 with
  | false =>
    show pm_WP PT fr lo 238 (10, [some (.ref 162), some (.int x), some (.int y), none, none, none, none], [.int 0], (mset h 0 (.int 0)), 198, sl) _
    refine wp_i rfl rfl rfl rfl ?_
    refine wp_i rfl rfl rfl rfl ?_
    show pm_WP PT fr lo 238 (22, [some (.ref 162), some (.int x), some (.int y), none, none, none, none], [.int (-1)], (mset h 0 (.int 0)), 198, sl) _
    exact wp_iret rfl rfl (post0 hI h0 ⟨_, rfl⟩)
  | true =>
    show pm_WP PT fr lo 238 (10, [some (.ref 162), some (.int x), some (.int y), none, none, none, none], [.int 1], (mset h 0 (.int 0)), 198, sl) _
    refine wp_i rfl rfl rfl rfl ?_
    refine wp_i rfl rfl rfl rfl ?_
    refine wp_i rfl rfl rfl rfl ?_
    show pm_WP PT fr lo 238 (15, [some (.ref 162), some (.int x), some (.int y), none, none, none, none], [.int y, .ref 162], (mset h 0 (.int 0)), 198, sl) _
    refine wp_callM (t := 168) (As := [.int y]) (rest := []) (mx := 2) rfl rfl rfl rfl (Nat.le_of_ble_eq_true rfl) (Nat.le_of_ble_eq_true rfl) (by omega) (by omega) rfl (mF_obj (mF_self h0)) (wp_mono (hd_isCourt (c := c) y (mF_ne (by decide) h3) (by omega) (by omega)) ?_)
    rintro _ rfl
    cases b2 : in_b y.toInt64 0 (nI c - 1).toInt64 with
    | false =>
      show pm_WP PT fr lo 238 (18, [some (.ref 162), some (.int x), some (.int y), none, none, none, none], [.int 0], (mset h 0 (.int 0)), 198, sl) _
      refine wp_i rfl rfl rfl rfl ?_
      refine wp_i rfl rfl rfl rfl ?_
      show pm_WP PT fr lo 238 (22, [some (.ref 162), some (.int x), some (.int y), none, none, none, none], [.int (-1)], (mset h 0 (.int 0)), 198, sl) _
      exact wp_iret rfl rfl (post0 hI h0 ⟨_, rfl⟩)
    | true =>
      show pm_WP PT fr lo 238 (18, [some (.ref 162), some (.int x), some (.int y), none, none, none, none], [.int 1], (mset h 0 (.int 0)), 198, sl) _
      refine wp_i rfl rfl rfl rfl ?_
      obtain ⟨a, rfl, ha⟩ := isC_iv hc b1
      obtain ⟨t, rfl, ht⟩ := isC_iv hc b2
      show pm_WP PT fr lo 238 (23, [some (.ref 162), some (.int (nI a)), some (.int (nI t)), none, none, none, none], [], (mset h 0 (.int 0)), 198, sl) _
      refine wp_i rfl rfl rfl rfl ?_
      refine wp_i rfl rfl rfl rfl ?_
      show pm_WP PT fr lo 238 (25, [some (.ref 162), some (.int (nI a)), some (.int (nI t)), none, none, none, none], [.int (nI t), .ref 162], (mset h 0 (.int 0)), 198, sl) _
      refine wp_callM (t := 237) (As := [.int (nI t)]) (rest := []) (mx := 6) rfl rfl rfl rfl (Nat.le_of_ble_eq_true rfl) (Nat.le_of_ble_eq_true rfl) (by omega) (by omega) rfl (mF_obj (mF_self h0)) (wp_mono (hd_laysFar (w := w) (mF_ne (by decide) h3) hc (mF_ne (by decide) h39) (mF_ne (by decide) h11) (mset_arr (by decide) hR) hw (mset_arr (by decide) hF) (by omega) (by omega) (by omega)) ?_)
      rintro _ ⟨f, rfl, hf2⟩
      have tf := far_ty tF hf2
      obtain ⟨ea, la⟩ := hf2.1 a ha
      have hI0 := INF_lt
      refine wp_i rfl rfl rfl rfl ?_
      show pm_WP PT fr lo 238 (29, [some (.ref 162), some (.int (nI a)), some (.int (nI t)), none, none, none, none], [.ref 162], (aset (mset h 0 (.int 0)) 185 6 f), 198, sl) _
      refine wp_gfm rfl rfl (mF_as (by decide) (mF_ne (by decide) h39)) ?_
      refine wp_i rfl rfl rfl rfl ?_
      show pm_WP PT fr lo 238 (33, [some (.ref 162), some (.int (nI a)), some (.int (nI t)), none, none, none, none], [.int (nI a), .ref 185], (aset (mset h 0 (.int 0)) 185 6 f), 198, sl) _
      refine wp_iam rfl (aset_self _ _ _ _) (hI_in (by omega) (by omega)) (by decide) ?_
      rw [nI_clamp (by omega), ea]
      show pm_WP PT fr lo 238 (34, [some (.ref 162), some (.int (nI a)), some (.int (nI t)), none, none, none, none], [.int (nI (lD w c t c a))], (aset (mset h 0 (.int 0)) 185 6 f), 198, sl) _
      refine wp_i rfl rfl rfl rfl ?_
      show pm_WP PT fr lo 238 (37, [some (.ref 162), some (.int (nI a)), some (.int (nI t)), none, none, none, none], [.int 1000000, .int (nI (lD w c t c a))], (aset (mset h 0 (.int 0)) 185 6 f), 198, sl) _
      refine wp_icmp (c := .lt) (off := 6) (t := 43) rfl rfl (fun q => ?_) (fun q => ?_)
      · have q : lD w c t c a < INF := of_decide_eq_true ((hI_lt (b := 1000000) (by omega) (by omega)).symm.trans q)
        refine wp_i rfl rfl rfl rfl ?_
        refine wp_i rfl rfl rfl rfl ?_
        show pm_WP PT fr lo 238 (45, [some (.ref 162), some (.int (nI a)), some (.int (nI t)), none, none, none, none], [.int 0, .ref 162], (aset (mset h 0 (.int 0)) 185 6 f), 198, sl) _
        refine wp_pfm rfl rfl rfl (by decide) (mF_as (by decide) (mF_ne (by decide) h1)) ?_
        refine wp_i rfl rfl rfl rfl ?_
        refine wp_i rfl rfl rfl rfl ?_
        refine wp_i rfl rfl rfl rfl ?_
        refine wp_i rfl rfl rfl rfl ?_
        refine wp_i rfl rfl rfl rfl ?_
        have w0 : wyI h (mset (aset (mset h 0 (.int 0)) 185 6 f) 1 (.int 0)) f 0 := ⟨dD_tr (dD_tr (dD_set rfl) (dD_arr rfl (by decide))) (dD_set rfl), mF_ne (by decide) (mF_as (by decide) (mF_self h0)), mF_self (mF_as (by decide) (mF_ne (by decide) h1)), ⟨R, by rw [mset_ne (by decide), aset_nei (by decide), mset_ne (by decide)]; exact hL⟩, mset_arr (by decide) (aset_self _ _ _ _)⟩
        generalize (mset (aset (mset h 0 (.int 0)) 185 6 f) 1 (.int 0)) = hg at w0 ⊢
        obtain ⟨R2, m3⟩ := id w0.2.2.2.1
        show pm_WP PT fr lo 238 (53, [some (.ref 162), some (.int (nI a)), some (.int (nI t)), some (.int (nI a)), none, none, none], [.long ((nI a)).toInt64, .ref 162], hg, 198, sl) _
        refine wp_callM (t := 167) (As := [.long ((nI a)).toInt64]) (rest := []) (mx := 3) rfl rfl rfl rfl (Nat.le_of_ble_eq_true rfl) (Nat.le_of_ble_eq_true rfl) (by omega) (by omega) rfl (mF_obj w0.2.2.1) (wp_mono (hd_enters (nI a).toInt64 w0.2.2.1 (by omega) (dD_mF w0.1 rfl h2) m3) ?_)
        rintro _ rfl
        show pm_WP PT fr lo 238 (56, [some (.ref 162), some (.int (nI a)), some (.int (nI t)), some (.int (nI a)), none, none, none], [], (mset (lset hg 163 128 (vp_updL R2 0 (nI a).toInt64)) 1 (.int (nI (0 + 1)))), 198, sl) _
        have hb := lD_bd (w := w) (n := c) (t := t) (fun i j hi hj => (hw i j (by omega) (by omega)).2) c a ha
        exact wy_L h3 hc h39 h11 h2 hR hw hf2 ht ha (by omega) (by omega) (fun h2 k q1 q2 => wyP hI q1 (by omega) tf ⟨_, rfl⟩) 54 a (0 + 1) _ none none none (by omega) ha q (by omega) (wyI_en (R := R2) w0)
      · refine wp_i rfl rfl rfl rfl ?_
        show pm_WP PT fr lo 238 (42, [some (.ref 162), some (.int (nI a)), some (.int (nI t)), none, none, none, none], [.int (-2)], (aset (mset h 0 (.int 0)) 185 6 f), 198, sl) _
        obtain ⟨k1, h1, lk⟩ := ty_nat hh (g := 1) (u := 100) rfl (by decide)
        exact wp_iret rfl rfl (wyP hI ⟨dD_tr (dD_set rfl) (dD_arr rfl (by decide)), mF_as (by decide) (mF_self h0), mF_as (by decide) (mF_ne (by decide) h1), ⟨R, by rw [aset_nei (by decide), mset_ne (by decide)]; exact hL⟩, aset_self _ _ _ _⟩ lk tf ⟨_, rfl⟩)
end WAY
end MG70farx3
end MH69rxs11x1
section MH69rxs11x2
section MG74alivex0
/-! alive, by hand -/
section ALV
variable {fr lo sl : Nat} {h : pm_H} {Q : pm_Rs → Prop}
theorem wp_ldiv {k pc : Nat} {L : pm_L} {r : List Value} {x y : Int64} (hi : pm_ins PT k pc = some (.ldiv, 1)) (hy : ¬ y = 0) (kk : pm_WP PT fr lo k (pc + 1, L, .long (x / y) :: r, h, 198, sl) Q) : pm_WP PT fr lo k (pc, L, .long y :: .long x :: r, h, 198, sl) Q := by
  refine wp_i hi rfl rfl ?_ kk
  exact if_neg hy
theorem in10 {x : Int32} (q : in_b x.toInt64 0 10 = true) : ∃ j, x = nI j ∧ j ≤ 10 := by
  unfold in_b at q
  rw [Bool.and_eq_true] at q
  have e1 : ¬ x.toInt64 < 0 := by simpa using q.1
  have e2 : ¬ (10 : Int64) < x.toInt64 := by simpa using q.2
  rw [Int64.lt_iff_toInt_lt, Int32.toInt_toInt64] at e1
  rw [Int64.lt_iff_toInt_lt, Int32.toInt_toInt64] at e2
  have n1 : (0 : Int64).toInt = 0 := by decide
  have n2 : (10 : Int64).toInt = 10 := by decide
  rw [n1] at e1
  rw [n2] at e2
  obtain ⟨j, rfl, hj, ej⟩ := hI_of (show 0 ≤ x.toInt by omega)
  exact ⟨j, rfl, by omega⟩
theorem sub10 : ∀ n : Nat, n ≤ 10 → (((10 : Int32) - nI n).toInt64).toInt = 10 - (n : Int) := by
  intro n hn
  rw [Int32.toInt_toInt64]
  have : ∀ n : Nat, n ≤ 10 → ((10 : Int32) - nI n).toInt = 10 - (n : Int) := by decide
  exact this n hn
theorem mul64 {a b : Int64} (h1 : 0 ≤ a.toInt) (h2 : a.toInt ≤ 1000000000000) (h3 : 0 ≤ b.toInt) (h4 : b.toInt ≤ 10) : (a * b).toInt = a.toInt * b.toInt := by
  have l1 : 0 ≤ a.toInt * b.toInt := Int.mul_nonneg h1 h3
  have l2 : a.toInt * b.toInt ≤ 1000000000000 * 10 := Int.mul_le_mul h2 h4 h3 (by decide)
  rw [Int64.toInt_mul]
  exact Int.bmod_eq_of_le (by omega) (by omega)
/-- after i factors -/
def alP (i : Nat) (u d : Int64) : Prop := 0 ≤ u.toInt ∧ u.toInt ≤ d.toInt ∧ 1 ≤ d.toInt ∧ d.toInt ≤ (10 : Int) ^ i
theorem alP_up {i n : Nat} {u d : Int64} (hi : i < 12) (hn : n ≤ 10) (q : alP i u d) : alP (i + 1) (u * ((10 : Int32) - nI n).toInt64) (d * 10) := by
  obtain ⟨q1, q2, q3, q4⟩ := q
  have hp : (10 : Int) ^ i ≤ 1000000000000 := by
    have : ∀ i : Nat, i < 12 → (10 : Int) ^ i ≤ 1000000000000 := by decide
    exact this i hi
  have e10 : (10 : Int64).toInt = 10 := by decide
  have s := sub10 n hn
  have m1 := mul64 (a := u) (b := ((10 : Int32) - nI n).toInt64) q1 (by omega) (by rw [s]; omega) (by rw [s]; omega)
  have m2 := mul64 (a := d) (b := 10) (by omega) (by omega) (by rw [e10]; decide) (by rw [e10]; decide)
  rw [s] at m1
  rw [e10] at m2
  have l1 : u.toInt * (10 - (n : Int)) ≤ d.toInt * 10 := Int.mul_le_mul q2 (by omega) (by omega) (by omega)
  have l0 : 0 ≤ u.toInt * (10 - (n : Int)) := Int.mul_nonneg q1 (by omega)
  refine ⟨by rw [m1]; exact l0, by rw [m1, m2]; exact l1, by rw [m2]; omega, ?_⟩
  rw [m2, Int.pow_succ]
  exact Int.mul_le_mul_of_nonneg_right q4 (by decide)
theorem al_L {a t n D : Nat} {f : Nat → Int32} (h39 : mF h 39 (.ref 185)) (hF : h 185 = .inl (0, 6, .inl f)) (ha : a < 6) (ea : f a = nI D) (hD : D ≤ 12) (hn : n ≤ 10) (kk : ∀ u d, alP D u d → pm_WP PT fr lo 240 (98, [some (.ref 162), some (.int (nI a)), some (.int (nI t)), some (.int (nI n)), some (.long u), none, some (.long d), none, some (.int (nI D)), none], [], h, 198, sl) Q) : ∀ (m i : Nat) (u d : Int64), i + m = D → alP i u d → pm_WP PT fr lo 240 (63, [some (.ref 162), some (.int (nI a)), some (.int (nI t)), some (.int (nI n)), some (.long u), none, some (.long d), none, some (.int (nI i)), none], [], h, 198, sl) Q := by
  intro m
  induction m with
  | zero =>
    intro i u d hi q
    obtain rfl : i = D := by omega
    refine wp_i rfl rfl rfl rfl ?_
    refine wp_i rfl rfl rfl rfl ?_
    show pm_WP PT fr lo 240 (66, [some (.ref 162), some (.int (nI a)), some (.int (nI t)), some (.int (nI n)), some (.long u), none, some (.long d), none, some (.int (nI i)), none], [.ref 162, .int (nI i)], h, 198, sl) _
    refine wp_gfm rfl rfl h39 ?_
    refine wp_i rfl rfl rfl rfl ?_
    show pm_WP PT fr lo 240 (70, [some (.ref 162), some (.int (nI a)), some (.int (nI t)), some (.int (nI n)), some (.long u), none, some (.long d), none, some (.int (nI i)), none], [.int (nI a), .ref 185, .int (nI i)], h, 198, sl) _
    refine wp_iam rfl hF (hI_in (by omega) (by omega)) (by decide) ?_
    rw [nI_clamp (by omega), ea]
    show pm_WP PT fr lo 240 (71, [some (.ref 162), some (.int (nI a)), some (.int (nI t)), some (.int (nI n)), some (.long u), none, some (.long d), none, some (.int (nI i)), none], [.int (nI i), .int (nI i)], h, 198, sl) _
    show pm_WP PT fr lo 240 (71, [some (.ref 162), some (.int (nI a)), some (.int (nI t)), some (.int (nI n)), some (.long u), none, some (.long d), none, some (.int (nI i)), none], [.int (nI i), .int (nI i)], h, 198, sl) _
    refine wp_icmp (c := .ge) (off := 27) (t := 98) rfl rfl (fun _ => ?_) (fun q => absurd (q.symm.trans ((hI_ge (by omega) (by omega)).trans (decide_eq_true (by omega)))) (by decide))
    show pm_WP PT fr lo 240 (98, [some (.ref 162), some (.int (nI a)), some (.int (nI t)), some (.int (nI n)), some (.long u), none, some (.long d), none, some (.int (nI i)), none], [], h, 198, sl) _
    exact kk u d q
  | succ m ih =>
    intro i u d hi q
    refine wp_i rfl rfl rfl rfl ?_
    refine wp_i rfl rfl rfl rfl ?_
    show pm_WP PT fr lo 240 (66, [some (.ref 162), some (.int (nI a)), some (.int (nI t)), some (.int (nI n)), some (.long u), none, some (.long d), none, some (.int (nI i)), none], [.ref 162, .int (nI i)], h, 198, sl) _
    refine wp_gfm rfl rfl h39 ?_
    refine wp_i rfl rfl rfl rfl ?_
    show pm_WP PT fr lo 240 (70, [some (.ref 162), some (.int (nI a)), some (.int (nI t)), some (.int (nI n)), some (.long u), none, some (.long d), none, some (.int (nI i)), none], [.int (nI a), .ref 185, .int (nI i)], h, 198, sl) _
    refine wp_iam rfl hF (hI_in (by omega) (by omega)) (by decide) ?_
    rw [nI_clamp (by omega), ea]
    show pm_WP PT fr lo 240 (71, [some (.ref 162), some (.int (nI a)), some (.int (nI t)), some (.int (nI n)), some (.long u), none, some (.long d), none, some (.int (nI i)), none], [.int (nI D), .int (nI i)], h, 198, sl) _
    show pm_WP PT fr lo 240 (71, [some (.ref 162), some (.int (nI a)), some (.int (nI t)), some (.int (nI n)), some (.long u), none, some (.long d), none, some (.int (nI i)), none], [.int (nI D), .int (nI i)], h, 198, sl) _
    refine wp_icmp (c := .ge) (off := 27) (t := 98) rfl rfl (fun q => absurd (q.symm.trans ((hI_ge (by omega) (by omega)).trans (decide_eq_false (by omega)))) (by decide)) (fun _ => ?_)
    refine wp_i rfl rfl rfl rfl ?_
    refine wp_i rfl rfl rfl rfl ?_
    refine wp_i rfl rfl rfl rfl ?_
    refine wp_i rfl rfl rfl rfl ?_
    refine wp_i rfl rfl rfl rfl ?_
    refine wp_i rfl rfl rfl rfl ?_
    refine wp_i rfl rfl rfl rfl ?_
    refine wp_i rfl rfl rfl rfl ?_
    refine wp_i rfl rfl rfl rfl ?_
    refine wp_i rfl rfl rfl rfl ?_
    refine wp_i rfl rfl rfl rfl ?_
    refine wp_i rfl rfl rfl rfl ?_
    refine wp_i rfl rfl rfl rfl ?_
    show pm_WP PT fr lo 240 (63, [some (.ref 162), some (.int (nI a)), some (.int (nI t)), some (.int (nI n)), some (.long (u * ((10 - (nI n))).toInt64)), none, some (.long (d * 10)), none, some (.int ((nI i) + 1)), none], [], h, 198, sl) _
    rw [nI_1 i]
    exact ih (i + 1) _ _ (by omega) (alP_up (by omega) hn q)
theorem hm_alive (hI : mInv h) (x y z : Int32) (hf : 100 ≤ fr) (hl : 4000 ≤ lo) : pm_WP PT fr lo 240 (0, pm_l0 [.ref 162, .int x, .int y, .int z] 10, [], h, 198, sl) (mPost anInt h sl) := by
  obtain ⟨hh, hq⟩ := id hI
  obtain ⟨x0, h0, -⟩ := ty_fld hh (g := 0) rfl
  obtain ⟨k1, h1, lk⟩ := ty_nat hh (g := 1) (u := 100) rfl (by decide)
  obtain ⟨c, h3, hc⟩ := ty_nat hh (g := 3) (u := 6) rfl (by decide)
  have h2 := ty_ref hh (g := 2) (p := 163) rfl
  have h39 := ty_ref hh (g := 39) (p := 185) rfl
  have h11 := ty_ref hh (g := 11) (p := 169) rfl
  obtain ⟨rd, w, hR, hw⟩ := ty_rd hh
  obtain ⟨f0, hF, tF⟩ := ty_far hh
  obtain ⟨R, hL⟩ := ty_lar hh
  refine wp_i rfl rfl rfl rfl ?_
  refine wp_i rfl rfl rfl rfl ?_
  show pm_WP PT fr lo 240 (2, [some (.ref 162), some (.int x), some (.int y), some (.int z), none, none, none, none, none, none], [.int 0, .ref 162], h, 198, sl) _
  refine wp_pfm rfl rfl rfl (by decide) h0 ?_
  refine wp_i rfl rfl rfl rfl ?_
  refine wp_i rfl rfl rfl rfl ?_
  show pm_WP PT fr lo 240 (7, [some (.ref 162), some (.int x), some (.int y), some (.int z), none, none, none, none, none, none], [.int x, .ref 162], (mset h 0 (.int 0)), 198, sl) _
  refine wp_callM (t := 168) (As := [.int x]) (rest := []) (mx := 2) rfl rfl rfl rfl (Nat.le_of_ble_eq_true rfl) (Nat.le_of_ble_eq_true rfl) (by omega) (by omega) rfl (mF_obj (mF_self h0)) (wp_mono (hd_isCourt (c := c) x (mF_ne (by decide) h3) (by omega) (by omega)) ?_)
  rintro _ rfl
  cases b1 : in_b x.toInt64 0 (nI c - 1).toInt64 with
  | false =>
    show pm_WP PT fr lo 240 (10, [some (.ref 162), some (.int x), some (.int y), some (.int z), none, none, none, none, none, none], [.int 0], (mset h 0 (.int 0)), 198, sl) _
    refine wp_i rfl rfl rfl rfl ?_
    refine wp_i rfl rfl rfl rfl ?_
    show pm_WP PT fr lo 240 (34, [some (.ref 162), some (.int x), some (.int y), some (.int z), none, none, none, none, none, none], [.int (-1)], (mset h 0 (.int 0)), 198, sl) _
    exact wp_iret rfl rfl (post0 hI h0 ⟨_, rfl⟩)
  | true =>
    show pm_WP PT fr lo 240 (10, [some (.ref 162), some (.int x), some (.int y), some (.int z), none, none, none, none, none, none], [.int 1], (mset h 0 (.int 0)), 198, sl) _
    refine wp_i rfl rfl rfl rfl ?_
    refine wp_i rfl rfl rfl rfl ?_
    refine wp_i rfl rfl rfl rfl ?_
    show pm_WP PT fr lo 240 (15, [some (.ref 162), some (.int x), some (.int y), some (.int z), none, none, none, none, none, none], [.int y, .ref 162], (mset h 0 (.int 0)), 198, sl) _
    refine wp_callM (t := 168) (As := [.int y]) (rest := []) (mx := 2) rfl rfl rfl rfl (Nat.le_of_ble_eq_true rfl) (Nat.le_of_ble_eq_true rfl) (by omega) (by omega) rfl (mF_obj (mF_self h0)) (wp_mono (hd_isCourt (c := c) y (mF_ne (by decide) h3) (by omega) (by omega)) ?_)
    rintro _ rfl
    cases b2 : in_b y.toInt64 0 (nI c - 1).toInt64 with
    | false =>
      show pm_WP PT fr lo 240 (18, [some (.ref 162), some (.int x), some (.int y), some (.int z), none, none, none, none, none, none], [.int 0], (mset h 0 (.int 0)), 198, sl) _
      refine wp_i rfl rfl rfl rfl ?_
      refine wp_i rfl rfl rfl rfl ?_
      show pm_WP PT fr lo 240 (34, [some (.ref 162), some (.int x), some (.int y), some (.int z), none, none, none, none, none, none], [.int (-1)], (mset h 0 (.int 0)), 198, sl) _
      exact wp_iret rfl rfl (post0 hI h0 ⟨_, rfl⟩)
    | true =>
      show pm_WP PT fr lo 240 (18, [some (.ref 162), some (.int x), some (.int y), some (.int z), none, none, none, none, none, none], [.int 1], (mset h 0 (.int 0)), 198, sl) _
      refine wp_i rfl rfl rfl rfl ?_
      refine wp_i rfl rfl rfl rfl ?_
      refine wp_i rfl rfl rfl rfl ?_
      refine wp_i rfl rfl rfl rfl ?_
      refine wp_i rfl rfl rfl rfl ?_
      show pm_WP PT fr lo 240 (27, [some (.ref 162), some (.int x), some (.int y), some (.int z), none, none, none, none, none, none], [.long 10, .long 0, .long (z).toInt64], (mset h 0 (.int 0)), 198, sl) _
      refine wp_callS (t := 163) (As := [.long (z).toInt64, .long 0, .long 10]) (rest := []) (mx := 6) rfl rfl rfl rfl (Nat.le_of_ble_eq_true rfl) (Nat.le_of_ble_eq_true rfl) (by omega) (by omega) (wp_mono (hd_in z.toInt64 0 10) ?_)
      rintro _ rfl
      cases b3 : in_b z.toInt64 0 10 with
      | false =>
        show pm_WP PT fr lo 240 (30, [some (.ref 162), some (.int x), some (.int y), some (.int z), none, none, none, none, none, none], [.int 0], (mset h 0 (.int 0)), 198, sl) _
        refine wp_i rfl rfl rfl rfl ?_
        refine wp_i rfl rfl rfl rfl ?_
        show pm_WP PT fr lo 240 (34, [some (.ref 162), some (.int x), some (.int y), some (.int z), none, none, none, none, none, none], [.int (-1)], (mset h 0 (.int 0)), 198, sl) _
        exact wp_iret rfl rfl (post0 hI h0 ⟨_, rfl⟩)
      | true =>
        show pm_WP PT fr lo 240 (30, [some (.ref 162), some (.int x), some (.int y), some (.int z), none, none, none, none, none, none], [.int 1], (mset h 0 (.int 0)), 198, sl) _
        refine wp_i rfl rfl rfl rfl ?_
        obtain ⟨a, rfl, ha⟩ := isC_iv hc b1
        obtain ⟨t, rfl, ht⟩ := isC_iv hc b2
        obtain ⟨n, rfl, hn⟩ := in10 b3
        show pm_WP PT fr lo 240 (35, [some (.ref 162), some (.int (nI a)), some (.int (nI t)), some (.int (nI n)), none, none, none, none, none, none], [], (mset h 0 (.int 0)), 198, sl) _
        refine wp_i rfl rfl rfl rfl ?_
        refine wp_i rfl rfl rfl rfl ?_
        show pm_WP PT fr lo 240 (37, [some (.ref 162), some (.int (nI a)), some (.int (nI t)), some (.int (nI n)), none, none, none, none, none, none], [.int (nI t), .ref 162], (mset h 0 (.int 0)), 198, sl) _
        refine wp_callM (t := 237) (As := [.int (nI t)]) (rest := []) (mx := 6) rfl rfl rfl rfl (Nat.le_of_ble_eq_true rfl) (Nat.le_of_ble_eq_true rfl) (by omega) (by omega) rfl (mF_obj (mF_self h0)) (wp_mono (hd_laysFar (w := w) (mF_ne (by decide) h3) hc (mF_ne (by decide) h39) (mF_ne (by decide) h11) (mset_arr (by decide) hR) hw (mset_arr (by decide) hF) (by omega) (by omega) (by omega)) ?_)
        rintro _ ⟨f, rfl, hf2⟩
        have tf := far_ty tF hf2
        obtain ⟨ea, la⟩ := hf2.1 a ha
        have hI0 := INF_lt
        have w1 : wyI h (aset (mset h 0 (.int 0)) 185 6 f) f k1 := ⟨dD_tr (dD_set rfl) (dD_arr rfl (by decide)), mF_as (by decide) (mF_self h0), mF_as (by decide) (mF_ne (by decide) h1), ⟨R, by rw [aset_nei (by decide), mset_ne (by decide)]; exact hL⟩, aset_self _ _ _ _⟩
        generalize (aset (mset h 0 (.int 0)) 185 6 f) = hg at w1 ⊢
        have g39 := dD_mF w1.1 rfl h39
        have g185 := w1.2.2.2.2
        refine wp_i rfl rfl rfl rfl ?_
        show pm_WP PT fr lo 240 (41, [some (.ref 162), some (.int (nI a)), some (.int (nI t)), some (.int (nI n)), none, none, none, none, none, none], [.ref 162], hg, 198, sl) _
        refine wp_gfm rfl rfl g39 ?_
        refine wp_i rfl rfl rfl rfl ?_
        show pm_WP PT fr lo 240 (45, [some (.ref 162), some (.int (nI a)), some (.int (nI t)), some (.int (nI n)), none, none, none, none, none, none], [.int (nI a), .ref 185], hg, 198, sl) _
        refine wp_iam rfl g185 (hI_in (by omega) (by omega)) (by decide) ?_
        rw [nI_clamp (by omega), ea]
        show pm_WP PT fr lo 240 (46, [some (.ref 162), some (.int (nI a)), some (.int (nI t)), some (.int (nI n)), none, none, none, none, none, none], [.int (nI (lD w c t c a))], hg, 198, sl) _
        refine wp_i rfl rfl rfl rfl ?_
        show pm_WP PT fr lo 240 (48, [some (.ref 162), some (.int (nI a)), some (.int (nI t)), some (.int (nI n)), none, none, none, none, none, none], [.int 12, .int (nI (lD w c t c a))], hg, 198, sl) _
        refine wp_icmp (c := .le) (off := 6) (t := 54) rfl rfl (fun q => ?_) (fun q => ?_)
        · have q : lD w c t c a ≤ 12 := of_decide_eq_true ((hI_le (b := 12) (by omega) (by omega)).symm.trans q)
          refine wp_i rfl rfl rfl rfl ?_
          refine wp_i rfl rfl rfl rfl ?_
          refine wp_i rfl rfl rfl rfl ?_
          refine wp_i rfl rfl rfl rfl ?_
          refine wp_i rfl rfl rfl rfl ?_
          refine wp_i rfl rfl rfl rfl ?_
          show pm_WP PT fr lo 240 (63, [some (.ref 162), some (.int (nI a)), some (.int (nI t)), some (.int (nI n)), some (.long 1), none, some (.long 1), none, some (.int 0), none], [], hg, 198, sl) _
          refine al_L g39 g185 (by omega) ea q hn (fun u d qa => ?_) (lD w c t c a) 0 1 1 (by omega) ⟨by decide, by decide, by decide, by decide⟩
          obtain ⟨a1, a2, a3, a4⟩ := qa
          have hp : (10 : Int) ^ lD w c t c a ≤ 1000000000000 := by
            have : ∀ i : Nat, i ≤ 12 → (10 : Int) ^ i ≤ 1000000000000 := by decide
            exact this _ q
          refine wp_i rfl rfl rfl rfl ?_
          refine wp_i rfl rfl rfl rfl ?_
          show pm_WP PT fr lo 240 (102, [some (.ref 162), some (.int (nI a)), some (.int (nI t)), some (.int (nI n)), some (.long u), none, some (.long d), none, some (.int (nI (lD w c t c a))), none], [.long d, .long u], hg, 198, sl) _
          refine wp_callS (t := 166) (As := [.long u, .long d]) (rest := []) (mx := 4) rfl rfl rfl rfl (Nat.le_of_ble_eq_true rfl) (Nat.le_of_ble_eq_true rfl) (by omega) (by omega) (wp_mono (hd_common 40 _ _ u d a1 (by omega) (by omega) (by omega) (by omega) (by omega)) ?_)
          rintro _ ⟨g, hg1, rfl⟩
          refine wp_i rfl rfl rfl rfl ?_
          refine wp_i rfl rfl rfl rfl ?_
          refine wp_i rfl rfl rfl rfl ?_
          show pm_WP PT fr lo 240 (109, [some (.ref 162), some (.int (nI a)), some (.int (nI t)), some (.int (nI n)), some (.long u), none, some (.long d), none, some (.long g), none], [.int 0, .ref 162], hg, 198, sl) _
          refine wp_pfm rfl rfl rfl (by decide) w1.2.2.1 ?_
          refine wp_i rfl rfl rfl rfl ?_
          refine wp_i rfl rfl rfl rfl ?_
          refine wp_i rfl rfl rfl rfl ?_
          have hgn : ¬ g = 0 := fun e => by subst e; exact absurd hg1 (by decide)
          show pm_WP PT fr lo 240 (117, [some (.ref 162), some (.int (nI a)), some (.int (nI t)), some (.int (nI n)), some (.long u), none, some (.long d), none, some (.long g), none], [.long g, .long u, .ref 162], (mset hg 1 (.int 0)), 198, sl) _
          refine wp_ldiv rfl hgn ?_
          have w2 : wyI h (mset hg 1 (.int 0)) f 0 := ⟨dD_tr w1.1 (dD_set rfl), mF_ne (by decide) w1.2.1, mF_self w1.2.2.1, ⟨_, by rw [mset_ne (by decide)]; exact w1.2.2.2.1.choose_spec⟩, mset_arr (by decide) g185⟩
          show pm_WP PT fr lo 240 (118, [some (.ref 162), some (.int (nI a)), some (.int (nI t)), some (.int (nI n)), some (.long u), none, some (.long d), none, some (.long g), none], [.long (u / g), .ref 162], (mset hg 1 (.int 0)), 198, sl) _
          generalize mset hg 1 (.int 0) = hx at w2 ⊢
          obtain ⟨R0, m0⟩ := id w2.2.2.2.1
          show pm_WP PT fr lo 240 (118, [some (.ref 162), some (.int (nI a)), some (.int (nI t)), some (.int (nI n)), some (.long u), none, some (.long d), none, some (.long g), none], [.long (u / g), .ref 162], hx, 198, sl) _
          refine wp_callM (t := 167) (As := [.long (u / g)]) (rest := []) (mx := 3) rfl rfl rfl rfl (Nat.le_of_ble_eq_true rfl) (Nat.le_of_ble_eq_true rfl) (by omega) (by omega) rfl (mF_obj w2.2.2.1) (wp_mono (hd_enters (u / g) w2.2.2.1 (by omega) (dD_mF w2.1 rfl h2) m0) ?_)
          rintro _ rfl
          have w3 : wyI h (mset (lset hx 163 128 (vp_updL R0 0 (u / g))) 1 (.int (nI (0 + 1)))) f (0 + 1) := wyI_en (R := R0) w2
          show pm_WP PT fr lo 240 (121, [some (.ref 162), some (.int (nI a)), some (.int (nI t)), some (.int (nI n)), some (.long u), none, some (.long d), none, some (.long g), none], [], (mset (lset hx 163 128 (vp_updL R0 0 (u / g))) 1 (.int (nI (0 + 1)))), 198, sl) _
          generalize (mset (lset hx 163 128 (vp_updL R0 0 (u / g))) 1 (.int (nI (0 + 1)))) = hy at w3 ⊢
          refine wp_i rfl rfl rfl rfl ?_
          refine wp_i rfl rfl rfl rfl ?_
          refine wp_i rfl rfl rfl rfl ?_
          show pm_WP PT fr lo 240 (126, [some (.ref 162), some (.int (nI a)), some (.int (nI t)), some (.int (nI n)), some (.long u), none, some (.long d), none, some (.long g), none], [.long g, .long d, .ref 162], hy, 198, sl) _
          refine wp_ldiv rfl hgn ?_
          show pm_WP PT fr lo 240 (127, [some (.ref 162), some (.int (nI a)), some (.int (nI t)), some (.int (nI n)), some (.long u), none, some (.long d), none, some (.long g), none], [.long (d / g), .ref 162], hy, 198, sl) _
          have w3b : wyI h hy f 1 := w3
          obtain ⟨R1, m1⟩ := id w3b.2.2.2.1
          show pm_WP PT fr lo 240 (127, [some (.ref 162), some (.int (nI a)), some (.int (nI t)), some (.int (nI n)), some (.long u), none, some (.long d), none, some (.long g), none], [.long (d / g), .ref 162], hy, 198, sl) _
          refine wp_callM (t := 167) (As := [.long (d / g)]) (rest := []) (mx := 3) rfl rfl rfl rfl (Nat.le_of_ble_eq_true rfl) (Nat.le_of_ble_eq_true rfl) (by omega) (by omega) rfl (mF_obj w3b.2.2.1) (wp_mono (hd_enters (d / g) w3b.2.2.1 (by omega) (dD_mF w3b.1 rfl h2) m1) ?_)
          rintro _ rfl
          have w4 : wyI h (mset (lset hy 163 128 (vp_updL R1 1 (d / g))) 1 (.int (nI (1 + 1)))) f (1 + 1) := wyI_en (R := R1) w3b
          show pm_WP PT fr lo 240 (130, [some (.ref 162), some (.int (nI a)), some (.int (nI t)), some (.int (nI n)), some (.long u), none, some (.long d), none, some (.long g), none], [], (mset (lset hy 163 128 (vp_updL R1 1 (d / g))) 1 (.int (nI (1 + 1)))), 198, sl) _
          generalize (mset (lset hy 163 128 (vp_updL R1 1 (d / g))) 1 (.int (nI (1 + 1)))) = hz at w4 ⊢
          refine wp_i rfl rfl rfl rfl ?_
          show pm_WP PT fr lo 240 (131, [some (.ref 162), some (.int (nI a)), some (.int (nI t)), some (.int (nI n)), some (.long u), none, some (.long d), none, some (.long g), none], [.int 0], hz, 198, sl) _
          exact wp_iret rfl rfl (wyP hI w4 (by omega) tf ⟨_, rfl⟩)
        · refine wp_i rfl rfl rfl rfl ?_
          show pm_WP PT fr lo 240 (53, [some (.ref 162), some (.int (nI a)), some (.int (nI t)), some (.int (nI n)), none, none, none, none, none, none], [.int (-2)], hg, 198, sl) _
          exact wp_iret rfl rfl (wyP hI w1 lk tf ⟨_, rfl⟩)
end ALV
end MG74alivex0
section MG74alivex1
/-! law, by hand -/
section LAW
variable {fr lo sl : Nat} {h : pm_H} {Q : pm_Rs → Prop}
theorem hm_va (hI : mInv h) (hf : 75 ≤ fr) (hl : 4000 ≤ lo) : pm_WP PT fr lo 257 (0, pm_l0 [.ref 162] 3, [], h, 198, sl) (fun x => ∃ (v : Int32) (h' : pm_H), x = (some (.int v), h', 198, sl) ∧ fm rxF h h' ∧ mInv h') := by
  have key := rxoVA [.ref 162] h fr lo sl ⟨⟨rfl, List.mem_singleton_self _⟩, trivial⟩ hI.1 hI.2 hf hl
  refine wp_mono key ?_
  rintro ⟨v, h', s⟩ ⟨⟨a, ha, hv⟩, e, ⟨f1, f2⟩, f3⟩
  cases List.mem_singleton.mp ha
  cases e
  obtain ⟨v⟩ | v := v
  · exact hv.elim
  · obtain ⟨x, rfl, -⟩ := av_int (a := (0, (-2147483648), 2147483647)) rfl hv
    exact ⟨x, h', rfl, f1, f3, f2⟩
def o1G (g : Nat) : Bool := Nat.beq g 1
def o3C (i : Nat) : Bool := Nat.beq i 163
theorem mInv_1 {k : Nat} {h' : pm_H} (hI : mInv h) (d : dD o3C o1G h h') (h1 : mF h' 1 (.int (nI k))) (hk : k ≤ 100) (hL : ∃ R : Nat → Int64, h' 163 = .inl (2, 128, .inr (.inl R))) : mInv h' := by
  refine ⟨dD_ty hI.1 d (fun i hi _ _ => ?_) (fun g hg b hb => ?_), rxQ_dD d rfl rfl rfl rfl rfl rfl hI.2⟩
  · have := Nat.eq_of_beq_eq_true hi
    subst this
    obtain ⟨R, e⟩ := hL
    show ac_ok (h' 163) _
    rw [e]
    exact ⟨rfl, rfl, fun j _ => al_top_ok _⟩
  · have := Nat.eq_of_beq_eq_true hg
    subst this
    cases (Option.some.inj hb : _ = b)
    exact ⟨_, h1, av_nI (by omega) (by omega) (by omega)⟩
theorem mInv_s1 (hI : mInv h) {k : Nat} (hk : k ≤ 100) : mInv (mset h 1 (.int (nI k))) := by
  obtain ⟨x1, h1, -⟩ := ty_fld hI.1 (g := 1) rfl
  obtain ⟨R, hL⟩ := ty_lar hI.1
  exact mInv_1 hI (dD_set rfl) (mF_self h1) hk ⟨R, by rw [mset_ne (by decide)]; exact hL⟩
theorem hm_enters {k : Nat} (hI : mInv h) (v : Int64) (h1 : mF h 1 (.int (nI k))) (hk : k < 100) : pm_WP PT fr lo 167 (0, pm_l0 [.ref 162, .long v] 3, [], h, 198, sl) (fun x => ∃ h' : pm_H, x = (none, h', 198, sl) ∧ mInv h' ∧ mF h' 1 (.int (nI (k + 1))) ∧ ∀ i, i < 162 → h' i = h i) := by
  obtain ⟨R, hL⟩ := ty_lar hI.1
  refine wp_mono (hd_enters v h1 (by omega) (ty_ref hI.1 (g := 2) (p := 163) rfl) hL) ?_
  rintro _ rfl
  have d : dD o3C o1G h (mset (lset h 163 128 (vp_updL R k v)) 1 (.int (nI (k + 1)))) := dD_tr (dD_lset rfl (by decide)) (dD_set rfl)
  have m1 : mF (mset (lset h 163 128 (vp_updL R k v)) 1 (.int (nI (k + 1)))) 1 (.int (nI (k + 1))) := mF_self (mF_ls (by decide) h1)
  exact ⟨_, rfl, mInv_1 hI d m1 (by omega) ⟨_, by rw [mset_ne (by decide), lset_self]⟩, m1, x_lt d (fun i hi => nb_ne (by omega))⟩
def lwC (i : Nat) : Bool := Nat.beq i 193 || Nat.beq i 174
def lwG (g : Nat) : Bool := Nat.beq g 23
/-- other code laid -/
theorem mInv_code {n dn : Nat} {h' : pm_H} {g s : Nat → Int32} (hI : mInv h) (d : dD lwC lwG h h') (h23 : mF h' 23 (.int (nI n))) (hC : h' 174 = .inl (0, 80, .inl g)) (hS : h' 193 = .inl (0, 80, .inl s)) (hn : n ≤ 80) (hd : n = 0 ∨ (dep g n = some dn ∧ 1 ≤ dn)) : mInv h' := by
  refine ⟨dD_ty hI.1 d (fun i hi _ _ => ?_) (fun k hg b hb => ?_), ?_⟩
  · unfold lwC at hi
    rw [Bool.or_eq_true] at hi
    rcases hi with hi | hi
    · have := Nat.eq_of_beq_eq_true hi
      subst this
      show ac_ok (h' 193) _
      rw [hS]
      exact ⟨rfl, rfl, fun j _ => ai_top_ok _⟩
    · have := Nat.eq_of_beq_eq_true hi
      subst this
      show ac_ok (h' 174) _
      rw [hC]
      exact ⟨rfl, rfl, fun j _ => ai_top_ok _⟩
  · have := Nat.eq_of_beq_eq_true hg
    subst this
    cases (Option.some.inj hb : _ = b)
    exact ⟨_, h23, av_nI (by omega) (by omega) (by omega)⟩
  · obtain ⟨-, ⟨c, gg, b1, b2, b3⟩, ⟨f1, r1, r2⟩, f2, r3, r4⟩ := hI.2
    exact ⟨⟨n, dn, g, h23, hC, hn, hd⟩, ⟨c, gg, dD_mF d rfl b1, dD_mF d rfl b2, b3⟩, ⟨f1, (d.1 178 (by decide) rfl).trans r1, r2⟩, f2, (d.1 196 (by decide) rfl).trans r3, r4⟩
theorem fm_lt {h h' : pm_H} (q : fm rxF h h') : ∀ i, i < 162 → h' i = h i := fun i hi => q.1 i (by
  show rxC i = true
  unfold rxC
  have : Nat.blt i 162 = true := Nat.ble_eq_true_of_le hi
  rw [this]
  rfl)
theorem lw_L {n : Nat} {f v : Int32} {cd : Nat → Int32} (h23 : mF h 23 (.int (nI n))) (h50 : mF h 50 (.ref 193)) (h21 : mF h 21 (.ref 174)) (hC : h 174 = .inl (0, 80, .inl cd)) (hn : n ≤ 80) (kk : ∀ g : Nat → Int32, (∀ j, j < n → g j = cd j) → pm_WP PT fr lo 258 (64, [some (.ref 162), some (.int f), some (.int v), some (.int (nI n)), some (.int (nI n))], [], aset h 193 80 g, 198, sl) Q) : ∀ (m k : Nat) (g : Nat → Int32), k + m = n → (∀ j, j < k → g j = cd j) → pm_WP PT fr lo 258 (35, [some (.ref 162), some (.int f), some (.int v), some (.int (nI n)), some (.int (nI k))], [], aset h 193 80 g, 198, sl) Q := by
  intro m
  induction m with
  | zero =>
    intro k g hk e1
    obtain rfl : k = n := by omega
    refine wp_i rfl rfl rfl rfl ?_
    refine wp_i rfl rfl rfl rfl ?_
    show pm_WP PT fr lo 258 (38, [some (.ref 162), some (.int f), some (.int v), some (.int (nI k)), some (.int (nI k))], [.ref 162, .int (nI k)], (aset h 193 80 g), 198, sl) _
    refine wp_gfm rfl rfl (mF_as (by decide) h23) ?_
    show pm_WP PT fr lo 258 (41, [some (.ref 162), some (.int f), some (.int v), some (.int (nI k)), some (.int (nI k))], [.int (nI k), .int (nI k)], (aset h 193 80 g), 198, sl) _
    refine wp_icmp (c := .ge) (off := 23) (t := 64) rfl rfl (fun _ => ?_) (fun q => absurd (q.symm.trans ((hI_ge (by omega) (by omega)).trans (decide_eq_true (by omega)))) (by decide))
    show pm_WP PT fr lo 258 (64, [some (.ref 162), some (.int f), some (.int v), some (.int (nI k)), some (.int (nI k))], [], (aset h 193 80 g), 198, sl) _
    exact kk g e1
  | succ m ih =>
    intro k g hk e1
    refine wp_i rfl rfl rfl rfl ?_
    refine wp_i rfl rfl rfl rfl ?_
    show pm_WP PT fr lo 258 (38, [some (.ref 162), some (.int f), some (.int v), some (.int (nI n)), some (.int (nI k))], [.ref 162, .int (nI k)], (aset h 193 80 g), 198, sl) _
    refine wp_gfm rfl rfl (mF_as (by decide) h23) ?_
    show pm_WP PT fr lo 258 (41, [some (.ref 162), some (.int f), some (.int v), some (.int (nI n)), some (.int (nI k))], [.int (nI n), .int (nI k)], (aset h 193 80 g), 198, sl) _
    refine wp_icmp (c := .ge) (off := 23) (t := 64) rfl rfl (fun q => absurd (q.symm.trans ((hI_ge (by omega) (by omega)).trans (decide_eq_false (by omega)))) (by decide)) (fun _ => ?_)
    refine wp_i rfl rfl rfl rfl ?_
    show pm_WP PT fr lo 258 (45, [some (.ref 162), some (.int f), some (.int v), some (.int (nI n)), some (.int (nI k))], [.ref 162], (aset h 193 80 g), 198, sl) _
    refine wp_gfm rfl rfl (mF_as (by decide) h50) ?_
    refine wp_i rfl rfl rfl rfl ?_
    refine wp_i rfl rfl rfl rfl ?_
    show pm_WP PT fr lo 258 (51, [some (.ref 162), some (.int f), some (.int v), some (.int (nI n)), some (.int (nI k))], [.ref 162, .int (nI k), .ref 193], (aset h 193 80 g), 198, sl) _
    refine wp_gfm rfl rfl (mF_as (by decide) h21) ?_
    refine wp_i rfl rfl rfl rfl ?_
    show pm_WP PT fr lo 258 (56, [some (.ref 162), some (.int f), some (.int v), some (.int (nI n)), some (.int (nI k))], [.int (nI k), .ref 174, .int (nI k), .ref 193], (aset h 193 80 g), 198, sl) _
    refine wp_iam rfl (aset_ne (by decide) hC) (hI_in (by omega) (by omega)) (by decide) ?_
    rw [nI_clamp (by omega)]
    show pm_WP PT fr lo 258 (57, [some (.ref 162), some (.int f), some (.int v), some (.int (nI n)), some (.int (nI k))], [.int (cd k), .int (nI k), .ref 193], (aset h 193 80 g), 198, sl) _
    show pm_WP PT fr lo 258 (57, [some (.ref 162), some (.int f), some (.int v), some (.int (nI n)), some (.int (nI k))], [.int (cd k), .int (nI k), .ref 193], (aset h 193 80 g), 198, sl) _
    refine wp_ism rfl (aset_self _ _ _ _) (hI_in (by omega) (by omega)) (by decide) ?_
    rw [nI_clamp (by omega)]
    refine wp_i rfl rfl rfl rfl ?_
    refine wp_i rfl rfl rfl rfl ?_
    show pm_WP PT fr lo 258 (35, [some (.ref 162), some (.int f), some (.int v), some (.int (nI n)), some (.int (nI k + 1))], [], (aset (aset h 193 80 g) 193 80 (upd g k (cd k))), 198, sl) _
    rw [nI_1 k, aset_aset]
    refine ih (k + 1) _ (by omega) (fun j hj => ?_)
    by_cases e : j = k
    · subst e
      simp only [upd, if_true]
    · simp only [upd, if_neg e]
      exact e1 j (by omega)
theorem hm_law (hI : mInv h) (hf : 500 ≤ fr) (hl : 12000 ≤ lo) : pm_WP PT fr lo 258 (0, pm_l0 [.ref 162] 5, [], h, 198, sl) (mPost anInt h sl) := by
  obtain ⟨hh, hq⟩ := id hI
  obtain ⟨x0, h0, -⟩ := ty_fld hh (g := 0) rfl
  obtain ⟨n0, h15, hn0⟩ := ty_nat hh (g := 15) (u := 80) rfl (by decide)
  obtain ⟨x16, h16, -⟩ := ty_fld hh (g := 16) rfl
  obtain ⟨x17, h17, -⟩ := ty_fld hh (g := 17) rfl
  obtain ⟨x18, h18, -⟩ := ty_fld hh (g := 18) rfl
  obtain ⟨x24, h24, -⟩ := ty_fld hh (g := 24) rfl
  have h14 := ty_ref hh (g := 14) (p := 172) rfl
  have h22 := ty_ref hh (g := 22) (p := 175) rfl
  obtain ⟨tp, hA, -⟩ := ty_arr hh (i := 172) (by decide) rfl rfl (by decide)
  obtain ⟨rc, hR, -⟩ := ty_arr hh (i := 175) (by decide) rfl rfl (by decide)
  obtain ⟨cd0, hC0, -⟩ := ty_arr hh (i := 174) (by decide) rfl rfl (by decide)
  refine wp_i rfl rfl rfl rfl ?_
  refine wp_i rfl rfl rfl rfl ?_
  show pm_WP PT fr lo 258 (2, [some (.ref 162), none, none, none, none], [.int 0, .ref 162], h, 198, sl) _
  refine wp_pfm rfl rfl rfl (by decide) h0 ?_
  refine wp_i rfl rfl rfl rfl ?_
  show pm_WP PT fr lo 258 (6, [some (.ref 162), none, none, none, none], [.ref 162], (mset h 0 (.int 0)), 198, sl) _
  refine wp_callM (t := 196) (As := []) (rest := []) (mx := 3) rfl rfl rfl rfl (Nat.le_of_ble_eq_true rfl) (Nat.le_of_ble_eq_true rfl) (by omega) (by omega) rfl (mF_obj (mF_self h0)) (wp_mono (hd_readsRule (n := n0) (mF_ne (by decide) h15) (mF_ne (by decide) h16) (mF_ne (by decide) h17) (mF_ne (by decide) h18) (mF_ne (by decide) h24) (mF_ne (by decide) h14) (mset_arr (by decide) hA) (mF_ne (by decide) h22) (mset_arr (by decide) hR) hn0 (by omega) (by omega)) ?_)
  rintro _ ⟨f, h2, a, t, nn, c, rc2, tp2, rfl, d2, s2, m15, ha, ht, hnn, hc, f1, f2, f3⟩
  obtain ⟨p1, p2, p3, p4, p5, p6, p7, p8⟩ := s2
  have d0 : dD ruC ruG h h2 := dD_tr (dD_set rfl) (dD_mono d2 (fun i q => by unfold ruC at q; rw [Bool.or_eq_false_iff] at q; exact q.1) (fun g q => by unfold ruG at q; rw [Bool.or_eq_false_iff, Bool.or_eq_false_iff] at q; exact q.2.2))
  have m0 : mF h2 0 (.int 0) := dD_mF d2 rfl (mF_self h0)
  obtain ⟨x23, h23, v23⟩ := ty_fld hh (g := 23) rfl
  have m23 : mF h2 23 x23 := dD_mF d2 rfl (mF_ne (by decide) h23)
  have mC : h2 174 = .inl (0, 80, .inl cd0) := (d2.1 174 (by decide) rfl).trans (mset_arr (by decide) hC0)
  have dq : dD rDC (fun g => Nat.beq g 0 || rDG g) h h2 := dD_tr (dD_set rfl) (dD_mono d2 (fun _ q => q) (fun g q => by rw [Bool.or_eq_false_iff] at q; exact q.2))
  have hI2 : mInv h2 := ⟨dD_ty hh d0 (fun i hi _ _ => ru_cell hi p8 mC) (fun g hg b hb => ru_fld hg hb m0 m15 p1 p2 p5 p6 m23 v23 ha ht hnn hc), rxQ_dD dq rfl rfl rfl rfl rfl rfl hq⟩
  have l2 : ∀ i, i < 162 → h2 i = h i := x_lt d0 (fun i hi => ruC_lt hi)
  refine wp_i rfl rfl rfl rfl ?_
  refine wp_i rfl rfl rfl rfl ?_
  show pm_WP PT fr lo 258 (11, [some (.ref 162), some (.int f), none, none, none], [.int f], h2, 198, sl) _
  refine wp_if (c := .ge) (off := 11) (t := 22) rfl rfl (fun q => ?_) (fun q => ?_)
  · have q : 0 ≤ f.toInt := by
      have : (0 : Int32) ≤ f := of_decide_eq_true q
      rw [Int32.le_iff_toInt_le] at this
      exact this
    have e0 : f = 0 := by
      obtain ⟨j, rfl, -, e⟩ := hI_of q
      obtain rfl : j = 0 := by omega
      rfl
    refine wp_i rfl rfl rfl rfl ?_
    show pm_WP PT fr lo 258 (23, [some (.ref 162), some (.int f), none, none, none], [.ref 162], h2, 198, sl) _
    refine wp_callM (t := 257) (As := []) (rest := []) (mx := 3) rfl rfl rfl rfl (Nat.le_of_ble_eq_true rfl) (Nat.le_of_ble_eq_true rfl) (by omega) (by omega) rfl (mF_obj m0) (wp_mono (hm_va hI2 (by omega) (by omega)) ?_)
    rintro _ ⟨v, h3, rfl, q3, hI3⟩
    obtain ⟨n, dn, cd, m23, hC, hn, hdn⟩ := id hI3.2.1
    have m21 := ty_ref hI3.1 (g := 21) (p := 174) rfl
    have m22 := ty_ref hI3.1 (g := 22) (p := 175) rfl
    have m50 := ty_ref hI3.1 (g := 50) (p := 193) rfl
    have m24 : mF h3 24 (.int (nI c)) := fm_mF q3 rfl p6
    have m175 : h3 175 = .inl (0, 80, .inl rc2) := (q3.1 175 rfl).trans p8
    obtain ⟨g0, hS0, -⟩ := ty_arr hI3.1 (i := 193) (by decide) rfl rfl (by decide)
    refine wp_i rfl rfl rfl rfl ?_
    refine wp_i rfl rfl rfl rfl ?_
    show pm_WP PT fr lo 258 (28, [some (.ref 162), some (.int f), some (.int v), none, none], [.ref 162], h3, 198, sl) _
    refine wp_gfm rfl rfl m23 ?_
    refine wp_i rfl rfl rfl rfl ?_
    refine wp_i rfl rfl rfl rfl ?_
    refine wp_i rfl rfl rfl rfl ?_
    show pm_WP PT fr lo 258 (35, [some (.ref 162), some (.int f), some (.int v), some (.int (nI n)), some (.int 0)], [], h3, 198, sl) _
    rw [← aset_same hS0]
    refine lw_L m23 m50 m21 hC hn (fun g eg => ?_) n 0 g0 (by omega) (fun j hj => by omega)
    refine wp_i rfl rfl rfl rfl ?_
    refine wp_i rfl rfl rfl rfl ?_
    show pm_WP PT fr lo 258 (66, [some (.ref 162), some (.int f), some (.int v), some (.int (nI n)), some (.int (nI n))], [.ref 162, .ref 162], (aset h3 193 80 g), 198, sl) _
    refine wp_gfm rfl rfl (mF_as (by decide) m22) ?_
    refine wp_i rfl rfl rfl rfl ?_
    show pm_WP PT fr lo 258 (70, [some (.ref 162), some (.int f), some (.int v), some (.int (nI n)), some (.int (nI n))], [.ref 162, .ref 175, .ref 162], (aset h3 193 80 g), 198, sl) _
    refine wp_gfm rfl rfl (mF_as (by decide) m24) ?_
    show pm_WP PT fr lo 258 (73, [some (.ref 162), some (.int f), some (.int v), some (.int (nI n)), some (.int (nI n))], [.int (nI c), .ref 175, .ref 162], (aset h3 193 80 g), 198, sl) _
    refine wp_callM (t := 197) (As := [.ref 175, .int (nI c)]) (rest := []) (mx := 4) rfl rfl rfl rfl (Nat.le_of_ble_eq_true rfl) (Nat.le_of_ble_eq_true rfl) (by omega) (by omega) rfl (mF_obj (mF_as (by decide) m22)) (wp_mono (hd_lays175 (f := rc2) (g := cd) (n := c) (by omega) (mF_as (by decide) m23) (mF_as (by decide) m21) (aset_ne (by decide) m175) (aset_ne (by decide) hC)) ?_)
    rintro _ ⟨g2, rfl, eg2⟩
    have d5 : dD lwC lwG h3 (aset (mset (aset h3 193 80 g) 23 (.int (nI c))) 174 80 g2) := dD_tr (dD_tr (dD_arr rfl (by decide)) (dD_set rfl)) (dD_arr rfl (by decide))
    have s5 : (aset (mset (aset h3 193 80 g) 23 (.int (nI c))) 174 80 g2) 193 = .inl (0, 80, .inl g) := aset_ne (by decide) (mset_arr (by decide) (aset_self _ _ _ _))
    have hI5 : mInv (aset (mset (aset h3 193 80 g) 23 (.int (nI c))) 174 80 g2) := mInv_code (dn := 1) hI3 d5 (mF_as (by decide) (mF_self (mF_as (by decide) m23))) (aset_self _ _ _ _) s5 (by omega) ((f3 e0).imp id (fun e => ⟨by rw [dep_cong eg2]; exact e, Nat.le_refl _⟩))
    have l5 : ∀ i, i < 162 → (aset (mset (aset h3 193 80 g) 23 (.int (nI c))) 174 80 g2) i = h3 i := x_lt d5 (fun i hi => by unfold lwC; rw [nb_ne (by omega), nb_ne (by omega)]; rfl)
    show pm_WP PT fr lo 258 (76, [some (.ref 162), some (.int f), some (.int v), some (.int (nI n)), some (.int (nI n))], [], (aset (mset (aset h3 193 80 g) 23 (.int (nI c))) 174 80 g2), 198, sl) _
    generalize aset (mset (aset h3 193 80 g) 23 (.int (nI c))) 174 80 g2 = h5 at hI5 s5 l5 ⊢
    obtain ⟨y0, y0m, -⟩ := ty_fld hI5.1 (g := 0) rfl
    refine wp_i rfl rfl rfl rfl ?_
    show pm_WP PT fr lo 258 (77, [some (.ref 162), some (.int f), some (.int v), some (.int (nI n)), some (.int (nI n))], [.ref 162], h5, 198, sl) _
    refine wp_callM (t := 257) (As := []) (rest := []) (mx := 3) rfl rfl rfl rfl (Nat.le_of_ble_eq_true rfl) (Nat.le_of_ble_eq_true rfl) (by omega) (by omega) rfl (mF_obj y0m) (wp_mono (hm_va hI5 (by omega) (by omega)) ?_)
    rintro _ ⟨u, h6, rfl, q6, hI6⟩
    obtain ⟨n6, dn6, cd6, k23, kC, -⟩ := id hI6.2.1
    have k21 := ty_ref hI6.1 (g := 21) (p := 174) rfl
    have k50 := ty_ref hI6.1 (g := 50) (p := 193) rfl
    have k193 : h6 193 = .inl (0, 80, .inl g) := (q6.1 193 rfl).trans s5
    refine wp_i rfl rfl rfl rfl ?_
    refine wp_i rfl rfl rfl rfl ?_
    refine wp_i rfl rfl rfl rfl ?_
    show pm_WP PT fr lo 258 (84, [some (.ref 162), some (.int f), some (.int v), some (.int (nI n)), some (.int u)], [.ref 162, .ref 162], h6, 198, sl) _
    refine wp_gfm rfl rfl k50 ?_
    refine wp_i rfl rfl rfl rfl ?_
    show pm_WP PT fr lo 258 (88, [some (.ref 162), some (.int f), some (.int v), some (.int (nI n)), some (.int u)], [.int (nI n), .ref 193, .ref 162], h6, 198, sl) _
    refine wp_callM (t := 197) (As := [.ref 193, .int (nI n)]) (rest := []) (mx := 4) rfl rfl rfl rfl (Nat.le_of_ble_eq_true rfl) (Nat.le_of_ble_eq_true rfl) (by omega) (by omega) rfl (mF_obj k23) (wp_mono (hd_lays193 (f := g) (g := cd6) (n := n) hn k23 k21 k193 kC) ?_)
    rintro _ ⟨g7, rfl, eg7⟩
    have d7 : dD lwC lwG h6 (aset (mset h6 23 (.int (nI n))) 174 80 g7) := dD_tr (dD_set rfl) (dD_arr rfl (by decide))
    have hI7 : mInv (aset (mset h6 23 (.int (nI n))) 174 80 g7) := mInv_code (dn := dn) hI6 d7 (mF_as (by decide) (mF_self k23)) (aset_self _ _ _ _) (aset_ne (by decide) (mset_arr (by decide) k193)) hn (hdn.imp id (fun e => ⟨by rw [dep_cong (fun j hj => (eg7 j hj).trans (eg j hj))]; exact e.1, e.2⟩))
    have l7 : ∀ i, i < 162 → (aset (mset h6 23 (.int (nI n))) 174 80 g7) i = h6 i := x_lt d7 (fun i hi => by unfold lwC; rw [nb_ne (by omega), nb_ne (by omega)]; rfl)
    show pm_WP PT fr lo 258 (91, [some (.ref 162), some (.int f), some (.int v), some (.int (nI n)), some (.int u)], [], (aset (mset h6 23 (.int (nI n))) 174 80 g7), 198, sl) _
    generalize aset (mset h6 23 (.int (nI n))) 174 80 g7 = h7 at hI7 l7 ⊢
    obtain ⟨x1, y1, -⟩ := ty_fld hI7.1 (g := 1) rfl
    refine wp_i rfl rfl rfl rfl ?_
    refine wp_i rfl rfl rfl rfl ?_
    show pm_WP PT fr lo 258 (93, [some (.ref 162), some (.int f), some (.int v), some (.int (nI n)), some (.int u)], [.int 0, .ref 162], h7, 198, sl) _
    refine wp_pfm rfl rfl rfl (by decide) y1 ?_
    refine wp_i rfl rfl rfl rfl ?_
    refine wp_i rfl rfl rfl rfl ?_
    refine wp_i rfl rfl rfl rfl ?_
    have hI8 : mInv (mset h7 1 (.int 0)) := mInv_s1 hI7 (k := 0) (by decide)
    have y8 : mF (mset h7 1 (.int 0)) 1 (.int (nI 0)) := mF_self y1
    have l8 : ∀ i, i < 162 → (mset h7 1 (.int 0)) i = h7 i := fun i hi => mset_ne (by omega)
    generalize mset h7 1 (.int 0) = h8 at hI8 y8 l8 ⊢
    show pm_WP PT fr lo 258 (100, [some (.ref 162), some (.int f), some (.int v), some (.int (nI n)), some (.int u)], [.long (u).toInt64, .ref 162], h8, 198, sl) _
    refine wp_callM (t := 167) (As := [.long (u).toInt64]) (rest := []) (mx := 3) rfl rfl rfl rfl (Nat.le_of_ble_eq_true rfl) (Nat.le_of_ble_eq_true rfl) (by omega) (by omega) rfl (mF_obj y8) (wp_mono (hm_enters hI8 u.toInt64 y8 (by decide)) ?_)
    rintro _ ⟨h9, rfl, hI9, y9, l9⟩
    refine wp_i rfl rfl rfl rfl ?_
    refine wp_i rfl rfl rfl rfl ?_
    refine wp_i rfl rfl rfl rfl ?_
    show pm_WP PT fr lo 258 (106, [some (.ref 162), some (.int f), some (.int v), some (.int (nI n)), some (.int u)], [.long (v).toInt64, .ref 162], h9, 198, sl) _
    refine wp_callM (t := 167) (As := [.long (v).toInt64]) (rest := []) (mx := 3) rfl rfl rfl rfl (Nat.le_of_ble_eq_true rfl) (Nat.le_of_ble_eq_true rfl) (by omega) (by omega) rfl (mF_obj y9) (wp_mono (hm_enters hI9 v.toInt64 y9 (by decide)) ?_)
    rintro _ ⟨h10, rfl, hI10, y10, l10⟩
    refine wp_i rfl rfl rfl rfl ?_
    refine wp_i rfl rfl rfl rfl ?_
    refine wp_i rfl rfl rfl rfl ?_
    show pm_WP PT fr lo 258 (113, [some (.ref 162), some (.int f), some (.int v), some (.int (nI n)), some (.int u)], [.int (u - v)], h10, 198, sl) _
    exact wp_iret rfl rfl ⟨⟨_, rfl⟩, rfl, fun i hi => (l10 i hi).trans ((l9 i hi).trans ((l8 i hi).trans ((l7 i hi).trans ((fm_lt q6 i hi).trans ((l5 i hi).trans ((fm_lt q3 i hi).trans (l2 i hi)))))))  , hI10⟩
  · refine wp_i rfl rfl rfl rfl ?_
    refine wp_i rfl rfl rfl rfl ?_
    refine wp_i rfl rfl rfl rfl ?_
    refine wp_i rfl rfl rfl rfl ?_
    refine wp_i rfl rfl rfl rfl ?_
    show pm_WP PT fr lo 258 (21, [some (.ref 162), some (.int f), none, none, none], [.int ((f + 1) - 10000)], h2, 198, sl) _
    exact wp_iret rfl rfl ⟨⟨_, rfl⟩, rfl, l2, hI2⟩
end LAW
end MG74alivex1
section MG74alivex2
/-! walks, by hand -/
section WLK
variable {fr lo sl : Nat} {h : pm_H} {Q : pm_Rs → Prop} {c a b : Nat} {w : Nat → Nat → Nat} {rd : Nat → Int32} {hv gv : Int32}
def wkI (g : Nat → Int32) : Prop := ∀ j, j < 600 → -1 ≤ (g j).toInt
theorem wkI_up {g : Nat → Int32} {k : Nat} {v : Int32} (q : wkI g) (hv : -1 ≤ v.toInt) : wkI (upd g k v) := by
  intro j hj
  unfold upd
  by_cases e : j = k
  · rw [if_pos e]; exact hv
  · rw [if_neg e]; exact q j hj
theorem max_ge (x y : Int32) : x.toInt ≤ (if x < y then y else x).toInt := by
  by_cases e : x < y
  · rw [if_pos e]
    rw [Int32.lt_iff_toInt_lt] at e
    omega
  · rw [if_neg e]
    exact Int.le_refl _
theorem in_ge {x : Int32} {u : Int64} (q : in_b x.toInt64 0 u = true) : 0 ≤ x.toInt := by
  unfold in_b at q
  rw [Bool.and_eq_true] at q
  have e1 : ¬ x.toInt64 < 0 := by simpa using q.1
  rw [Int64.lt_iff_toInt_lt, Int32.toInt_toInt64] at e1
  have n1 : (0 : Int64).toInt = 0 := by decide
  rw [n1] at e1
  omega
theorem wk_A (h40 : mF h 40 (.ref 186)) (kk : ∀ g, wkI g → pm_WP PT fr lo 239 (73, [some (.ref 162), some (.int (nI a)), some (.int (nI b)), some (.int hv), some (.int gv), some (.int (nI 600)), none, none, none, none, none], [], aset h 186 600 g, 198, sl) Q) : ∀ (m k : Nat) (g : Nat → Int32), k + m = 600 → wkI g → pm_WP PT fr lo 239 (51, [some (.ref 162), some (.int (nI a)), some (.int (nI b)), some (.int hv), some (.int gv), some (.int (nI k)), none, none, none, none, none], [], aset h 186 600 g, 198, sl) Q := by
  intro m
  induction m with
  | zero =>
    intro k g hk q
    obtain rfl : k = 600 := by omega
    refine wp_i rfl rfl rfl rfl ?_
    refine wp_i rfl rfl rfl rfl ?_
    show pm_WP PT fr lo 239 (56, [some (.ref 162), some (.int (nI a)), some (.int (nI b)), some (.int hv), some (.int gv), some (.int (nI 600)), none, none, none, none, none], [.int 600, .int (nI 600)], (aset h 186 600 g), 198, sl) _
    refine wp_icmp (c := .ge) (off := 17) (t := 73) rfl rfl (fun _ => ?_) (fun q => absurd (q.symm.trans ((hI_ge (b := 600) (by omega) (by omega)).trans (decide_eq_true (by omega)))) (by decide))
    show pm_WP PT fr lo 239 (73, [some (.ref 162), some (.int (nI a)), some (.int (nI b)), some (.int hv), some (.int gv), some (.int (nI 600)), none, none, none, none, none], [], (aset h 186 600 g), 198, sl) _
    exact kk g q
  | succ m ih =>
    intro k g hk q
    refine wp_i rfl rfl rfl rfl ?_
    refine wp_i rfl rfl rfl rfl ?_
    show pm_WP PT fr lo 239 (56, [some (.ref 162), some (.int (nI a)), some (.int (nI b)), some (.int hv), some (.int gv), some (.int (nI k)), none, none, none, none, none], [.int 600, .int (nI k)], (aset h 186 600 g), 198, sl) _
    refine wp_icmp (c := .ge) (off := 17) (t := 73) rfl rfl (fun q => absurd (q.symm.trans ((hI_ge (b := 600) (by omega) (by omega)).trans (decide_eq_false (by omega)))) (by decide)) (fun _ => ?_)
    refine wp_i rfl rfl rfl rfl ?_
    show pm_WP PT fr lo 239 (60, [some (.ref 162), some (.int (nI a)), some (.int (nI b)), some (.int hv), some (.int gv), some (.int (nI k)), none, none, none, none, none], [.ref 162], (aset h 186 600 g), 198, sl) _
    refine wp_gfm rfl rfl (mF_as (by decide) h40) ?_
    refine wp_i rfl rfl rfl rfl ?_
    refine wp_i rfl rfl rfl rfl ?_
    show pm_WP PT fr lo 239 (66, [some (.ref 162), some (.int (nI a)), some (.int (nI b)), some (.int hv), some (.int gv), some (.int (nI k)), none, none, none, none, none], [.int (-1), .int (nI k), .ref 186], (aset h 186 600 g), 198, sl) _
    refine wp_ism rfl (aset_self _ _ _ _) (hI_in (by omega) (by omega)) (by decide) ?_
    rw [nI_clamp (by omega)]
    refine wp_i rfl rfl rfl rfl ?_
    refine wp_i rfl rfl rfl rfl ?_
    show pm_WP PT fr lo 239 (51, [some (.ref 162), some (.int (nI a)), some (.int (nI b)), some (.int hv), some (.int gv), some (.int (nI k + 1)), none, none, none, none, none], [], (aset (aset h 186 600 g) 186 600 (upd g k (-1))), 198, sl) _
    rw [nI_1 k, aset_aset]
    exact ih (k + 1) _ (by omega) (wkI_up q (by decide))
theorem wk_J (h3 : mF h 3 (.int (nI c))) (hc : c ≤ 6) (h40 : mF h 40 (.ref 186)) (h11 : mF h 11 (.ref 169)) (hR : h 169 = .inl (0, 36, .inl rd)) (hw : rdOk rd w) {m i : Nat} (hm : m ≤ 99) (hi : i < c) {wv : Int32} (hf : 1 ≤ fr) (hl : 20 ≤ lo) (kk : ∀ g x8 x9 x10, wkI g → pm_WP PT fr lo 239 (238, [some (.ref 162), some (.int (nI a)), some (.int (nI b)), some (.int hv), some (.int gv), some (.int (nI m)), some (.int (nI i)), some (.int wv), x8, x9, x10], [], aset h 186 600 g, 198, sl) Q) : ∀ (n j : Nat) (g : Nat → Int32) (x9 x10 : Option Value), j + n = c → wkI g → pm_WP PT fr lo 239 (139, [some (.ref 162), some (.int (nI a)), some (.int (nI b)), some (.int hv), some (.int gv), some (.int (nI m)), some (.int (nI i)), some (.int wv), some (.int (nI j)), x9, x10], [], aset h 186 600 g, 198, sl) Q := by
  intro n
  induction n with
  | zero =>
    intro j g x9 x10 hj q
    obtain rfl : j = c := by omega
    refine wp_i rfl rfl rfl rfl ?_
    refine wp_i rfl rfl rfl rfl ?_
    show pm_WP PT fr lo 239 (142, [some (.ref 162), some (.int (nI a)), some (.int (nI b)), some (.int hv), some (.int gv), some (.int (nI m)), some (.int (nI i)), some (.int wv), some (.int (nI j)), x9, x10], [.ref 162, .int (nI j)], (aset h 186 600 g), 198, sl) _
    refine wp_gfm rfl rfl (mF_as (by decide) h3) ?_
    show pm_WP PT fr lo 239 (145, [some (.ref 162), some (.int (nI a)), some (.int (nI b)), some (.int hv), some (.int gv), some (.int (nI m)), some (.int (nI i)), some (.int wv), some (.int (nI j)), x9, x10], [.int (nI j), .int (nI j)], (aset h 186 600 g), 198, sl) _
    refine wp_icmp (c := .ge) (off := 93) (t := 238) rfl rfl (fun _ => ?_) (fun q => absurd (q.symm.trans ((hI_ge (by omega) (by omega)).trans (decide_eq_true (by omega)))) (by decide))
    show pm_WP PT fr lo 239 (238, [some (.ref 162), some (.int (nI a)), some (.int (nI b)), some (.int hv), some (.int gv), some (.int (nI m)), some (.int (nI i)), some (.int wv), some (.int (nI j)), x9, x10], [], (aset h 186 600 g), 198, sl) _
    exact kk g _ _ _ q
  | succ n ih =>
    intro j g x9 x10 hj q
    obtain ⟨ew, hw9⟩ := hw i j (by omega) (by omega)
    refine wp_i rfl rfl rfl rfl ?_
    refine wp_i rfl rfl rfl rfl ?_
    show pm_WP PT fr lo 239 (142, [some (.ref 162), some (.int (nI a)), some (.int (nI b)), some (.int hv), some (.int gv), some (.int (nI m)), some (.int (nI i)), some (.int wv), some (.int (nI j)), x9, x10], [.ref 162, .int (nI j)], (aset h 186 600 g), 198, sl) _
    refine wp_gfm rfl rfl (mF_as (by decide) h3) ?_
    show pm_WP PT fr lo 239 (145, [some (.ref 162), some (.int (nI a)), some (.int (nI b)), some (.int hv), some (.int gv), some (.int (nI m)), some (.int (nI i)), some (.int wv), some (.int (nI j)), x9, x10], [.int (nI c), .int (nI j)], (aset h 186 600 g), 198, sl) _
    refine wp_icmp (c := .ge) (off := 93) (t := 238) rfl rfl (fun q => absurd (q.symm.trans ((hI_ge (by omega) (by omega)).trans (decide_eq_false (by omega)))) (by decide)) (fun _ => ?_)
    refine wp_i rfl rfl rfl rfl ?_
    show pm_WP PT fr lo 239 (150, [some (.ref 162), some (.int (nI a)), some (.int (nI b)), some (.int hv), some (.int gv), some (.int (nI m)), some (.int (nI i)), some (.int wv), some (.int (nI j)), x9, x10], [.int wv], (aset h 186 600 g), 198, sl) _
    refine wp_if (c := .lt) (off := 88) (t := 238) rfl rfl (fun q1 => ?_) (fun q1 => ?_)
    · show pm_WP PT fr lo 239 (238, [some (.ref 162), some (.int (nI a)), some (.int (nI b)), some (.int hv), some (.int gv), some (.int (nI m)), some (.int (nI i)), some (.int wv), some (.int (nI j)), x9, x10], [], (aset h 186 600 g), 198, sl) _
      exact kk g _ _ _ q
    · refine wp_i rfl rfl rfl rfl ?_
      show pm_WP PT fr lo 239 (154, [some (.ref 162), some (.int (nI a)), some (.int (nI b)), some (.int hv), some (.int gv), some (.int (nI m)), some (.int (nI i)), some (.int wv), some (.int (nI j)), x9, x10], [.ref 162], (aset h 186 600 g), 198, sl) _
      refine wp_gfm rfl rfl (mF_as (by decide) h11) ?_
      refine wp_i rfl rfl rfl rfl ?_
      refine wp_i rfl rfl rfl rfl ?_
      refine wp_i rfl rfl rfl rfl ?_
      refine wp_i rfl rfl rfl rfl ?_
      refine wp_i rfl rfl rfl rfl ?_
      show pm_WP PT fr lo 239 (165, [some (.ref 162), some (.int (nI a)), some (.int (nI b)), some (.int hv), some (.int gv), some (.int (nI m)), some (.int (nI i)), some (.int wv), some (.int (nI j)), x9, x10], [.int ((6 * (nI i)) + (nI j)), .ref 169], (aset h 186 600 g), 198, sl) _
      rw [ix6 i j]
      show pm_WP PT fr lo 239 (165, [some (.ref 162), some (.int (nI a)), some (.int (nI b)), some (.int hv), some (.int gv), some (.int (nI m)), some (.int (nI i)), some (.int wv), some (.int (nI j)), x9, x10], [.int (nI (6 * i + j)), .ref 169], (aset h 186 600 g), 198, sl) _
      refine wp_iam rfl (aset_ne (by decide) hR) (hI_in (by omega) (by omega)) (by decide) ?_
      rw [nI_clamp (by omega), ew]
      show pm_WP PT fr lo 239 (166, [some (.ref 162), some (.int (nI a)), some (.int (nI b)), some (.int hv), some (.int gv), some (.int (nI m)), some (.int (nI i)), some (.int wv), some (.int (nI j)), x9, x10], [.int (nI (w i j))], (aset h 186 600 g), 198, sl) _
      refine wp_i rfl rfl rfl rfl ?_
      refine wp_i rfl rfl rfl rfl ?_
      show pm_WP PT fr lo 239 (170, [some (.ref 162), some (.int (nI a)), some (.int (nI b)), some (.int hv), some (.int gv), some (.int (nI m)), some (.int (nI i)), some (.int wv), some (.int (nI j)), some (.int (nI (w i j))), x10], [.int (nI (w i j))], (aset h 186 600 g), 198, sl) _
      refine wp_if (c := .le) (off := 62) (t := 232) rfl rfl (fun q2 => ?_) (fun q2 => ?_)
      · show pm_WP PT fr lo 239 (232, [some (.ref 162), some (.int (nI a)), some (.int (nI b)), some (.int hv), some (.int gv), some (.int (nI m)), some (.int (nI i)), some (.int wv), some (.int (nI j)), some (.int (nI (w i j))), x10], [], (aset h 186 600 g), 198, sl) _
        refine wp_i rfl rfl rfl rfl ?_
        refine wp_i rfl rfl rfl rfl ?_
        show pm_WP PT fr lo 239 (139, [some (.ref 162), some (.int (nI a)), some (.int (nI b)), some (.int hv), some (.int gv), some (.int (nI m)), some (.int (nI i)), some (.int wv), some (.int (nI j + 1)), some (.int (nI (w i j))), x10], [], (aset h 186 600 g), 198, sl) _
        rw [nI_1 j]
        exact ih (j + 1) _ _ _ (by omega) q
      · refine wp_i rfl rfl rfl rfl ?_
        refine wp_i rfl rfl rfl rfl ?_
        refine wp_i rfl rfl rfl rfl ?_
        refine wp_i rfl rfl rfl rfl ?_
        show pm_WP PT fr lo 239 (180, [some (.ref 162), some (.int (nI a)), some (.int (nI b)), some (.int hv), some (.int gv), some (.int (nI m)), some (.int (nI i)), some (.int wv), some (.int (nI j)), some (.int (nI (w i j))), x10], [.int 99, .int ((nI m) + (nI (w i j)))], (aset h 186 600 g), 198, sl) _
        rw [nI_add]
        show pm_WP PT fr lo 239 (180, [some (.ref 162), some (.int (nI a)), some (.int (nI b)), some (.int hv), some (.int gv), some (.int (nI m)), some (.int (nI i)), some (.int wv), some (.int (nI j)), some (.int (nI (w i j))), x10], [.int 99, .int (nI (m + w i j))], (aset h 186 600 g), 198, sl) _
        show pm_WP PT fr lo 239 (180, [some (.ref 162), some (.int (nI a)), some (.int (nI b)), some (.int hv), some (.int gv), some (.int (nI m)), some (.int (nI i)), some (.int wv), some (.int (nI j)), some (.int (nI (w i j))), x10], [.int 99, .int (nI (m + w i j))], (aset h 186 600 g), 198, sl) _
        refine wp_icmp (c := .gt) (off := 52) (t := 232) rfl rfl (fun q3 => ?_) (fun q3 => ?_)
        · show pm_WP PT fr lo 239 (232, [some (.ref 162), some (.int (nI a)), some (.int (nI b)), some (.int hv), some (.int gv), some (.int (nI m)), some (.int (nI i)), some (.int wv), some (.int (nI j)), some (.int (nI (w i j))), x10], [], (aset h 186 600 g), 198, sl) _
          refine wp_i rfl rfl rfl rfl ?_
          refine wp_i rfl rfl rfl rfl ?_
          show pm_WP PT fr lo 239 (139, [some (.ref 162), some (.int (nI a)), some (.int (nI b)), some (.int hv), some (.int gv), some (.int (nI m)), some (.int (nI i)), some (.int wv), some (.int (nI j + 1)), some (.int (nI (w i j))), x10], [], (aset h 186 600 g), 198, sl) _
          rw [nI_1 j]
          exact ih (j + 1) _ _ _ (by omega) q
        · have q3 : ¬ 99 < m + w i j := of_decide_eq_false ((hI_gt (b := 99) (by omega) (by omega)).symm.trans q3)
          refine wp_i rfl rfl rfl rfl ?_
          refine wp_i rfl rfl rfl rfl ?_
          refine wp_i rfl rfl rfl rfl ?_
          refine wp_i rfl rfl rfl rfl ?_
          show pm_WP PT fr lo 239 (189, [some (.ref 162), some (.int (nI a)), some (.int (nI b)), some (.int hv), some (.int gv), some (.int (nI m)), some (.int (nI i)), some (.int wv), some (.int (nI j)), some (.int (nI (w i j))), x10], [.int (hv * (nI (w i j))), .int wv], (aset h 186 600 g), 198, sl) _
          refine wp_icmp (c := .lt) (off := 43) (t := 232) rfl rfl (fun q4 => ?_) (fun q4 => ?_)
          · show pm_WP PT fr lo 239 (232, [some (.ref 162), some (.int (nI a)), some (.int (nI b)), some (.int hv), some (.int gv), some (.int (nI m)), some (.int (nI i)), some (.int wv), some (.int (nI j)), some (.int (nI (w i j))), x10], [], (aset h 186 600 g), 198, sl) _
            refine wp_i rfl rfl rfl rfl ?_
            refine wp_i rfl rfl rfl rfl ?_
            show pm_WP PT fr lo 239 (139, [some (.ref 162), some (.int (nI a)), some (.int (nI b)), some (.int hv), some (.int gv), some (.int (nI m)), some (.int (nI i)), some (.int wv), some (.int (nI j + 1)), some (.int (nI (w i j))), x10], [], (aset h 186 600 g), 198, sl) _
            rw [nI_1 j]
            exact ih (j + 1) _ _ _ (by omega) q
          · refine wp_i rfl rfl rfl rfl ?_
            refine wp_i rfl rfl rfl rfl ?_
            refine wp_i rfl rfl rfl rfl ?_
            refine wp_i rfl rfl rfl rfl ?_
            refine wp_i rfl rfl rfl rfl ?_
            refine wp_i rfl rfl rfl rfl ?_
            refine wp_i rfl rfl rfl rfl ?_
            show pm_WP PT fr lo 239 (203, [some (.ref 162), some (.int (nI a)), some (.int (nI b)), some (.int hv), some (.int gv), some (.int (nI m)), some (.int (nI i)), some (.int wv), some (.int (nI j)), some (.int (nI (w i j))), x10], [.int ((6 * ((nI m) + (nI (w i j)))) + (nI j))], (aset h 186 600 g), 198, sl) _
            rw [nI_add, ix6]
            show pm_WP PT fr lo 239 (203, [some (.ref 162), some (.int (nI a)), some (.int (nI b)), some (.int hv), some (.int gv), some (.int (nI m)), some (.int (nI i)), some (.int wv), some (.int (nI j)), some (.int (nI (w i j))), x10], [.int (nI (6 * (m + w i j) + j))], (aset h 186 600 g), 198, sl) _
            refine wp_i rfl rfl rfl rfl ?_
            refine wp_i rfl rfl rfl rfl ?_
            show pm_WP PT fr lo 239 (206, [some (.ref 162), some (.int (nI a)), some (.int (nI b)), some (.int hv), some (.int gv), some (.int (nI m)), some (.int (nI i)), some (.int wv), some (.int (nI j)), some (.int (nI (w i j))), some (.int (nI (6 * (m + w i j) + j)))], [.ref 162], (aset h 186 600 g), 198, sl) _
            refine wp_gfm rfl rfl (mF_as (by decide) h40) ?_
            refine wp_i rfl rfl rfl rfl ?_
            refine wp_i rfl rfl rfl rfl ?_
            show pm_WP PT fr lo 239 (212, [some (.ref 162), some (.int (nI a)), some (.int (nI b)), some (.int hv), some (.int gv), some (.int (nI m)), some (.int (nI i)), some (.int wv), some (.int (nI j)), some (.int (nI (w i j))), some (.int (nI (6 * (m + w i j) + j)))], [.ref 162, .int (nI (6 * (m + w i j) + j)), .ref 186], (aset h 186 600 g), 198, sl) _
            refine wp_gfm rfl rfl (mF_as (by decide) h40) ?_
            refine wp_i rfl rfl rfl rfl ?_
            show pm_WP PT fr lo 239 (217, [some (.ref 162), some (.int (nI a)), some (.int (nI b)), some (.int hv), some (.int gv), some (.int (nI m)), some (.int (nI i)), some (.int wv), some (.int (nI j)), some (.int (nI (w i j))), some (.int (nI (6 * (m + w i j) + j)))], [.int (nI (6 * (m + w i j) + j)), .ref 186, .int (nI (6 * (m + w i j) + j)), .ref 186], (aset h 186 600 g), 198, sl) _
            refine wp_iam rfl (aset_self _ _ _ _) (hI_in (by omega) (by omega)) (by decide) ?_
            rw [nI_clamp (by omega)]
            show pm_WP PT fr lo 239 (218, [some (.ref 162), some (.int (nI a)), some (.int (nI b)), some (.int hv), some (.int gv), some (.int (nI m)), some (.int (nI i)), some (.int wv), some (.int (nI j)), some (.int (nI (w i j))), some (.int (nI (6 * (m + w i j) + j)))], [.int (g (6 * (m + w i j) + j)), .int (nI (6 * (m + w i j) + j)), .ref 186], (aset h 186 600 g), 198, sl) _
            refine wp_i rfl rfl rfl rfl ?_
            refine wp_i rfl rfl rfl rfl ?_
            refine wp_i rfl rfl rfl rfl ?_
            refine wp_i rfl rfl rfl rfl ?_
            refine wp_i rfl rfl rfl rfl ?_
            refine wp_i rfl rfl rfl rfl ?_
            refine wp_i rfl rfl rfl rfl ?_
            show pm_WP PT fr lo 239 (228, [some (.ref 162), some (.int (nI a)), some (.int (nI b)), some (.int hv), some (.int gv), some (.int (nI m)), some (.int (nI i)), some (.int wv), some (.int (nI j)), some (.int (nI (w i j))), some (.int (nI (6 * (m + w i j) + j)))], [.int ((wv - (hv * (nI (w i j)))) + gv), .int (g (6 * (m + w i j) + j)), .int (nI (6 * (m + w i j) + j)), .ref 186], (aset h 186 600 g), 198, sl) _
            refine wp_max rfl rfl hf (by show pm_sum [Value.int (nI (6 * (m + w i j) + j)), Value.ref 186] + 13 ≤ lo; have : pm_sum [Value.int (nI (6 * (m + w i j) + j)), Value.ref 186] = 2 := rfl; omega) ?_
            have hmx : -1 ≤ (if (g (6 * (m + w i j) + j)) < ((wv - (hv * (nI (w i j)))) + gv) then ((wv - (hv * (nI (w i j)))) + gv) else (g (6 * (m + w i j) + j))).toInt := Int.le_trans (q _ (by omega)) (max_ge _ _)
            show pm_WP PT fr lo 239 (231, [some (.ref 162), some (.int (nI a)), some (.int (nI b)), some (.int hv), some (.int gv), some (.int (nI m)), some (.int (nI i)), some (.int wv), some (.int (nI j)), some (.int (nI (w i j))), some (.int (nI (6 * (m + w i j) + j)))], [.int (if (g (6 * (m + w i j) + j)) < ((wv - (hv * (nI (w i j)))) + gv) then ((wv - (hv * (nI (w i j)))) + gv) else (g (6 * (m + w i j) + j))), .int (nI (6 * (m + w i j) + j)), .ref 186], (aset h 186 600 g), 198, sl) _
            generalize (if (g (6 * (m + w i j) + j)) < ((wv - (hv * (nI (w i j)))) + gv) then ((wv - (hv * (nI (w i j)))) + gv) else (g (6 * (m + w i j) + j))) = mv at hmx ⊢
            show pm_WP PT fr lo 239 (231, [some (.ref 162), some (.int (nI a)), some (.int (nI b)), some (.int hv), some (.int gv), some (.int (nI m)), some (.int (nI i)), some (.int wv), some (.int (nI j)), some (.int (nI (w i j))), some (.int (nI (6 * (m + w i j) + j)))], [.int mv, .int (nI (6 * (m + w i j) + j)), .ref 186], (aset h 186 600 g), 198, sl) _
            refine wp_ism rfl (aset_self _ _ _ _) (hI_in (by omega) (by omega)) (by decide) ?_
            rw [nI_clamp (by omega), aset_aset]
            show pm_WP PT fr lo 239 (232, [some (.ref 162), some (.int (nI a)), some (.int (nI b)), some (.int hv), some (.int gv), some (.int (nI m)), some (.int (nI i)), some (.int wv), some (.int (nI j)), some (.int (nI (w i j))), some (.int (nI (6 * (m + w i j) + j)))], [], (aset h 186 600 (upd g (6 * (m + w i j) + j) mv)), 198, sl) _
            refine wp_i rfl rfl rfl rfl ?_
            refine wp_i rfl rfl rfl rfl ?_
            show pm_WP PT fr lo 239 (139, [some (.ref 162), some (.int (nI a)), some (.int (nI b)), some (.int hv), some (.int gv), some (.int (nI m)), some (.int (nI i)), some (.int wv), some (.int (nI j + 1)), some (.int (nI (w i j))), some (.int (nI (6 * (m + w i j) + j)))], [], (aset h 186 600 (upd g (6 * (m + w i j) + j) mv)), 198, sl) _
            rw [nI_1 j]
            exact ih (j + 1) _ _ _ (by omega) (wkI_up q hmx)
theorem wk_I (h3 : mF h 3 (.int (nI c))) (hc : c ≤ 6) (h40 : mF h 40 (.ref 186)) (h11 : mF h 11 (.ref 169)) (hR : h 169 = .inl (0, 36, .inl rd)) (hw : rdOk rd w) {m : Nat} (hm : m ≤ 99) (hf : 1 ≤ fr) (hl : 20 ≤ lo) (kk : ∀ g x6 x7 x8 x9 x10, wkI g → pm_WP PT fr lo 239 (244, [some (.ref 162), some (.int (nI a)), some (.int (nI b)), some (.int hv), some (.int gv), some (.int (nI m)), x6, x7, x8, x9, x10], [], aset h 186 600 g, 198, sl) Q) : ∀ (n i : Nat) (g : Nat → Int32) (x7 x8 x9 x10 : Option Value), i + n = c → wkI g → pm_WP PT fr lo 239 (112, [some (.ref 162), some (.int (nI a)), some (.int (nI b)), some (.int hv), some (.int gv), some (.int (nI m)), some (.int (nI i)), x7, x8, x9, x10], [], aset h 186 600 g, 198, sl) Q := by
  intro n
  induction n with
  | zero =>
    intro i g x7 x8 x9 x10 hj q
    obtain rfl : i = c := by omega
    refine wp_i rfl rfl rfl rfl ?_
    refine wp_i rfl rfl rfl rfl ?_
    show pm_WP PT fr lo 239 (115, [some (.ref 162), some (.int (nI a)), some (.int (nI b)), some (.int hv), some (.int gv), some (.int (nI m)), some (.int (nI i)), x7, x8, x9, x10], [.ref 162, .int (nI i)], (aset h 186 600 g), 198, sl) _
    refine wp_gfm rfl rfl (mF_as (by decide) h3) ?_
    show pm_WP PT fr lo 239 (118, [some (.ref 162), some (.int (nI a)), some (.int (nI b)), some (.int hv), some (.int gv), some (.int (nI m)), some (.int (nI i)), x7, x8, x9, x10], [.int (nI i), .int (nI i)], (aset h 186 600 g), 198, sl) _
    refine wp_icmp (c := .ge) (off := 126) (t := 244) rfl rfl (fun _ => ?_) (fun q => absurd (q.symm.trans ((hI_ge (by omega) (by omega)).trans (decide_eq_true (by omega)))) (by decide))
    show pm_WP PT fr lo 239 (244, [some (.ref 162), some (.int (nI a)), some (.int (nI b)), some (.int hv), some (.int gv), some (.int (nI m)), some (.int (nI i)), x7, x8, x9, x10], [], (aset h 186 600 g), 198, sl) _
    exact kk g _ _ _ _ _ q
  | succ n ih =>
    intro i g x7 x8 x9 x10 hj q
    refine wp_i rfl rfl rfl rfl ?_
    refine wp_i rfl rfl rfl rfl ?_
    show pm_WP PT fr lo 239 (115, [some (.ref 162), some (.int (nI a)), some (.int (nI b)), some (.int hv), some (.int gv), some (.int (nI m)), some (.int (nI i)), x7, x8, x9, x10], [.ref 162, .int (nI i)], (aset h 186 600 g), 198, sl) _
    refine wp_gfm rfl rfl (mF_as (by decide) h3) ?_
    show pm_WP PT fr lo 239 (118, [some (.ref 162), some (.int (nI a)), some (.int (nI b)), some (.int hv), some (.int gv), some (.int (nI m)), some (.int (nI i)), x7, x8, x9, x10], [.int (nI c), .int (nI i)], (aset h 186 600 g), 198, sl) _
    refine wp_icmp (c := .ge) (off := 126) (t := 244) rfl rfl (fun q => absurd (q.symm.trans ((hI_ge (by omega) (by omega)).trans (decide_eq_false (by omega)))) (by decide)) (fun _ => ?_)
    refine wp_i rfl rfl rfl rfl ?_
    show pm_WP PT fr lo 239 (122, [some (.ref 162), some (.int (nI a)), some (.int (nI b)), some (.int hv), some (.int gv), some (.int (nI m)), some (.int (nI i)), x7, x8, x9, x10], [.ref 162], (aset h 186 600 g), 198, sl) _
    refine wp_gfm rfl rfl (mF_as (by decide) h40) ?_
    refine wp_i rfl rfl rfl rfl ?_
    refine wp_i rfl rfl rfl rfl ?_
    refine wp_i rfl rfl rfl rfl ?_
    refine wp_i rfl rfl rfl rfl ?_
    refine wp_i rfl rfl rfl rfl ?_
    show pm_WP PT fr lo 239 (133, [some (.ref 162), some (.int (nI a)), some (.int (nI b)), some (.int hv), some (.int gv), some (.int (nI m)), some (.int (nI i)), x7, x8, x9, x10], [.int ((6 * (nI m)) + (nI i)), .ref 186], (aset h 186 600 g), 198, sl) _
    rw [ix6 m i]
    show pm_WP PT fr lo 239 (133, [some (.ref 162), some (.int (nI a)), some (.int (nI b)), some (.int hv), some (.int gv), some (.int (nI m)), some (.int (nI i)), x7, x8, x9, x10], [.int (nI (6 * m + i)), .ref 186], (aset h 186 600 g), 198, sl) _
    refine wp_iam rfl (aset_self _ _ _ _) (hI_in (by omega) (by omega)) (by decide) ?_
    rw [nI_clamp (by omega)]
    show pm_WP PT fr lo 239 (134, [some (.ref 162), some (.int (nI a)), some (.int (nI b)), some (.int hv), some (.int gv), some (.int (nI m)), some (.int (nI i)), x7, x8, x9, x10], [.int (g (6 * m + i))], (aset h 186 600 g), 198, sl) _
    refine wp_i rfl rfl rfl rfl ?_
    refine wp_i rfl rfl rfl rfl ?_
    refine wp_i rfl rfl rfl rfl ?_
    show pm_WP PT fr lo 239 (139, [some (.ref 162), some (.int (nI a)), some (.int (nI b)), some (.int hv), some (.int gv), some (.int (nI m)), some (.int (nI i)), some (.int (g (6 * m + i))), some (.int 0), x9, x10], [], (aset h 186 600 g), 198, sl) _
    refine wk_J h3 hc h40 h11 hR hw hm (by omega) hf hl (fun g2 y8 y9 y10 q2 => ?_) c 0 g _ _ (by omega) q
    refine wp_i rfl rfl rfl rfl ?_
    refine wp_i rfl rfl rfl rfl ?_
    show pm_WP PT fr lo 239 (112, [some (.ref 162), some (.int (nI a)), some (.int (nI b)), some (.int hv), some (.int gv), some (.int (nI m)), some (.int (nI i + 1)), some (.int (g (6 * m + i))), y8, y9, y10], [], (aset h 186 600 g2), 198, sl) _
    rw [nI_1 i]
    exact ih (i + 1) g2 _ _ _ _ (by omega) q2
theorem wk_M (h3 : mF h 3 (.int (nI c))) (hc : c ≤ 6) (h40 : mF h 40 (.ref 186)) (h11 : mF h 11 (.ref 169)) (hR : h 169 = .inl (0, 36, .inl rd)) (hw : rdOk rd w) (hb : b < 6) (hf : 1 ≤ fr) (hl : 20 ≤ lo) (kk : ∀ g x, wkI g → Q (some (.int x), aset h 186 600 g, 198, sl)) : ∀ (n m : Nat) (g : Nat → Int32) (x6 x7 x8 x9 x10 : Option Value), m + n = 100 → wkI g → pm_WP PT fr lo 239 (84, [some (.ref 162), some (.int (nI a)), some (.int (nI b)), some (.int hv), some (.int gv), some (.int (nI m)), x6, x7, x8, x9, x10], [], aset h 186 600 g, 198, sl) Q := by
  intro n
  induction n with
  | zero =>
    intro m g x6 x7 x8 x9 x10 hj q
    obtain rfl : m = 100 := by omega
    refine wp_i rfl rfl rfl rfl ?_
    refine wp_i rfl rfl rfl rfl ?_
    show pm_WP PT fr lo 239 (88, [some (.ref 162), some (.int (nI a)), some (.int (nI b)), some (.int hv), some (.int gv), some (.int (nI 100)), x6, x7, x8, x9, x10], [.int 99, .int (nI 100)], (aset h 186 600 g), 198, sl) _
    refine wp_icmp (c := .gt) (off := 162) (t := 250) rfl rfl (fun _ => ?_) (fun q => absurd (q.symm.trans ((hI_gt (b := 99) (by omega) (by omega)).trans (decide_eq_true (by omega)))) (by decide))
    refine wp_i rfl rfl rfl rfl ?_
    show pm_WP PT fr lo 239 (252, [some (.ref 162), some (.int (nI a)), some (.int (nI b)), some (.int hv), some (.int gv), some (.int (nI 100)), x6, x7, x8, x9, x10], [.int (-2)], (aset h 186 600 g), 198, sl) _
    exact wp_iret rfl rfl (kk g _ q)
  | succ n ih =>
    intro m g x6 x7 x8 x9 x10 hj q
    refine wp_i rfl rfl rfl rfl ?_
    refine wp_i rfl rfl rfl rfl ?_
    show pm_WP PT fr lo 239 (88, [some (.ref 162), some (.int (nI a)), some (.int (nI b)), some (.int hv), some (.int gv), some (.int (nI m)), x6, x7, x8, x9, x10], [.int 99, .int (nI m)], (aset h 186 600 g), 198, sl) _
    refine wp_icmp (c := .gt) (off := 162) (t := 250) rfl rfl (fun q => absurd (q.symm.trans ((hI_gt (b := 99) (by omega) (by omega)).trans (decide_eq_false (by omega)))) (by decide)) (fun _ => ?_)
    refine wp_i rfl rfl rfl rfl ?_
    show pm_WP PT fr lo 239 (92, [some (.ref 162), some (.int (nI a)), some (.int (nI b)), some (.int hv), some (.int gv), some (.int (nI m)), x6, x7, x8, x9, x10], [.ref 162], (aset h 186 600 g), 198, sl) _
    refine wp_gfm rfl rfl (mF_as (by decide) h40) ?_
    refine wp_i rfl rfl rfl rfl ?_
    refine wp_i rfl rfl rfl rfl ?_
    refine wp_i rfl rfl rfl rfl ?_
    refine wp_i rfl rfl rfl rfl ?_
    refine wp_i rfl rfl rfl rfl ?_
    show pm_WP PT fr lo 239 (102, [some (.ref 162), some (.int (nI a)), some (.int (nI b)), some (.int hv), some (.int gv), some (.int (nI m)), x6, x7, x8, x9, x10], [.int ((6 * (nI m)) + (nI b)), .ref 186], (aset h 186 600 g), 198, sl) _
    rw [ix6 m b]
    show pm_WP PT fr lo 239 (102, [some (.ref 162), some (.int (nI a)), some (.int (nI b)), some (.int hv), some (.int gv), some (.int (nI m)), x6, x7, x8, x9, x10], [.int (nI (6 * m + b)), .ref 186], (aset h 186 600 g), 198, sl) _
    refine wp_iam rfl (aset_self _ _ _ _) (hI_in (by omega) (by omega)) (by decide) ?_
    rw [nI_clamp (by omega)]
    show pm_WP PT fr lo 239 (103, [some (.ref 162), some (.int (nI a)), some (.int (nI b)), some (.int hv), some (.int gv), some (.int (nI m)), x6, x7, x8, x9, x10], [.int (g (6 * m + b))], (aset h 186 600 g), 198, sl) _
    show pm_WP PT fr lo 239 (103, [some (.ref 162), some (.int (nI a)), some (.int (nI b)), some (.int hv), some (.int gv), some (.int (nI m)), x6, x7, x8, x9, x10], [.int (g (6 * m + b))], (aset h 186 600 g), 198, sl) _
    refine wp_if (c := .lt) (off := 6) (t := 109) rfl rfl (fun q1 => ?_) (fun q1 => ?_)
    · refine wp_i rfl rfl rfl rfl ?_
      refine wp_i rfl rfl rfl rfl ?_
      show pm_WP PT fr lo 239 (112, [some (.ref 162), some (.int (nI a)), some (.int (nI b)), some (.int hv), some (.int gv), some (.int (nI m)), some (.int 0), x7, x8, x9, x10], [], (aset h 186 600 g), 198, sl) _
      refine wk_I h3 hc h40 h11 hR hw (by omega) hf hl (fun g2 y6 y7 y8 y9 y10 q2 => ?_) c 0 g _ _ _ _ (by omega) q
      refine wp_i rfl rfl rfl rfl ?_
      refine wp_i rfl rfl rfl rfl ?_
      show pm_WP PT fr lo 239 (84, [some (.ref 162), some (.int (nI a)), some (.int (nI b)), some (.int hv), some (.int gv), some (.int (nI m + 1)), y6, y7, y8, y9, y10], [], (aset h 186 600 g2), 198, sl) _
      rw [nI_1 m]
      exact ih (m + 1) g2 _ _ _ _ _ (by omega) q2
    · refine wp_i rfl rfl rfl rfl ?_
      show pm_WP PT fr lo 239 (108, [some (.ref 162), some (.int (nI a)), some (.int (nI b)), some (.int hv), some (.int gv), some (.int (nI m)), x6, x7, x8, x9, x10], [.int (nI m)], (aset h 186 600 g), 198, sl) _
      exact wp_iret rfl rfl (kk g _ q)
def wlC (i : Nat) : Bool := Nat.beq i 186
theorem hm_walks (hI : mInv h) (x y hv gv : Int32) (hf : 100 ≤ fr) (hl : 4000 ≤ lo) : pm_WP PT fr lo 239 (0, pm_l0 [.ref 162, .int x, .int y, .int hv, .int gv] 11, [], h, 198, sl) (mPost anInt h sl) := by
  obtain ⟨hh, hq⟩ := id hI
  obtain ⟨x0, h0, -⟩ := ty_fld hh (g := 0) rfl
  obtain ⟨c, h3, hc⟩ := ty_nat hh (g := 3) (u := 6) rfl (by decide)
  have h40 := ty_ref hh (g := 40) (p := 186) rfl
  have h11 := ty_ref hh (g := 11) (p := 169) rfl
  obtain ⟨rd, w, hR, hw⟩ := ty_rd hh
  obtain ⟨f0, hF, tF⟩ := ty_arr hh (i := 186) (by decide) rfl rfl (by decide)
  have fin : ∀ (g : Nat → Int32) (v : Int32), wkI g → mPost anInt h sl (some (.int v), aset (mset h 0 (.int 0)) 186 600 g, 198, sl) := by
    intro g v q
    have d : dD wlC g0G h (aset (mset h 0 (.int 0)) 186 600 g) := dD_tr (dD_set rfl) (dD_arr rfl (by decide))
    refine ⟨⟨_, rfl⟩, rfl, x_lt d (fun i hi => nb_ne (by omega)), dD_ty hh d (fun i hi _ _ => ?_) (fun k hg b hb => ?_), rxQ_dD d rfl rfl rfl rfl rfl rfl hq⟩
    · have := Nat.eq_of_beq_eq_true hi
      subst this
      show ac_ok (aset (mset h 0 (.int 0)) 186 600 g 186) _
      rw [aset_self]
      exact ⟨rfl, rfl, fun j hj => ⟨rfl, q j hj, (ai_top_ok (g j)).2.2⟩⟩
    · have := Nat.eq_of_beq_eq_true hg
      subst this
      cases (Option.some.inj hb : _ = b)
      exact ⟨_, mF_as (by decide) (mF_self h0), ⟨rfl, by decide, by decide⟩⟩
  refine wp_i rfl rfl rfl rfl ?_
  refine wp_i rfl rfl rfl rfl ?_
  show pm_WP PT fr lo 239 (2, [some (.ref 162), some (.int x), some (.int y), some (.int hv), some (.int gv), none, none, none, none, none, none], [.int 0, .ref 162], h, 198, sl) _
  refine wp_pfm rfl rfl rfl (by decide) h0 ?_
  refine wp_i rfl rfl rfl rfl ?_
  refine wp_i rfl rfl rfl rfl ?_
  show pm_WP PT fr lo 239 (7, [some (.ref 162), some (.int x), some (.int y), some (.int hv), some (.int gv), none, none, none, none, none, none], [.int x, .ref 162], (mset h 0 (.int 0)), 198, sl) _
  refine wp_callM (t := 168) (As := [.int x]) (rest := []) (mx := 2) rfl rfl rfl rfl (Nat.le_of_ble_eq_true rfl) (Nat.le_of_ble_eq_true rfl) (by omega) (by omega) rfl (mF_obj (mF_self h0)) (wp_mono (hd_isCourt (c := c) x (mF_ne (by decide) h3) (by omega) (by omega)) ?_)
  rintro _ rfl
  cases b1 : in_b x.toInt64 0 (nI c - 1).toInt64 with
  | false =>
    show pm_WP PT fr lo 239 (10, [some (.ref 162), some (.int x), some (.int y), some (.int hv), some (.int gv), none, none, none, none, none, none], [.int 0], (mset h 0 (.int 0)), 198, sl) _
    refine wp_i rfl rfl rfl rfl ?_
    refine wp_i rfl rfl rfl rfl ?_
    show pm_WP PT fr lo 239 (47, [some (.ref 162), some (.int x), some (.int y), some (.int hv), some (.int gv), none, none, none, none, none, none], [.int (-1)], (mset h 0 (.int 0)), 198, sl) _
    exact wp_iret rfl rfl (post0 hI h0 ⟨_, rfl⟩)
  | true =>
    show pm_WP PT fr lo 239 (10, [some (.ref 162), some (.int x), some (.int y), some (.int hv), some (.int gv), none, none, none, none, none, none], [.int 1], (mset h 0 (.int 0)), 198, sl) _
    refine wp_i rfl rfl rfl rfl ?_
    refine wp_i rfl rfl rfl rfl ?_
    refine wp_i rfl rfl rfl rfl ?_
    show pm_WP PT fr lo 239 (15, [some (.ref 162), some (.int x), some (.int y), some (.int hv), some (.int gv), none, none, none, none, none, none], [.int y, .ref 162], (mset h 0 (.int 0)), 198, sl) _
    refine wp_callM (t := 168) (As := [.int y]) (rest := []) (mx := 2) rfl rfl rfl rfl (Nat.le_of_ble_eq_true rfl) (Nat.le_of_ble_eq_true rfl) (by omega) (by omega) rfl (mF_obj (mF_self h0)) (wp_mono (hd_isCourt (c := c) y (mF_ne (by decide) h3) (by omega) (by omega)) ?_)
    rintro _ rfl
    cases b2 : in_b y.toInt64 0 (nI c - 1).toInt64 with
    | false =>
      show pm_WP PT fr lo 239 (18, [some (.ref 162), some (.int x), some (.int y), some (.int hv), some (.int gv), none, none, none, none, none, none], [.int 0], (mset h 0 (.int 0)), 198, sl) _
      refine wp_i rfl rfl rfl rfl ?_
      refine wp_i rfl rfl rfl rfl ?_
      show pm_WP PT fr lo 239 (47, [some (.ref 162), some (.int x), some (.int y), some (.int hv), some (.int gv), none, none, none, none, none, none], [.int (-1)], (mset h 0 (.int 0)), 198, sl) _
      exact wp_iret rfl rfl (post0 hI h0 ⟨_, rfl⟩)
    | true =>
      show pm_WP PT fr lo 239 (18, [some (.ref 162), some (.int x), some (.int y), some (.int hv), some (.int gv), none, none, none, none, none, none], [.int 1], (mset h 0 (.int 0)), 198, sl) _
      refine wp_i rfl rfl rfl rfl ?_
      refine wp_i rfl rfl rfl rfl ?_
      refine wp_i rfl rfl rfl rfl ?_
      refine wp_i rfl rfl rfl rfl ?_
      refine wp_i rfl rfl rfl rfl ?_
      show pm_WP PT fr lo 239 (27, [some (.ref 162), some (.int x), some (.int y), some (.int hv), some (.int gv), none, none, none, none, none, none], [.long 9, .long 0, .long (hv).toInt64], (mset h 0 (.int 0)), 198, sl) _
      refine wp_callS (t := 163) (As := [.long (hv).toInt64, .long 0, .long 9]) (rest := []) (mx := 6) rfl rfl rfl rfl (Nat.le_of_ble_eq_true rfl) (Nat.le_of_ble_eq_true rfl) (by omega) (by omega) (wp_mono (hd_in hv.toInt64 0 9) ?_)
      rintro _ rfl
      cases b3 : in_b hv.toInt64 0 9 with
      | false =>
        show pm_WP PT fr lo 239 (30, [some (.ref 162), some (.int x), some (.int y), some (.int hv), some (.int gv), none, none, none, none, none, none], [.int 0], (mset h 0 (.int 0)), 198, sl) _
        refine wp_i rfl rfl rfl rfl ?_
        refine wp_i rfl rfl rfl rfl ?_
        show pm_WP PT fr lo 239 (47, [some (.ref 162), some (.int x), some (.int y), some (.int hv), some (.int gv), none, none, none, none, none, none], [.int (-1)], (mset h 0 (.int 0)), 198, sl) _
        exact wp_iret rfl rfl (post0 hI h0 ⟨_, rfl⟩)
      | true =>
        show pm_WP PT fr lo 239 (30, [some (.ref 162), some (.int x), some (.int y), some (.int hv), some (.int gv), none, none, none, none, none, none], [.int 1], (mset h 0 (.int 0)), 198, sl) _
        refine wp_i rfl rfl rfl rfl ?_
        refine wp_i rfl rfl rfl rfl ?_
        refine wp_i rfl rfl rfl rfl ?_
        refine wp_i rfl rfl rfl rfl ?_
        refine wp_i rfl rfl rfl rfl ?_
        show pm_WP PT fr lo 239 (40, [some (.ref 162), some (.int x), some (.int y), some (.int hv), some (.int gv), none, none, none, none, none, none], [.long 99, .long 0, .long (gv).toInt64], (mset h 0 (.int 0)), 198, sl) _
        refine wp_callS (t := 163) (As := [.long (gv).toInt64, .long 0, .long 99]) (rest := []) (mx := 6) rfl rfl rfl rfl (Nat.le_of_ble_eq_true rfl) (Nat.le_of_ble_eq_true rfl) (by omega) (by omega) (wp_mono (hd_in gv.toInt64 0 99) ?_)
        rintro _ rfl
        cases b4 : in_b gv.toInt64 0 99 with
        | false =>
          show pm_WP PT fr lo 239 (43, [some (.ref 162), some (.int x), some (.int y), some (.int hv), some (.int gv), none, none, none, none, none, none], [.int 0], (mset h 0 (.int 0)), 198, sl) _
          refine wp_i rfl rfl rfl rfl ?_
          refine wp_i rfl rfl rfl rfl ?_
          show pm_WP PT fr lo 239 (47, [some (.ref 162), some (.int x), some (.int y), some (.int hv), some (.int gv), none, none, none, none, none, none], [.int (-1)], (mset h 0 (.int 0)), 198, sl) _
          exact wp_iret rfl rfl (post0 hI h0 ⟨_, rfl⟩)
        | true =>
          show pm_WP PT fr lo 239 (43, [some (.ref 162), some (.int x), some (.int y), some (.int hv), some (.int gv), none, none, none, none, none, none], [.int 1], (mset h 0 (.int 0)), 198, sl) _
          refine wp_i rfl rfl rfl rfl ?_
          obtain ⟨a, rfl, ha⟩ := isC_iv hc b1
          obtain ⟨b, rfl, hb⟩ := isC_iv hc b2
          have hg := in_ge b4
          show pm_WP PT fr lo 239 (48, [some (.ref 162), some (.int (nI a)), some (.int (nI b)), some (.int hv), some (.int gv), none, none, none, none, none, none], [], (mset h 0 (.int 0)), 198, sl) _
          refine wp_i rfl rfl rfl rfl ?_
          refine wp_i rfl rfl rfl rfl ?_
          show pm_WP PT fr lo 239 (51, [some (.ref 162), some (.int (nI a)), some (.int (nI b)), some (.int hv), some (.int gv), some (.int 0), none, none, none, none, none], [], (mset h 0 (.int 0)), 198, sl) _
          have key := wk_A (fr := fr) (lo := lo) (sl := sl) (h := mset h 0 (.int 0)) (a := a) (b := b) (hv := hv) (gv := gv) (Q := mPost anInt h sl) (mF_ne (by decide) h40) (fun g q => ?_) 600 0 f0 (by omega) (fun j hj => (tF j hj).1)
          · rw [aset_same (mset_arr (by decide) hF)] at key
            exact key
          · refine wp_i rfl rfl rfl rfl ?_
            show pm_WP PT fr lo 239 (74, [some (.ref 162), some (.int (nI a)), some (.int (nI b)), some (.int hv), some (.int gv), some (.int (nI 600)), none, none, none, none, none], [.ref 162], (aset (mset h 0 (.int 0)) 186 600 g), 198, sl) _
            refine wp_gfm rfl rfl (mF_as (by decide) (mF_ne (by decide) h40)) ?_
            refine wp_i rfl rfl rfl rfl ?_
            refine wp_i rfl rfl rfl rfl ?_
            show pm_WP PT fr lo 239 (80, [some (.ref 162), some (.int (nI a)), some (.int (nI b)), some (.int hv), some (.int gv), some (.int (nI 600)), none, none, none, none, none], [.int gv, .int (nI a), .ref 186], (aset (mset h 0 (.int 0)) 186 600 g), 198, sl) _
            refine wp_ism rfl (aset_self _ _ _ _) (hI_in (by omega) (by omega)) (by decide) ?_
            rw [nI_clamp (by omega), aset_aset]
            show pm_WP PT fr lo 239 (81, [some (.ref 162), some (.int (nI a)), some (.int (nI b)), some (.int hv), some (.int gv), some (.int (nI 600)), none, none, none, none, none], [], (aset (mset h 0 (.int 0)) 186 600 (upd g a gv)), 198, sl) _
            refine wp_i rfl rfl rfl rfl ?_
            refine wp_i rfl rfl rfl rfl ?_
            show pm_WP PT fr lo 239 (84, [some (.ref 162), some (.int (nI a)), some (.int (nI b)), some (.int hv), some (.int gv), some (.int 0), none, none, none, none, none], [], (aset (mset h 0 (.int 0)) 186 600 (upd g a gv)), 198, sl) _
            exact wk_M (w := w) (mF_ne (by decide) h3) hc (mF_ne (by decide) h40) (mF_ne (by decide) h11) (mset_arr (by decide) hR) hw (by omega) (by omega) (by omega) (fun g2 v q2 => fin g2 v q2) 100 0 _ none none none none none (by omega) (wkI_up q (by omega))
end WLK
end MG74alivex2
end MH69rxs11x2
section MH69rxs11x3
section MG77answerx0
/-! answer, by hand -/
section ANS
variable {fr lo sl : Nat} {h : pm_H} {Q : pm_Rs → Prop}
def rxrS : con := (217, [(2, 162, 1), (2, 171, 1), (0, 0, 7), (0, 0, 5)], [], [some (0, (-2), (-2)), some (0, 0, 20)], [], 75, 4200, false)
def rxzS : List ast := [(18, [some (2, 162, 1), some (2, 171, 1), some (0, 0, 7), some (0, 0, 5), none, none, none, none, none], [], [])]
theorem rxsS : seg_chk [] (kn_or (kl bB rxF [rxt7, rxt14, rxt15]) rk) PT bB 198 rxF0 rxJ rxjo rxP 1179 rxrS rxzS = true := fq_seg2 (fq_jn_eq _) rfl (by decide +kernel)
theorem rxoS : seg_ok PT bB 198 rxF rxQ rxrS rxzS := seg_chk_ok rxle rxpp (kn_or_ok (kl_ok (List.forall_mem_cons.mpr ⟨rxo7, List.forall_mem_cons.mpr ⟨rxo14, List.forall_mem_cons.mpr ⟨rxo15, fun _ h => (by cases h)⟩⟩⟩)) rk_ok) seg_nil rxsS
theorem in_iv {j c : Nat} (hj : j < c) (hc : c ≤ 8) : in_b (nI j).toInt64 0 (nI c - 1).toInt64 = true := by
  have : ∀ c : Nat, c ≤ 8 → ∀ j : Nat, j < c → in_b (nI j).toInt64 0 (nI c - 1).toInt64 = true := by decide
  exact this c hc j hj
theorem hd_isGift {c : Nat} (x : Int32) (h4 : mF h 4 (.int (nI c))) (hf : 1 ≤ fr) (hl : 30 ≤ lo) : pm_WP PT fr lo 169 (0, pm_l0 [.ref 162, .int x] 2, [], h, 198, sl) (fun r => r = (some (.int (cond (in_b x.toInt64 0 (nI c - 1).toInt64) 1 0)), h, 198, sl)) := by
  refine wp_i rfl rfl rfl rfl ?_
  refine wp_i rfl rfl rfl rfl ?_
  refine wp_i rfl rfl rfl rfl ?_
  refine wp_i rfl rfl rfl rfl ?_
  show pm_WP PT fr lo 169 (4, [some (.ref 162), some (.int x)], [.ref 162, .long 0, .long (x).toInt64], h, 198, sl) _
  refine wp_gfm rfl rfl h4 ?_
  refine wp_i rfl rfl rfl rfl ?_
  refine wp_i rfl rfl rfl rfl ?_
  refine wp_i rfl rfl rfl rfl ?_
  show pm_WP PT fr lo 169 (10, [some (.ref 162), some (.int x)], [.long (((nI c) - 1)).toInt64, .long 0, .long (x).toInt64], h, 198, sl) _
  refine wp_callS (t := 163) (As := [.long (x).toInt64, .long 0, .long (((nI c) - 1)).toInt64]) (rest := []) (mx := 6) rfl rfl rfl rfl (Nat.le_of_ble_eq_true rfl) (Nat.le_of_ble_eq_true rfl) hf (by omega) (wp_mono (hd_in x.toInt64 0 (nI c - 1).toInt64) ?_)
  rintro _ rfl
  show pm_WP PT fr lo 169 (13, [some (.ref 162), some (.int x)], [.int (cond (in_b x.toInt64 0 (nI c - 1).toInt64) 1 0)], h, 198, sl) _
  exact wp_zret rfl rfl (by cases in_b x.toInt64 0 (nI c - 1).toInt64; exact Or.inl rfl; exact Or.inr rfl) rfl
theorem hd_arePair {c : Nat} (hc : c ≤ 6) (x y : Int32) (h3 : mF h 3 (.int (nI c))) (hf : 2 ≤ fr) (hl : 80 ≤ lo) : pm_WP PT fr lo 170 (0, pm_l0 [.ref 162, .int x, .int y] 3, [], h, 198, sl) (fun r => ∃ v : Int32, r = (some (.int v), h, 198, sl) ∧ (v = 0 ∨ v = 1 ∧ ∃ a b, x = nI a ∧ y = nI b ∧ a < c ∧ b < c)) := by
  refine wp_i rfl rfl rfl rfl ?_
  refine wp_i rfl rfl rfl rfl ?_
  show pm_WP PT fr lo 170 (2, [some (.ref 162), some (.int x), some (.int y)], [.int x, .ref 162], h, 198, sl) _
  refine wp_callM (t := 168) (As := [.int x]) (rest := []) (mx := 2) rfl rfl rfl rfl (Nat.le_of_ble_eq_true rfl) (Nat.le_of_ble_eq_true rfl) (by omega) (by omega) rfl (mF_obj h3) (wp_mono (hd_isCourt (c := c) x h3 (by omega) (by omega)) ?_)
  rintro _ rfl
  cases b1 : in_b x.toInt64 0 (nI c - 1).toInt64 with
  | false =>
    show pm_WP PT fr lo 170 (5, [some (.ref 162), some (.int x), some (.int y)], [.int 0], h, 198, sl) _
    refine wp_i rfl rfl rfl rfl ?_
    refine wp_i rfl rfl rfl rfl ?_
    show pm_WP PT fr lo 170 (26, [some (.ref 162), some (.int x), some (.int y)], [.int 0], h, 198, sl) _
    exact wp_zret rfl rfl (Or.inl rfl) ⟨0, rfl, Or.inl rfl⟩
  | true =>
    show pm_WP PT fr lo 170 (5, [some (.ref 162), some (.int x), some (.int y)], [.int 1], h, 198, sl) _
    refine wp_i rfl rfl rfl rfl ?_
    refine wp_i rfl rfl rfl rfl ?_
    refine wp_i rfl rfl rfl rfl ?_
    show pm_WP PT fr lo 170 (10, [some (.ref 162), some (.int x), some (.int y)], [.int y, .ref 162], h, 198, sl) _
    refine wp_callM (t := 168) (As := [.int y]) (rest := []) (mx := 2) rfl rfl rfl rfl (Nat.le_of_ble_eq_true rfl) (Nat.le_of_ble_eq_true rfl) (by omega) (by omega) rfl (mF_obj h3) (wp_mono (hd_isCourt (c := c) y h3 (by omega) (by omega)) ?_)
    rintro _ rfl
    cases b2 : in_b y.toInt64 0 (nI c - 1).toInt64 with
    | false =>
      show pm_WP PT fr lo 170 (13, [some (.ref 162), some (.int x), some (.int y)], [.int 0], h, 198, sl) _
      refine wp_i rfl rfl rfl rfl ?_
      refine wp_i rfl rfl rfl rfl ?_
      show pm_WP PT fr lo 170 (26, [some (.ref 162), some (.int x), some (.int y)], [.int 0], h, 198, sl) _
      exact wp_zret rfl rfl (Or.inl rfl) ⟨0, rfl, Or.inl rfl⟩
    | true =>
      show pm_WP PT fr lo 170 (13, [some (.ref 162), some (.int x), some (.int y)], [.int 1], h, 198, sl) _
      refine wp_i rfl rfl rfl rfl ?_
      obtain ⟨a, rfl, ha⟩ := isC_iv hc b1
      obtain ⟨b, rfl, hb⟩ := isC_iv hc b2
      show pm_WP PT fr lo 170 (16, [some (.ref 162), some (.int (nI a)), some (.int (nI b))], [], h, 198, sl) _
      refine wp_i rfl rfl rfl rfl ?_
      refine wp_i rfl rfl rfl rfl ?_
      show pm_WP PT fr lo 170 (18, [some (.ref 162), some (.int (nI a)), some (.int (nI b))], [.int (nI b), .int (nI a)], h, 198, sl) _
      refine wp_icmp (c := .eq) (off := 7) (t := 25) rfl rfl (fun q => ?_) (fun q => ?_)
      · refine wp_i rfl rfl rfl rfl ?_
        show pm_WP PT fr lo 170 (26, [some (.ref 162), some (.int (nI a)), some (.int (nI b))], [.int 0], h, 198, sl) _
        exact wp_zret rfl rfl (Or.inl rfl) ⟨0, rfl, Or.inl rfl⟩
      · refine wp_i rfl rfl rfl rfl ?_
        refine wp_i rfl rfl rfl rfl ?_
        show pm_WP PT fr lo 170 (26, [some (.ref 162), some (.int (nI a)), some (.int (nI b))], [.int 1], h, 198, sl) _
        exact wp_zret rfl rfl (Or.inr rfl) ⟨1, rfl, Or.inr ⟨rfl, a, b, rfl, rfl, ha, hb⟩⟩
theorem hd_sends {g y : Nat} {n c : Nat} (hI : mInv h) (h4 : mF h 4 (.int (nI n))) (h3 : mF h 3 (.int (nI c))) (hn : n ≤ 8) (hc : c ≤ 6) (hg : g < n) (hy : y < c) (hf : 75 ≤ fr) (hl : 4200 ≤ lo) : pm_WP PT fr lo 217 (0, pm_l0 [.ref 162, .ref 171, .int (nI g), .int (nI y)] 9, [], h, 198, sl) (fun r => ∃ (s : Int32) (h2 : pm_H), r = (some (.int s), h2, 198, sl) ∧ (s.toInt = -2 ∨ 0 ≤ s.toInt) ∧ fm rxF h h2 ∧ mInv h2) := by
  refine wp_i rfl rfl rfl rfl ?_
  refine wp_i rfl rfl rfl rfl ?_
  show pm_WP PT fr lo 217 (2, [some (.ref 162), some (.ref 171), some (.int (nI g)), some (.int (nI y)), none, none, none, none, none], [.int (nI g), .ref 162], h, 198, sl) _
  refine wp_callM (t := 169) (As := [.int (nI g)]) (rest := []) (mx := 2) rfl rfl rfl rfl (Nat.le_of_ble_eq_true rfl) (Nat.le_of_ble_eq_true rfl) (by omega) (by omega) rfl (mF_obj h3) (wp_mono (hd_isGift (nI g) h4 (by omega) (by omega)) ?_)
  rintro _ rfl
  rw [in_iv hg hn]
  show pm_WP PT fr lo 217 (5, [some (.ref 162), some (.ref 171), some (.int (nI g)), some (.int (nI y)), none, none, none, none, none], [.int 1], h, 198, sl) _
  refine wp_i rfl rfl rfl rfl ?_
  refine wp_i rfl rfl rfl rfl ?_
  refine wp_i rfl rfl rfl rfl ?_
  show pm_WP PT fr lo 217 (10, [some (.ref 162), some (.ref 171), some (.int (nI g)), some (.int (nI y)), none, none, none, none, none], [.int (nI y), .ref 162], h, 198, sl) _
  refine wp_callM (t := 168) (As := [.int (nI y)]) (rest := []) (mx := 2) rfl rfl rfl rfl (Nat.le_of_ble_eq_true rfl) (Nat.le_of_ble_eq_true rfl) (by omega) (by omega) rfl (mF_obj h3) (wp_mono (hd_isCourt (nI y) h3 (by omega) (by omega)) ?_)
  rintro _ rfl
  rw [in_iv hy (by omega)]
  show pm_WP PT fr lo 217 (13, [some (.ref 162), some (.ref 171), some (.int (nI g)), some (.int (nI y)), none, none, none, none, none], [.int 1], h, 198, sl) _
  refine wp_i rfl rfl rfl rfl ?_
  show pm_WP PT fr lo 217 (18, [some (.ref 162), some (.ref 171), some (.int (nI g)), some (.int (nI y)), none, none, none, none, none], [], h, 198, sl) _
  refine wp_mono (rxoS (18, [some (.ref 162), some (.ref 171), some (.int (nI g)), some (.int (nI y)), none, none, none, none, none], [], h, 198, sl) fr lo sl ⟨_, List.mem_singleton_self _, rfl, ⟨rfl, fun i a ha => ?_⟩, trivial, hI.1, rfl, rfl⟩ hI.2 hf hl) ?_
  · match i, ha with
    | 0, ha => cases (Option.some.inj (Option.some.inj ha) : _ = a); exact ⟨_, rfl, rfl, List.mem_singleton_self _⟩
    | 1, ha => cases (Option.some.inj (Option.some.inj ha) : _ = a); exact ⟨_, rfl, rfl, List.mem_singleton_self _⟩
    | 2, ha => cases (Option.some.inj (Option.some.inj ha) : _ = a); exact ⟨_, rfl, av_nI (by omega) (by omega) (by omega)⟩
    | 3, ha => cases (Option.some.inj (Option.some.inj ha) : _ = a); exact ⟨_, rfl, av_nI (by omega) (by omega) (by omega)⟩
    | 4, ha => cases (Option.some.inj ha : none = some a)
    | 5, ha => cases (Option.some.inj ha : none = some a)
    | 6, ha => cases (Option.some.inj ha : none = some a)
    | 7, ha => cases (Option.some.inj ha : none = some a)
    | 8, ha => cases (Option.some.inj ha : none = some a)
    | _ + 9, ha => cases ha
  · rintro ⟨v, h2, s⟩ ⟨⟨a, ha, hv⟩, e, ⟨f1, f2⟩, f3⟩
    cases e
    have ha : a = some (0, -2, -2) ∨ a = some (0, 0, 20) := by simpa [rxrS] using ha
    obtain ⟨v⟩ | v := v
    · rcases ha with rfl | rfl <;> exact hv.elim
    · rcases ha with rfl | rfl
      · obtain ⟨x, rfl, a1, a2⟩ := av_int rfl hv
        have a1 : (-2 : Int) ≤ x.toInt := a1
        have a2 : x.toInt ≤ (-2 : Int) := a2
        exact ⟨x, h2, rfl, Or.inl (by omega), f1, f3, f2⟩
      · obtain ⟨x, rfl, a1, a2⟩ := av_int rfl hv
        exact ⟨x, h2, rfl, Or.inr a1, f1, f3, f2⟩
def c171 (i : Nat) : Bool := Nat.beq i 171
theorem hm_copies (hI : mInv h) : pm_WP PT fr lo 229 (0, pm_l0 [.ref 162] 2, [], h, 198, sl) (fun r => ∃ h2 : pm_H, r = (none, h2, 198, sl) ∧ dD c171 noC h h2 ∧ mInv h2) := by
  have h12 := ty_ref hI.1 (g := 12) (p := 170) rfl
  have h13 := ty_ref hI.1 (g := 13) (p := 171) rfl
  obtain ⟨f, hN, -⟩ := ty_arrE hI.1 (i := 170) (by decide) rfl
  obtain ⟨g, hT, -⟩ := ty_arrE hI.1 (i := 171) (by decide) rfl
  refine wp_mono (hd_copies h13 h12 hN hT) ?_
  rintro _ ⟨g2, rfl, eg⟩
  have d : dD c171 noC h (aset h 171 96 g2) := dD_arr rfl (by decide)
  refine ⟨_, rfl, d, dD_ty hI.1 d (fun i hi _ _ => ?_) (fun k hg b hb => by cases hg), rxQ_dD d rfl rfl rfl rfl rfl rfl hI.2⟩
  have := Nat.eq_of_beq_eq_true hi
  subst this
  show ac_ok (aset h 171 96 g2 171) (bB 170)
  rw [aset_self]
  refine ty_row (fun j hj => ?_)
  rw [eg j hj]
  exact ty_row_of hI.1 hN j hj
/-- the best so far -/
def anB (x3 x4 : Int32) : Prop := (x3 = -2 ∧ x4 = -1) ∨ (∃ k, x3 = nI k ∧ k < 8) ∧ 0 ≤ x4.toInt
/-- between its turns -/
def anI (h0 h : pm_H) : Prop := mInv h ∧ (∀ i, i < 162 → h i = h0 i) ∧ ∀ g v, (g = 3 ∨ g = 4) → mF h0 g v → mF h g v
theorem an_L {h0 : pm_H} {c n a b : Nat} (h3 : mF h0 3 (.int (nI c))) (h4 : mF h0 4 (.int (nI n))) (hn : n ≤ 8) (hc : c ≤ 6) (hb : b < c) (hf : 100 ≤ fr) (hl : 5000 ≤ lo) (kk : ∀ h x3 x4 x5 x7, anI h0 h → pm_WP PT fr lo 232 (117, [some (.ref 162), some (.int (nI a)), some (.int (nI b)), some (.int x3), some (.int x4), some (.int x5), some (.int (nI n)), x7], [], h, 198, sl) Q) : ∀ (m i : Nat) (h : pm_H) (x3 x4 x5 : Int32) (x7 : Option Value), i + m = n → anI h0 h → anB x3 x4 → pm_WP PT fr lo 232 (28, [some (.ref 162), some (.int (nI a)), some (.int (nI b)), some (.int x3), some (.int x4), some (.int x5), some (.int (nI i)), x7], [], h, 198, sl) Q := by
  intro m
  induction m with
  | zero =>
    intro i h x3 x4 x5 x7 hi hA hB
    obtain rfl : i = n := by omega
    have m4 := hA.2.2 4 _ (Or.inr rfl) h4
    refine wp_i rfl rfl rfl rfl ?_
    refine wp_i rfl rfl rfl rfl ?_
    show pm_WP PT fr lo 232 (31, [some (.ref 162), some (.int (nI a)), some (.int (nI b)), some (.int x3), some (.int x4), some (.int x5), some (.int (nI i)), x7], [.ref 162, .int (nI i)], h, 198, sl) _
    refine wp_gfm rfl rfl m4 ?_
    show pm_WP PT fr lo 232 (34, [some (.ref 162), some (.int (nI a)), some (.int (nI b)), some (.int x3), some (.int x4), some (.int x5), some (.int (nI i)), x7], [.int (nI i), .int (nI i)], h, 198, sl) _
    refine wp_icmp (c := .ge) (off := 83) (t := 117) rfl rfl (fun _ => ?_) (fun q => absurd (q.symm.trans ((hI_ge (by omega) (by omega)).trans (decide_eq_true (by omega)))) (by decide))
    show pm_WP PT fr lo 232 (117, [some (.ref 162), some (.int (nI a)), some (.int (nI b)), some (.int x3), some (.int x4), some (.int x5), some (.int (nI i)), x7], [], h, 198, sl) _
    exact kk h _ _ _ _ hA
  | succ m ih =>
    intro i h x3 x4 x5 x7 hi hA hB
    have m4 := hA.2.2 4 _ (Or.inr rfl) h4
    have m12 := ty_ref hA.1.1 (g := 12) (p := 170) rfl
    obtain ⟨fN, hN, -⟩ := ty_arrE hA.1.1 (i := 170) (by decide) rfl
    have hN : h 170 = .inl (0, 96, .inl fN) := hN
    refine wp_i rfl rfl rfl rfl ?_
    refine wp_i rfl rfl rfl rfl ?_
    show pm_WP PT fr lo 232 (31, [some (.ref 162), some (.int (nI a)), some (.int (nI b)), some (.int x3), some (.int x4), some (.int x5), some (.int (nI i)), x7], [.ref 162, .int (nI i)], h, 198, sl) _
    refine wp_gfm rfl rfl m4 ?_
    show pm_WP PT fr lo 232 (34, [some (.ref 162), some (.int (nI a)), some (.int (nI b)), some (.int x3), some (.int x4), some (.int x5), some (.int (nI i)), x7], [.int (nI n), .int (nI i)], h, 198, sl) _
    refine wp_icmp (c := .ge) (off := 83) (t := 117) rfl rfl (fun q => absurd (q.symm.trans ((hI_ge (by omega) (by omega)).trans (decide_eq_false (by omega)))) (by decide)) (fun _ => ?_)
    refine wp_i rfl rfl rfl rfl ?_
    show pm_WP PT fr lo 232 (38, [some (.ref 162), some (.int (nI a)), some (.int (nI b)), some (.int x3), some (.int x4), some (.int x5), some (.int (nI i)), x7], [.ref 162], h, 198, sl) _
    refine wp_gfm rfl rfl m12 ?_
    refine wp_i rfl rfl rfl rfl ?_
    refine wp_i rfl rfl rfl rfl ?_
    refine wp_i rfl rfl rfl rfl ?_
    show pm_WP PT fr lo 232 (46, [some (.ref 162), some (.int (nI a)), some (.int (nI b)), some (.int x3), some (.int x4), some (.int x5), some (.int (nI i)), x7], [.int (78 + (nI i)), .ref 170], h, 198, sl) _
    rw [show (78 : Int32) + nI i = nI (78 + i) from nI_add 78 i]
    show pm_WP PT fr lo 232 (46, [some (.ref 162), some (.int (nI a)), some (.int (nI b)), some (.int x3), some (.int x4), some (.int x5), some (.int (nI i)), x7], [.int (nI (78 + i)), .ref 170], h, 198, sl) _
    refine wp_iam rfl hN (hI_in (by omega) (by omega)) (by decide) ?_
    show pm_WP PT fr lo 232 (47, [some (.ref 162), some (.int (nI a)), some (.int (nI b)), some (.int x3), some (.int x4), some (.int x5), some (.int (nI i)), x7], [.int (fN ((nI (78 + i)) : Int32).toNatClampNeg)], h, 198, sl) _
    refine wp_i rfl rfl rfl rfl ?_
    show pm_WP PT fr lo 232 (48, [some (.ref 162), some (.int (nI a)), some (.int (nI b)), some (.int x3), some (.int x4), some (.int x5), some (.int (nI i)), x7], [.int (nI a), .int (fN ((nI (78 + i)) : Int32).toNatClampNeg)], h, 198, sl) _
    refine wp_icmp (c := .ne) (off := 63) (t := 111) rfl rfl (fun q1 => ?_) (fun q1 => ?_)
    · show pm_WP PT fr lo 232 (111, [some (.ref 162), some (.int (nI a)), some (.int (nI b)), some (.int x3), some (.int x4), some (.int x5), some (.int (nI i)), x7], [], h, 198, sl) _
      refine wp_i rfl rfl rfl rfl ?_
      refine wp_i rfl rfl rfl rfl ?_
      show pm_WP PT fr lo 232 (28, [some (.ref 162), some (.int (nI a)), some (.int (nI b)), some (.int x3), some (.int x4), some (.int x5), some (.int (nI i + 1)), x7], [], h, 198, sl) _
      rw [nI_1 i]
      exact ih (i + 1) _ _ _ _ _ (by omega) hA hB
    · refine wp_i rfl rfl rfl rfl ?_
      show pm_WP PT fr lo 232 (52, [some (.ref 162), some (.int (nI a)), some (.int (nI b)), some (.int x3), some (.int x4), some (.int x5), some (.int (nI i)), x7], [.ref 162], h, 198, sl) _
      refine wp_callM (t := 229) (As := []) (rest := []) (mx := 2) rfl rfl rfl rfl (Nat.le_of_ble_eq_true rfl) (Nat.le_of_ble_eq_true rfl) (by omega) (by omega) rfl (mF_obj m4) (wp_mono (hm_copies hA.1) ?_)
      rintro _ ⟨h2, rfl, d2, hI2⟩
      have m13 := ty_ref hI2.1 (g := 13) (p := 171) rfl
      have k3 : mF h2 3 (.int (nI c)) := dD_mF d2 rfl (hA.2.2 3 _ (Or.inl rfl) h3)
      have k4 : mF h2 4 (.int (nI n)) := dD_mF d2 rfl m4
      refine wp_i rfl rfl rfl rfl ?_
      refine wp_i rfl rfl rfl rfl ?_
      show pm_WP PT fr lo 232 (57, [some (.ref 162), some (.int (nI a)), some (.int (nI b)), some (.int x3), some (.int x4), some (.int x5), some (.int (nI i)), x7], [.ref 162, .ref 162], h2, 198, sl) _
      refine wp_gfm rfl rfl m13 ?_
      refine wp_i rfl rfl rfl rfl ?_
      refine wp_i rfl rfl rfl rfl ?_
      show pm_WP PT fr lo 232 (63, [some (.ref 162), some (.int (nI a)), some (.int (nI b)), some (.int x3), some (.int x4), some (.int x5), some (.int (nI i)), x7], [.int (nI b), .int (nI i), .ref 171, .ref 162], h2, 198, sl) _
      refine wp_callM (t := 217) (As := [.ref 171, .int (nI i), .int (nI b)]) (rest := []) (mx := 9) rfl rfl rfl rfl (Nat.le_of_ble_eq_true rfl) (Nat.le_of_ble_eq_true rfl) (by omega) (by omega) rfl (mF_obj k3) (wp_mono (hd_sends hI2 k4 k3 hn hc (show i < n by omega) hb (by omega) (by omega)) ?_)
      rintro _ ⟨s, h3, rfl, hs, q3, hI3⟩
      have hA3 : anI h0 h3 := ⟨hI3, fun j hj => (fm_lt q3 j hj).trans ((x_lt d2 (fun i hi => nb_ne (by omega)) j hj).trans (hA.2.1 j hj)), fun g v hg q => by
        have q1 : mF h2 g v := dD_mF d2 rfl (hA.2.2 g v hg q)
        rcases hg with rfl | rfl
        · exact fm_mF q3 rfl q1
        · exact fm_mF q3 rfl q1⟩
      obtain ⟨x29, m29, v29⟩ := ty_fld hI3.1 (g := 29) rfl
      obtain ⟨x29, rfl, -⟩ := av_int rfl v29
      have m9 := ty_ref hI3.1 (g := 9) (p := 167) rfl
      obtain ⟨fG, hG, -⟩ := ty_arr hI3.1 (i := 167) (by decide) rfl rfl (by decide)
      refine wp_i rfl rfl rfl rfl ?_
      refine wp_i rfl rfl rfl rfl ?_
      refine wp_i rfl rfl rfl rfl ?_
      show pm_WP PT fr lo 232 (72, [some (.ref 162), some (.int (nI a)), some (.int (nI b)), some (.int x3), some (.int x4), some (.int x5), some (.int (nI i)), some (.int s)], [.int x4, .int s], h3, 198, sl) _
      refine wp_icmp (c := .gt) (off := 26) (t := 98) rfl rfl (fun q2 => ?_) (fun q2 => ?_)
      · have q2 : x4 < s := of_decide_eq_true q2
        have hB2 : anB (nI i) s := by
          refine Or.inr ⟨⟨i, rfl, by omega⟩, ?_⟩
          rw [Int32.lt_iff_toInt_lt] at q2
          rcases hB with ⟨-, rfl⟩ | ⟨-, p⟩
          · have : (-1 : Int32).toInt = -1 := by decide
            omega
          · omega
        refine wp_i rfl rfl rfl rfl ?_
        refine wp_i rfl rfl rfl rfl ?_
        refine wp_i rfl rfl rfl rfl ?_
        refine wp_i rfl rfl rfl rfl ?_
        refine wp_i rfl rfl rfl rfl ?_
        show pm_WP PT fr lo 232 (106, [some (.ref 162), some (.int (nI a)), some (.int (nI b)), some (.int (nI i)), some (.int s), some (.int x5), some (.int (nI i)), some (.int s)], [.ref 162], h3, 198, sl) _
        refine wp_gfm rfl rfl m29 ?_
        refine wp_i rfl rfl rfl rfl ?_
        show pm_WP PT fr lo 232 (111, [some (.ref 162), some (.int (nI a)), some (.int (nI b)), some (.int (nI i)), some (.int s), some (.int x29), some (.int (nI i)), some (.int s)], [], h3, 198, sl) _
        refine wp_i rfl rfl rfl rfl ?_
        refine wp_i rfl rfl rfl rfl ?_
        show pm_WP PT fr lo 232 (28, [some (.ref 162), some (.int (nI a)), some (.int (nI b)), some (.int (nI i)), some (.int s), some (.int x29), some (.int (nI i + 1)), some (.int s)], [], h3, 198, sl) _
        rw [nI_1 i]
        exact ih (i + 1) _ _ _ _ _ (by omega) hA3 hB2
      · refine wp_i rfl rfl rfl rfl ?_
        refine wp_i rfl rfl rfl rfl ?_
        show pm_WP PT fr lo 232 (79, [some (.ref 162), some (.int (nI a)), some (.int (nI b)), some (.int x3), some (.int x4), some (.int x5), some (.int (nI i)), some (.int s)], [.int x4, .int s], h3, 198, sl) _
        refine wp_icmp (c := .ne) (off := 32) (t := 111) rfl rfl (fun q3 => ?_) (fun q3 => ?_)
        · show pm_WP PT fr lo 232 (111, [some (.ref 162), some (.int (nI a)), some (.int (nI b)), some (.int x3), some (.int x4), some (.int x5), some (.int (nI i)), some (.int s)], [], h3, 198, sl) _
          refine wp_i rfl rfl rfl rfl ?_
          refine wp_i rfl rfl rfl rfl ?_
          show pm_WP PT fr lo 232 (28, [some (.ref 162), some (.int (nI a)), some (.int (nI b)), some (.int x3), some (.int x4), some (.int x5), some (.int (nI i + 1)), some (.int s)], [], h3, 198, sl) _
          rw [nI_1 i]
          exact ih (i + 1) _ _ _ _ _ (by omega) hA3 hB
        · have q3 : s = x4 := by simpa [pm_cmp] using q3
          have hB3 : (∃ k, x3 = nI k ∧ k < 8) ∧ 0 ≤ x4.toInt := by
            rcases hB with ⟨-, p⟩ | p
            · have : (-1 : Int32).toInt = -1 := by decide
              rw [q3, p, this] at hs
              omega
            · exact p
          obtain ⟨⟨k, rfl, hk⟩, p0⟩ := hB3
          show pm_WP PT fr lo 232 (82, [some (.ref 162), some (.int (nI a)), some (.int (nI b)), some (.int (nI k)), some (.int x4), some (.int x5), some (.int (nI i)), some (.int s)], [], h3, 198, sl) _
          refine wp_i rfl rfl rfl rfl ?_
          show pm_WP PT fr lo 232 (83, [some (.ref 162), some (.int (nI a)), some (.int (nI b)), some (.int (nI k)), some (.int x4), some (.int x5), some (.int (nI i)), some (.int s)], [.ref 162], h3, 198, sl) _
          refine wp_gfm rfl rfl m9 ?_
          refine wp_i rfl rfl rfl rfl ?_
          show pm_WP PT fr lo 232 (88, [some (.ref 162), some (.int (nI a)), some (.int (nI b)), some (.int (nI k)), some (.int x4), some (.int x5), some (.int (nI i)), some (.int s)], [.int (nI i), .ref 167], h3, 198, sl) _
          refine wp_iam rfl hG (hI_in (by omega) (by omega)) (by decide) ?_
          show pm_WP PT fr lo 232 (89, [some (.ref 162), some (.int (nI a)), some (.int (nI b)), some (.int (nI k)), some (.int x4), some (.int x5), some (.int (nI i)), some (.int s)], [.int (fG ((nI i) : Int32).toNatClampNeg)], h3, 198, sl) _
          refine wp_i rfl rfl rfl rfl ?_
          show pm_WP PT fr lo 232 (90, [some (.ref 162), some (.int (nI a)), some (.int (nI b)), some (.int (nI k)), some (.int x4), some (.int x5), some (.int (nI i)), some (.int s)], [.ref 162, .int (fG ((nI i) : Int32).toNatClampNeg)], h3, 198, sl) _
          refine wp_gfm rfl rfl m9 ?_
          refine wp_i rfl rfl rfl rfl ?_
          show pm_WP PT fr lo 232 (94, [some (.ref 162), some (.int (nI a)), some (.int (nI b)), some (.int (nI k)), some (.int x4), some (.int x5), some (.int (nI i)), some (.int s)], [.int (nI k), .ref 167, .int (fG ((nI i) : Int32).toNatClampNeg)], h3, 198, sl) _
          refine wp_iam rfl hG (hI_in (by omega) (by omega)) (by decide) ?_
          show pm_WP PT fr lo 232 (95, [some (.ref 162), some (.int (nI a)), some (.int (nI b)), some (.int (nI k)), some (.int x4), some (.int x5), some (.int (nI i)), some (.int s)], [.int (fG ((nI k) : Int32).toNatClampNeg), .int (fG ((nI i) : Int32).toNatClampNeg)], h3, 198, sl) _
          show pm_WP PT fr lo 232 (95, [some (.ref 162), some (.int (nI a)), some (.int (nI b)), some (.int (nI k)), some (.int x4), some (.int x5), some (.int (nI i)), some (.int s)], [.int (fG ((nI k) : Int32).toNatClampNeg), .int (fG ((nI i) : Int32).toNatClampNeg)], h3, 198, sl) _
          refine wp_icmp (c := .ge) (off := 16) (t := 111) rfl rfl (fun q5 => ?_) (fun q5 => ?_)
          · show pm_WP PT fr lo 232 (111, [some (.ref 162), some (.int (nI a)), some (.int (nI b)), some (.int (nI k)), some (.int x4), some (.int x5), some (.int (nI i)), some (.int s)], [], h3, 198, sl) _
            refine wp_i rfl rfl rfl rfl ?_
            refine wp_i rfl rfl rfl rfl ?_
            show pm_WP PT fr lo 232 (28, [some (.ref 162), some (.int (nI a)), some (.int (nI b)), some (.int (nI k)), some (.int x4), some (.int x5), some (.int (nI i + 1)), some (.int s)], [], h3, 198, sl) _
            rw [nI_1 i]
            exact ih (i + 1) _ _ _ _ _ (by omega) hA3 (Or.inr ⟨⟨k, rfl, hk⟩, p0⟩)
          · refine wp_i rfl rfl rfl rfl ?_
            refine wp_i rfl rfl rfl rfl ?_
            refine wp_i rfl rfl rfl rfl ?_
            refine wp_i rfl rfl rfl rfl ?_
            refine wp_i rfl rfl rfl rfl ?_
            show pm_WP PT fr lo 232 (106, [some (.ref 162), some (.int (nI a)), some (.int (nI b)), some (.int (nI i)), some (.int s), some (.int x5), some (.int (nI i)), some (.int s)], [.ref 162], h3, 198, sl) _
            refine wp_gfm rfl rfl m29 ?_
            refine wp_i rfl rfl rfl rfl ?_
            show pm_WP PT fr lo 232 (111, [some (.ref 162), some (.int (nI a)), some (.int (nI b)), some (.int (nI i)), some (.int s), some (.int x29), some (.int (nI i)), some (.int s)], [], h3, 198, sl) _
            refine wp_i rfl rfl rfl rfl ?_
            refine wp_i rfl rfl rfl rfl ?_
            show pm_WP PT fr lo 232 (28, [some (.ref 162), some (.int (nI a)), some (.int (nI b)), some (.int (nI i)), some (.int s), some (.int x29), some (.int (nI i + 1)), some (.int s)], [], h3, 198, sl) _
            rw [nI_1 i]
            exact ih (i + 1) _ _ _ _ _ (by omega) hA3 (Or.inr ⟨⟨i, rfl, by omega⟩, by rw [q3]; exact p0⟩)
theorem hm_answer (hI : mInv h) (x y : Int32) (hf : 200 ≤ fr) (hl : 6000 ≤ lo) : pm_WP PT fr lo 232 (0, pm_l0 [.ref 162, .int x, .int y] 8, [], h, 198, sl) (mPost anInt h sl) := by
  obtain ⟨hh, hq⟩ := id hI
  obtain ⟨x0, h0, -⟩ := ty_fld hh (g := 0) rfl
  obtain ⟨c, h3, hc⟩ := ty_nat hh (g := 3) (u := 6) rfl (by decide)
  obtain ⟨n, h4, hn⟩ := ty_nat hh (g := 4) (u := 8) rfl (by decide)
  refine wp_i rfl rfl rfl rfl ?_
  refine wp_i rfl rfl rfl rfl ?_
  show pm_WP PT fr lo 232 (2, [some (.ref 162), some (.int x), some (.int y), none, none, none, none, none], [.int 0, .ref 162], h, 198, sl) _
  refine wp_pfm rfl rfl rfl (by decide) h0 ?_
  refine wp_i rfl rfl rfl rfl ?_
  refine wp_i rfl rfl rfl rfl ?_
  refine wp_i rfl rfl rfl rfl ?_
  show pm_WP PT fr lo 232 (8, [some (.ref 162), some (.int x), some (.int y), none, none, none, none, none], [.int y, .int x, .ref 162], (mset h 0 (.int 0)), 198, sl) _
  refine wp_callM (t := 170) (As := [.int x, .int y]) (rest := []) (mx := 3) rfl rfl rfl rfl (Nat.le_of_ble_eq_true rfl) (Nat.le_of_ble_eq_true rfl) (by omega) (by omega) rfl (mF_obj (mF_self h0)) (wp_mono (hd_arePair hc x y (mF_ne (by decide) h3) (by omega) (by omega)) ?_)
  rintro _ ⟨v, rfl, rfl | ⟨rfl, a, b, rfl, rfl, ha, hb⟩⟩
  · show pm_WP PT fr lo 232 (11, [some (.ref 162), some (.int x), some (.int y), none, none, none, none, none], [.int 0], (mset h 0 (.int 0)), 198, sl) _
    refine wp_i rfl rfl rfl rfl ?_
    refine wp_i rfl rfl rfl rfl ?_
    show pm_WP PT fr lo 232 (15, [some (.ref 162), some (.int x), some (.int y), none, none, none, none, none], [.int (-1)], (mset h 0 (.int 0)), 198, sl) _
    exact wp_iret rfl rfl (post0 hI h0 ⟨_, rfl⟩)
  · show pm_WP PT fr lo 232 (11, [some (.ref 162), some (.int (nI a)), some (.int (nI b)), none, none, none, none, none], [.int 1], (mset h 0 (.int 0)), 198, sl) _
    refine wp_i rfl rfl rfl rfl ?_
    refine wp_i rfl rfl rfl rfl ?_
    refine wp_i rfl rfl rfl rfl ?_
    refine wp_i rfl rfl rfl rfl ?_
    refine wp_i rfl rfl rfl rfl ?_
    refine wp_i rfl rfl rfl rfl ?_
    refine wp_i rfl rfl rfl rfl ?_
    refine wp_i rfl rfl rfl rfl ?_
    refine wp_i rfl rfl rfl rfl ?_
    show pm_WP PT fr lo 232 (28, [some (.ref 162), some (.int (nI a)), some (.int (nI b)), some (.int (-2)), some (.int (-1)), some (.int 0), some (.int 0), none], [], (mset h 0 (.int 0)), 198, sl) _
    have p0 := post0 (sl := sl) hI h0 (A := anInt) (v := some (.int 0)) ⟨_, rfl⟩
    refine an_L (h0 := mset h 0 (.int 0)) (n := n) (mF_ne (by decide) h3) (mF_ne (by decide) h4) hn hc hb (by omega) (by omega) (fun h2 x3 x4 x5 x7 hA => ?_) n 0 _ _ _ _ _ (by omega) ⟨p0.2.2.2, fun _ _ => rfl, fun _ _ _ q => q⟩ (Or.inl ⟨rfl, rfl⟩)
    refine wp_i rfl rfl rfl rfl ?_
    have l2 : ∀ i, i < 162 → h2 i = h i := fun i hi => (hA.2.1 i hi).trans (p0.2.2.1 i hi)
    show pm_WP PT fr lo 232 (118, [some (.ref 162), some (.int (nI a)), some (.int (nI b)), some (.int x3), some (.int x4), some (.int x5), some (.int (nI n)), x7], [.int x3], h2, 198, sl) _
    refine wp_if (c := .lt) (off := 22) (t := 140) rfl rfl (fun q9 => ?_) (fun q9 => ?_)
    · refine wp_i rfl rfl rfl rfl ?_
      show pm_WP PT fr lo 232 (141, [some (.ref 162), some (.int (nI a)), some (.int (nI b)), some (.int x3), some (.int x4), some (.int x5), some (.int (nI n)), x7], [.int x3], h2, 198, sl) _
      exact wp_iret rfl rfl ⟨⟨_, rfl⟩, rfl, l2, hA.1⟩
    · obtain ⟨x1, y1, -⟩ := ty_fld hA.1.1 (g := 1) rfl
      refine wp_i rfl rfl rfl rfl ?_
      refine wp_i rfl rfl rfl rfl ?_
      show pm_WP PT fr lo 232 (123, [some (.ref 162), some (.int (nI a)), some (.int (nI b)), some (.int x3), some (.int x4), some (.int x5), some (.int (nI n)), x7], [.int 0, .ref 162], h2, 198, sl) _
      refine wp_pfm rfl rfl rfl (by decide) y1 ?_
      refine wp_i rfl rfl rfl rfl ?_
      refine wp_i rfl rfl rfl rfl ?_
      refine wp_i rfl rfl rfl rfl ?_
      have hI8 : mInv (mset h2 1 (.int 0)) := mInv_s1 hA.1 (k := 0) (by decide)
      have y8 : mF (mset h2 1 (.int 0)) 1 (.int (nI 0)) := mF_self y1
      have l8 : ∀ i, i < 162 → (mset h2 1 (.int 0)) i = h2 i := fun i hi => mset_ne (by omega)
      generalize mset h2 1 (.int 0) = h8 at hI8 y8 l8 ⊢
      show pm_WP PT fr lo 232 (130, [some (.ref 162), some (.int (nI a)), some (.int (nI b)), some (.int x3), some (.int x4), some (.int x5), some (.int (nI n)), x7], [.long (x4).toInt64, .ref 162], h8, 198, sl) _
      refine wp_callM (t := 167) (As := [.long (x4).toInt64]) (rest := []) (mx := 3) rfl rfl rfl rfl (Nat.le_of_ble_eq_true rfl) (Nat.le_of_ble_eq_true rfl) (by omega) (by omega) rfl (mF_obj y8) (wp_mono (hm_enters hI8 x4.toInt64 y8 (by decide)) ?_)
      rintro _ ⟨h9, rfl, hI9, y9, l9⟩
      refine wp_i rfl rfl rfl rfl ?_
      refine wp_i rfl rfl rfl rfl ?_
      refine wp_i rfl rfl rfl rfl ?_
      show pm_WP PT fr lo 232 (137, [some (.ref 162), some (.int (nI a)), some (.int (nI b)), some (.int x3), some (.int x4), some (.int x5), some (.int (nI n)), x7], [.long (x5).toInt64, .ref 162], h9, 198, sl) _
      refine wp_callM (t := 167) (As := [.long (x5).toInt64]) (rest := []) (mx := 3) rfl rfl rfl rfl (Nat.le_of_ble_eq_true rfl) (Nat.le_of_ble_eq_true rfl) (by omega) (by omega) rfl (mF_obj y9) (wp_mono (hm_enters hI9 x5.toInt64 y9 (by decide)) ?_)
      rintro _ ⟨h10, rfl, hI10, y10, l10⟩
      refine wp_i rfl rfl rfl rfl ?_
      show pm_WP PT fr lo 232 (141, [some (.ref 162), some (.int (nI a)), some (.int (nI b)), some (.int x3), some (.int x4), some (.int x5), some (.int (nI n)), x7], [.int x3], h10, 198, sl) _
      exact wp_iret rfl rfl ⟨⟨_, rfl⟩, rfl, fun i hi => (l10 i hi).trans ((l9 i hi).trans ((l8 i hi).trans (l2 i hi))), hI10⟩
end ANS
end MG77answerx0
section MG77answerx1
/-! every call of the reference keeps what must be kept -/
section MPW
variable {fr lo sl : Nat} {h : pm_H}
def aLong (v : Option Value) : Prop := ∃ x : Int64, v = some (.long x)
theorem ao_i {v : Option Value} {l u : Int} (q : ao_ok v (some (0, l, u))) : ∃ x : Int32, v = some (.int x) ∧ l ≤ x.toInt ∧ x.toInt ≤ u := by
  cases v with
  | none => exact q.elim
  | some v =>
    obtain ⟨x, rfl, h1, h2⟩ := av_int rfl q
    exact ⟨x, rfl, h1, h2⟩
theorem ao_l {v : Option Value} {l u : Int} (q : ao_ok v (some (1, l, u))) : aLong v := by
  cases v with
  | none => exact q.elim
  | some v =>
    cases v with
    | long x => exact ⟨x, rfl⟩
    | int x => exact absurd (show (1 : Nat) = 0 from q.1) (by decide)
    | ref p => exact absurd (show (1 : Nat) = 2 from q.1) (by decide)
    | null => exact absurd (show (1 : Nat) = 3 from q) (by decide)
    | retAddr i => exact absurd (show (1 : Nat) = 4 from q.1) (by decide)
    | _ => exact q.elim
theorem ao_I {v : Option Value} {l u : Int} (q : ∃ a, a ∈ [some ((0, l, u) : av)] ∧ ao_ok v a) : anInt v := by
  obtain ⟨a, ha, q⟩ := q
  cases List.mem_singleton.mp ha
  obtain ⟨x, rfl, -⟩ := ao_i q
  exact ⟨x, rfl⟩
theorem ao_L {v : Option Value} {l u : Int} (q : ∃ a, a ∈ [some ((1, l, u) : av)] ∧ ao_ok v a) : aLong v := by
  obtain ⟨a, ha, q⟩ := q
  cases List.mem_singleton.mp ha
  exact ao_l q
theorem ao_B {v : Option Value} (q : ∃ a, a ∈ [some ((0, 0, 1) : av)] ∧ ao_ok v a) : aBool v := by
  obtain ⟨a, ha, q⟩ := q
  cases List.mem_singleton.mp ha
  obtain ⟨x, rfl, h1, h2⟩ := ao_i q
  obtain ⟨n, rfl, -, e⟩ := hI_of h1
  have : n = 0 ∨ n = 1 := by omega
  rcases this with rfl | rfl
  · exact Or.inl rfl
  · exact Or.inr rfl
theorem post_c {x : pm_Rs} {A B : Option Value → Prop} (hB : ∀ v, B v → A v) (q : B x.1 ∧ x.2.2 = (198, sl) ∧ (fm rxF h x.2.1 ∧ rxQ x.2.1) ∧ ah_ok bB 198 [] x.2.1) : mPost A h sl x := ⟨hB _ q.1, q.2.1, fm_lt q.2.2.1.1, q.2.2.2, q.2.2.1.2⟩
/-- what is known of fields 3 and 4 put into the typing -/
theorem ov_in {as : List av} {o : ah} (hb : ah_get bB o 162 = .inr (11, as)) (hh : ah_ok bB 198 o h) {g : Nat} {v : Value} {a : av} (m : mF h g v) (hv : av_ok v a) : ah_ok bB 198 (ah_put o 162 (.inr (11, as.set g a))) h := by
  refine ah_put_ok hh ?_
  have h0 := hh 162 (by decide)
  rw [hb] at h0
  obtain ⟨fs, e, e1⟩ := m
  rw [e] at h0 ⊢
  obtain ⟨p1, p2, p3⟩ := h0
  refine ⟨p1, by rw [List.length_set]; exact p2, fun i w b hw hb2 => ?_⟩
  by_cases z : i = g
  · subst z
    rw [e1] at hw
    cases hw
    have hl : i < as.length := by
      have := (List.getElem?_eq_some_iff.mp hb2).1
      rwa [List.length_set] at this
    rw [List.getElem?_set_self hl] at hb2
    cases hb2
    exact hv
  · rw [List.getElem?_set_ne (Ne.symm z)] at hb2
    exact p3 i w b hw hb2
theorem hm_sign (hI : mInv h) (x1 : Int32) (hf : 500 ≤ fr) (hl : 12000 ≤ lo) : pm_WP PT fr lo 178 (0, pm_l0 [.ref 162, .int x1] 3, [], h, 198, sl) (mPost anInt h sl) := wp_mono (rxw_sign [.ref 162, .int x1] h fr lo sl ⟨⟨rfl, List.mem_singleton_self _⟩, ai_top_ok _, trivial⟩ hI.1 hI.2 (Nat.le_trans (by decide) hf) (Nat.le_trans (by decide) hl)) (fun x q => post_c (fun _ => ao_I) q)
theorem hm_end (hI : mInv h) (x1 : Int32) (hf : 500 ≤ fr) (hl : 12000 ≤ lo) : pm_WP PT fr lo 179 (0, pm_l0 [.ref 162, .int x1] 2, [], h, 198, sl) (mPost aBool h sl) := wp_mono (rxw_end [.ref 162, .int x1] h fr lo sl ⟨⟨rfl, List.mem_singleton_self _⟩, ai_top_ok _, trivial⟩ hI.1 hI.2 (Nat.le_trans (by decide) hf) (Nat.le_trans (by decide) hl)) (fun x q => post_c (fun _ => ao_B) q)
theorem hm_court (hI : mInv h) (x1 x2 : Int32) (hf : 500 ≤ fr) (hl : 12000 ≤ lo) : pm_WP PT fr lo 206 (0, pm_l0 [.ref 162, .int x1, .int x2] 3, [], h, 198, sl) (mPost anInt h sl) := wp_mono (rxw_court [.ref 162, .int x1, .int x2] h fr lo sl ⟨⟨rfl, List.mem_singleton_self _⟩, ai_top_ok _, ai_top_ok _, trivial⟩ hI.1 hI.2 (Nat.le_trans (by decide) hf) (Nat.le_trans (by decide) hl)) (fun x q => post_c (fun _ => ao_I) q)
theorem hm_between (hI : mInv h) (x1 x2 x3 : Int32) (hf : 500 ≤ fr) (hl : 12000 ≤ lo) : pm_WP PT fr lo 207 (0, pm_l0 [.ref 162, .int x1, .int x2, .int x3] 5, [], h, 198, sl) (mPost anInt h sl) := wp_mono (rxw_between [.ref 162, .int x1, .int x2, .int x3] h fr lo sl ⟨⟨rfl, List.mem_singleton_self _⟩, ai_top_ok _, ai_top_ok _, ai_top_ok _, trivial⟩ hI.1 hI.2 (Nat.le_trans (by decide) hf) (Nat.le_trans (by decide) hl)) (fun x q => post_c (fun _ => ao_I) q)
theorem hm_gift (hI : mInv h) (x1 x2 : Int32) (hf : 500 ≤ fr) (hl : 12000 ≤ lo) : pm_WP PT fr lo 208 (0, pm_l0 [.ref 162, .int x1, .int x2] 3, [], h, 198, sl) (mPost anInt h sl) := wp_mono (rxw_gift [.ref 162, .int x1, .int x2] h fr lo sl ⟨⟨rfl, List.mem_singleton_self _⟩, ai_top_ok _, ai_top_ok _, trivial⟩ hI.1 hI.2 (Nat.le_trans (by decide) hf) (Nat.le_trans (by decide) hl)) (fun x q => post_c (fun _ => ao_I) q)
theorem hm_road (hI : mInv h) (x1 x2 x3 : Int32) (hf : 500 ≤ fr) (hl : 12000 ≤ lo) : pm_WP PT fr lo 209 (0, pm_l0 [.ref 162, .int x1, .int x2, .int x3] 5, [], h, 198, sl) (mPost anInt h sl) := wp_mono (rxw_road [.ref 162, .int x1, .int x2, .int x3] h fr lo sl ⟨⟨rfl, List.mem_singleton_self _⟩, ai_top_ok _, ai_top_ok _, ai_top_ok _, trivial⟩ hI.1 hI.2 (Nat.le_trans (by decide) hf) (Nat.le_trans (by decide) hl)) (fun x q => post_c (fun _ => ao_I) q)
theorem hm_sheet (hI : mInv h) (x1 x2 x3 x4 : Int32) (hf : 500 ≤ fr) (hl : 12000 ≤ lo) : pm_WP PT fr lo 210 (0, pm_l0 [.ref 162, .int x1, .int x2, .int x3, .int x4] 8, [], h, 198, sl) (mPost anInt h sl) := wp_mono (rxw_sheet [.ref 162, .int x1, .int x2, .int x3, .int x4] h fr lo sl ⟨⟨rfl, List.mem_singleton_self _⟩, ai_top_ok _, ai_top_ok _, ai_top_ok _, ai_top_ok _, trivial⟩ hI.1 hI.2 (Nat.le_trans (by decide) hf) (Nat.le_trans (by decide) hl)) (fun x q => post_c (fun _ => ao_I) q)
theorem hm_send (hI : mInv h) (x1 x2 : Int32) (hf : 500 ≤ fr) (hl : 12000 ≤ lo) : pm_WP PT fr lo 222 (0, pm_l0 [.ref 162, .int x1, .int x2] 4, [], h, 198, sl) (mPost anInt h sl) := wp_mono (rxw_send [.ref 162, .int x1, .int x2] h fr lo sl ⟨⟨rfl, List.mem_singleton_self _⟩, ai_top_ok _, ai_top_ok _, trivial⟩ hI.1 hI.2 (Nat.le_trans (by decide) hf) (Nat.le_trans (by decide) hl)) (fun x q => post_c (fun _ => ao_I) q)
theorem hm_months (hI : mInv h) (x1 : Int32) (hf : 500 ≤ fr) (hl : 12000 ≤ lo) : pm_WP PT fr lo 223 (0, pm_l0 [.ref 162, .int x1] 4, [], h, 198, sl) (mPost anInt h sl) := wp_mono (rxw_months [.ref 162, .int x1] h fr lo sl ⟨⟨rfl, List.mem_singleton_self _⟩, ai_top_ok _, trivial⟩ hI.1 hI.2 (Nat.le_trans (by decide) hf) (Nat.le_trans (by decide) hl)) (fun x q => post_c (fun _ => ao_I) q)
theorem hm_envoy (hI : mInv h) (x1 x2 x3 : Int32) (hf : 500 ≤ fr) (hl : 12000 ≤ lo) : pm_WP PT fr lo 224 (0, pm_l0 [.ref 162, .int x1, .int x2, .int x3] 4, [], h, 198, sl) (mPost anInt h sl) := wp_mono (rxw_envoy [.ref 162, .int x1, .int x2, .int x3] h fr lo sl ⟨⟨rfl, List.mem_singleton_self _⟩, ai_top_ok _, ai_top_ok _, ai_top_ok _, trivial⟩ hI.1 hI.2 (Nat.le_trans (by decide) hf) (Nat.le_trans (by decide) hl)) (fun x q => post_c (fun _ => ao_I) q)
theorem hm_forgive (hI : mInv h) (x1 x2 : Int32) (hf : 500 ≤ fr) (hl : 12000 ≤ lo) : pm_WP PT fr lo 225 (0, pm_l0 [.ref 162, .int x1, .int x2] 3, [], h, 198, sl) (mPost anInt h sl) := wp_mono (rxw_forgive [.ref 162, .int x1, .int x2] h fr lo sl ⟨⟨rfl, List.mem_singleton_self _⟩, ai_top_ok _, ai_top_ok _, trivial⟩ hI.1 hI.2 (Nat.le_trans (by decide) hf) (Nat.le_trans (by decide) hl)) (fun x q => post_c (fun _ => ao_I) q)
theorem hm_value (hI : mInv h) (x1 x2 : Int32) (hf : 500 ≤ fr) (hl : 12000 ≤ lo) : pm_WP PT fr lo 230 (0, pm_l0 [.ref 162, .int x1, .int x2] 3, [], h, 198, sl) (mPost anInt h sl) := wp_mono (rxw_value [.ref 162, .int x1, .int x2] h fr lo sl ⟨⟨rfl, List.mem_singleton_self _⟩, ai_top_ok _, ai_top_ok _, trivial⟩ hI.1 hI.2 (Nat.le_trans (by decide) hf) (Nat.le_trans (by decide) hl)) (fun x q => post_c (fun _ => ao_I) q)
theorem hm_where (hI : mInv h) (x1 : Int32) (hf : 500 ≤ fr) (hl : 12000 ≤ lo) : pm_WP PT fr lo 231 (0, pm_l0 [.ref 162, .int x1] 7, [], h, 198, sl) (mPost anInt h sl) := wp_mono (rxw_where [.ref 162, .int x1] h fr lo sl ⟨⟨rfl, List.mem_singleton_self _⟩, ai_top_ok _, trivial⟩ hI.1 hI.2 (Nat.le_trans (by decide) hf) (Nat.le_trans (by decide) hl)) (fun x q => post_c (fun _ => ao_I) q)
theorem hm_wins (hI : mInv h) (x1 x2 : Int32) (hf : 500 ≤ fr) (hl : 12000 ≤ lo) : pm_WP PT fr lo 234 (0, pm_l0 [.ref 162, .int x1, .int x2] 5, [], h, 198, sl) (mPost anInt h sl) := wp_mono (rxw_wins [.ref 162, .int x1, .int x2] h fr lo sl ⟨⟨rfl, List.mem_singleton_self _⟩, ai_top_ok _, ai_top_ok _, trivial⟩ hI.1 hI.2 (Nat.le_trans (by decide) hf) (Nat.le_trans (by decide) hl)) (fun x q => post_c (fun _ => ao_I) q)
theorem hm_unseen (hI : mInv h) (x1 : Int32) (hf : 500 ≤ fr) (hl : 12000 ≤ lo) : pm_WP PT fr lo 235 (0, pm_l0 [.ref 162, .int x1] 6, [], h, 198, sl) (mPost anInt h sl) := wp_mono (rxw_unseen [.ref 162, .int x1] h fr lo sl ⟨⟨rfl, List.mem_singleton_self _⟩, ai_top_ok _, trivial⟩ hI.1 hI.2 (Nat.le_trans (by decide) hf) (Nat.le_trans (by decide) hl)) (fun x q => post_c (fun _ => ao_I) q)
theorem hm_swaps (hI : mInv h) (hf : 500 ≤ fr) (hl : 12000 ≤ lo) : pm_WP PT fr lo 236 (0, pm_l0 [.ref 162] 11, [], h, 198, sl) (mPost anInt h sl) := wp_mono (rxw_swaps [.ref 162] h fr lo sl ⟨⟨rfl, List.mem_singleton_self _⟩, trivial⟩ hI.1 hI.2 (Nat.le_trans (by decide) hf) (Nat.le_trans (by decide) hl)) (fun x q => post_c (fun _ => ao_I) q)
theorem hm_feeds (hI : mInv h) (x1 : Int32) (hf : 500 ≤ fr) (hl : 12000 ≤ lo) : pm_WP PT fr lo 242 (0, pm_l0 [.ref 162, .int x1] 3, [], h, 198, sl) (mPost anInt h sl) := wp_mono (rxw_feeds [.ref 162, .int x1] h fr lo sl ⟨⟨rfl, List.mem_singleton_self _⟩, ai_top_ok _, trivial⟩ hI.1 hI.2 (Nat.le_trans (by decide) hf) (Nat.le_trans (by decide) hl)) (fun x q => post_c (fun _ => ao_I) q)
theorem hm_starves (hI : mInv h) (x1 x2 : Int32) (hf : 500 ≤ fr) (hl : 12000 ≤ lo) : pm_WP PT fr lo 243 (0, pm_l0 [.ref 162, .int x1, .int x2] 7, [], h, 198, sl) (mPost anInt h sl) := wp_mono (rxw_starves [.ref 162, .int x1, .int x2] h fr lo sl ⟨⟨rfl, List.mem_singleton_self _⟩, ai_top_ok _, ai_top_ok _, trivial⟩ hI.1 hI.2 (Nat.le_trans (by decide) hf) (Nat.le_trans (by decide) hl)) (fun x q => post_c (fun _ => ao_I) q)
theorem hm_net (hI : mInv h) (x1 : Int32) (hf : 500 ≤ fr) (hl : 12000 ≤ lo) : pm_WP PT fr lo 244 (0, pm_l0 [.ref 162, .int x1] 2, [], h, 198, sl) (mPost anInt h sl) := wp_mono (rxw_net [.ref 162, .int x1] h fr lo sl ⟨⟨rfl, List.mem_singleton_self _⟩, ai_top_ok _, trivial⟩ hI.1 hI.2 (Nat.le_trans (by decide) hf) (Nat.le_trans (by decide) hl)) (fun x q => post_c (fun _ => ao_I) q)
theorem hm_ring (hI : mInv h) (hf : 500 ≤ fr) (hl : 12000 ≤ lo) : pm_WP PT fr lo 247 (0, pm_l0 [.ref 162] 3, [], h, 198, sl) (mPost anInt h sl) := wp_mono (rxw_ring [.ref 162] h fr lo sl ⟨⟨rfl, List.mem_singleton_self _⟩, trivial⟩ hI.1 hI.2 (Nat.le_trans (by decide) hf) (Nat.le_trans (by decide) hl)) (fun x q => post_c (fun _ => ao_I) q)
theorem hm_ranks (hI : mInv h) (hf : 500 ≤ fr) (hl : 12000 ≤ lo) : pm_WP PT fr lo 249 (0, pm_l0 [.ref 162] 6, [], h, 198, sl) (mPost anInt h sl) := wp_mono (rxw_ranks [.ref 162] h fr lo sl ⟨⟨rfl, List.mem_singleton_self _⟩, trivial⟩ hI.1 hI.2 (Nat.le_trans (by decide) hf) (Nat.le_trans (by decide) hl)) (fun x q => post_c (fun _ => ao_I) q)
theorem hm_heard (hI : mInv h) (x1 x2 : Int32) (hf : 500 ≤ fr) (hl : 12000 ≤ lo) : pm_WP PT fr lo 251 (0, pm_l0 [.ref 162, .int x1, .int x2] 4, [], h, 198, sl) (mPost anInt h sl) := wp_mono (rxw_heard [.ref 162, .int x1, .int x2] h fr lo sl ⟨⟨rfl, List.mem_singleton_self _⟩, ai_top_ok _, ai_top_ok _, trivial⟩ hI.1 hI.2 (Nat.le_trans (by decide) hf) (Nat.le_trans (by decide) hl)) (fun x q => post_c (fun _ => ao_I) q)
theorem hm_forget (hI : mInv h) (hf : 500 ≤ fr) (hl : 12000 ≤ lo) : pm_WP PT fr lo 252 (0, pm_l0 [.ref 162] 2, [], h, 198, sl) (mPost anInt h sl) := wp_mono (rxw_forget [.ref 162] h fr lo sl ⟨⟨rfl, List.mem_singleton_self _⟩, trivial⟩ hI.1 hI.2 (Nat.le_trans (by decide) hf) (Nat.le_trans (by decide) hl)) (fun x q => post_c (fun _ => ao_I) q)
theorem hm_fits (hI : mInv h) (hf : 500 ≤ fr) (hl : 12000 ≤ lo) : pm_WP PT fr lo 255 (0, pm_l0 [.ref 162] 4, [], h, 198, sl) (mPost anInt h sl) := wp_mono (rxw_fits [.ref 162] h fr lo sl ⟨⟨rfl, List.mem_singleton_self _⟩, trivial⟩ hI.1 hI.2 (Nat.le_trans (by decide) hf) (Nat.le_trans (by decide) hl)) (fun x q => post_c (fun _ => ao_I) q)
theorem hm_ask (hI : mInv h) (hf : 500 ≤ fr) (hl : 12000 ≤ lo) : pm_WP PT fr lo 256 (0, pm_l0 [.ref 162] 7, [], h, 198, sl) (mPost anInt h sl) := wp_mono (rxw_ask [.ref 162] h fr lo sl ⟨⟨rfl, List.mem_singleton_self _⟩, trivial⟩ hI.1 hI.2 (Nat.le_trans (by decide) hf) (Nat.le_trans (by decide) hl)) (fun x q => post_c (fun _ => ao_I) q)
theorem hm_rests (hI : mInv h) (x1 : Int32) (hf : 500 ≤ fr) (hl : 12000 ≤ lo) : pm_WP PT fr lo 261 (0, pm_l0 [.ref 162, .int x1] 5, [], h, 198, sl) (mPost anInt h sl) := wp_mono (rxw_rests [.ref 162, .int x1] h fr lo sl ⟨⟨rfl, List.mem_singleton_self _⟩, ai_top_ok _, trivial⟩ hI.1 hI.2 (Nat.le_trans (by decide) hf) (Nat.le_trans (by decide) hl)) (fun x q => post_c (fun _ => ao_I) q)
theorem hm_count (hI : mInv h) (x1 : Int32) (hf : 500 ≤ fr) (hl : 12000 ≤ lo) : pm_WP PT fr lo 267 (0, pm_l0 [.ref 162, .int x1] 4, [], h, 198, sl) (mPost anInt h sl) := wp_mono (rxw_count [.ref 162, .int x1] h fr lo sl ⟨⟨rfl, List.mem_singleton_self _⟩, ai_top_ok _, trivial⟩ hI.1 hI.2 (Nat.le_trans (by decide) hf) (Nat.le_trans (by decide) hl)) (fun x q => post_c (fun _ => ao_I) q)
theorem hm_row (hI : mInv h) (x1 : Int32) (hf : 500 ≤ fr) (hl : 12000 ≤ lo) : pm_WP PT fr lo 268 (0, pm_l0 [.ref 162, .int x1] 2, [], h, 198, sl) (mPost aLong h sl) := wp_mono (rxw_row [.ref 162, .int x1] h fr lo sl ⟨⟨rfl, List.mem_singleton_self _⟩, ai_top_ok _, trivial⟩ hI.1 hI.2 (Nat.le_trans (by decide) hf) (Nat.le_trans (by decide) hl)) (fun x q => post_c (fun _ => ao_L) q)
theorem hm_year (hI : mInv h) (hf : 500 ≤ fr) (hl : 12000 ≤ lo) : pm_WP PT fr lo 228 (0, pm_l0 [.ref 162] 5, [], h, 198, sl) (mPost anInt h sl) := wp_mono (rxw_year [.ref 162] h fr lo sl ⟨⟨rfl, List.mem_singleton_self _⟩, trivial⟩ hI.1 hI.2 (Nat.le_trans (by decide) hf) (Nat.le_trans (by decide) hl)) (fun x q => post_c (fun _ => ao_I) q)
theorem hm_settle (hI : mInv h) (hf : 500 ≤ fr) (hl : 12000 ≤ lo) : pm_WP PT fr lo 245 (0, pm_l0 [.ref 162] 4, [], h, 198, sl) (mPost anInt h sl) := wp_mono (rxw_settle [.ref 162] h fr lo sl ⟨⟨rfl, List.mem_singleton_self _⟩, trivial⟩ hI.1 hI.2 (Nat.le_trans (by decide) hf) (Nat.le_trans (by decide) hl)) (fun x q => post_c (fun _ => ao_I) q)
theorem hm_league (hI : mInv h) (hf : 500 ≤ fr) (hl : 12000 ≤ lo) : pm_WP PT fr lo 250 (0, pm_l0 [.ref 162] 5, [], h, 198, sl) (mPost anInt h sl) := wp_mono (rxw_league [.ref 162] h fr lo sl ⟨⟨rfl, List.mem_singleton_self _⟩, trivial⟩ hI.1 hI.2 (Nat.le_trans (by decide) hf) (Nat.le_trans (by decide) hl)) (fun x q => post_c (fun _ => ao_I) q)
theorem ov_3 (hh : ah_ok bB 198 [] h) {c l u : Nat} (h3 : mF h 3 (.int (nI c))) (h1 : l ≤ c) (h2 : c ≤ u) (hu : u ≤ 6) {o : ah} (e : ∃ as, bB 162 = .inr (11, as) ∧ o = ah_put [] 162 (.inr (11, as.set 3 (0, (l : Int), (u : Int))))) : ah_ok bB 198 o h := by
  obtain ⟨as, e1, rfl⟩ := e
  exact ov_in (o := []) e1 hh h3 (av_nI (by omega) (by omega) (by omega))
theorem ov_34 (hh : ah_ok bB 198 [] h) {c l u g p q : Nat} (h3 : mF h 3 (.int (nI c))) (h1 : l ≤ c) (h2 : c ≤ u) (hu : u ≤ 6) (h4 : mF h 4 (.int (nI g))) (h5 : p ≤ g) (h6 : g ≤ q) (hq : q ≤ 8) {o : ah} (e : ∃ as, bB 162 = .inr (11, as) ∧ o = ah_put [] 162 (.inr (11, (as.set 3 (0, (l : Int), (u : Int))).set 4 (0, (p : Int), (q : Int))))) : ah_ok bB 198 o h := by
  obtain ⟨as, e1, rfl⟩ := e
  have a1 := ov_in (o := []) e1 hh h3 (a := (0, (l : Int), (u : Int))) (av_nI (by omega) (by omega) (by omega))
  exact ov_in (o := ah_put [] 162 (.inr (11, as.set 3 (0, (l : Int), (u : Int))))) rfl a1 h4 (a := (0, (p : Int), (q : Int))) (av_nI (by omega) (by omega) (by omega))
/-- fields 3 and 4 told back -/
theorem ov_nat {o : ah} {as : List av} (hh : ah_ok bB 198 o h) (e : ah_get bB o 162 = .inr (11, as)) {g l u : Nat} (ha : as[g]? = some (0, (l : Int), (u : Int))) (hu : u ≤ 100) : ∃ n : Nat, mF h g (.int (nI n)) ∧ l ≤ n ∧ n ≤ u := by
  obtain ⟨n, m, h1, h2⟩ := ob_nat hh e ha (by omega) (by omega)
  exact ⟨n, m, by omega, by omega⟩
theorem ov_out {o : ah} (hh : ah_ok bB 198 o h) (hl : ah_le bB o [] = true) : ah_ok bB 198 [] h := ah_le_ok hl hh
theorem hm_years (hI : mInv h) (x1 x2 : Int32) (hf : 500 ≤ fr) (hl : 12000 ≤ lo) : pm_WP PT fr lo 263 (0, pm_l0 [.ref 162, .int x1, .int x2] 7, [], h, 198, sl) (mPost anInt h sl) := by
  obtain ⟨q1, ⟨c, g, h3, h4, hc, hg, hcg⟩, q3⟩ := id hI.2
  by_cases z : c = 0
  · subst z
    obtain rfl : g = 0 := by omega
    exact wp_mono (rxw_years0 [.ref 162, .int x1, .int x2] h fr lo sl ⟨⟨rfl, List.mem_singleton_self _⟩, ai_top_ok _, ai_top_ok _, trivial⟩ (ov_34 (l := 0) (u := 0) (p := 0) (q := 0) hI.1 h3 (by omega) (by omega) (by omega) h4 (by omega) (by omega) (by omega) ⟨_, rfl, rfl⟩) hI.2 (Nat.le_trans (by decide) hf) (Nat.le_trans (by decide) hl)) (fun x q => post_c (fun _ => ao_I) q)
  · exact wp_mono (rxw_years1 [.ref 162, .int x1, .int x2] h fr lo sl ⟨⟨rfl, List.mem_singleton_self _⟩, ai_top_ok _, ai_top_ok _, trivial⟩ (ov_3 (l := 1) (u := 6) hI.1 h3 (by omega) (by omega) (by omega) ⟨_, rfl, rfl⟩) hI.2 (Nat.le_trans (by decide) hf) (Nat.le_trans (by decide) hl)) (fun x q => post_c (fun _ => ao_I) q)
theorem fmc_lt {F : fr_F} (hF : F.1 = rxC) {h h' : pm_H} (q : fm F h h') : ∀ i, i < 162 → h' i = h i := fun i hi => q.1 i (by
  rw [hF]
  unfold rxC
  have : Nat.blt i 162 = true := Nat.ble_eq_true_of_le hi
  rw [this]
  rfl)
theorem post_courts {n : Nat} {o : ah} {x : pm_Rs} (hI : mInv h) (h3 : mF h 3 (.int (nI n))) (e : ∃ as, ah_get bB o 162 = .inr (11, as) ∧ as[3]? = some (0, (n : Int), ((6 : Nat) : Int))) (hlo : ah_le bB o [] = true) (q : (∃ a, a ∈ [some ((0, (-2147483648), 2147483647) : av)] ∧ ao_ok x.1 a) ∧ x.2.2 = (198, sl) ∧ (fm rxFc h x.2.1 ∧ rxQ1 x.2.1) ∧ ah_ok bB 198 o x.2.1) : mPost anInt h sl x := by
  obtain ⟨a1, a2, ⟨a3, ⟨b1, b2, b3⟩⟩, a4⟩ := q
  obtain ⟨as, e1, e2⟩ := e
  obtain ⟨c, m3, l1, l2⟩ := ov_nat a4 e1 e2 (by decide)
  obtain ⟨-, ⟨c0, g0, k3, k4, hc6, hg, hcg⟩, -⟩ := hI.2
  have hc0 : c0 = n := by
    obtain ⟨fs, p1, p2⟩ := k3
    obtain ⟨fs', p1', p2'⟩ := h3
    rw [p1] at p1'
    cases p1'
    rw [p2] at p2'
    have e5 : nI c0 = nI n := by
      have := Option.some.inj p2'
      exact (Value.int.inj this)
    have e6 : n ≤ 6 := by omega
    have := congrArg Int32.toInt e5
    rw [nI_toInt (by omega), nI_toInt (by omega)] at this
    omega
  exact ⟨ao_I a1, a2, fmc_lt rfl a3, ov_out a4 hlo, b1, ⟨c, g0, m3, fm_mF a3 rfl k4, l2, hg, fun z => by have := hcg z; omega⟩, b2, b3⟩
theorem hm_courts (hI : mInv h) (hf : 500 ≤ fr) (hl : 12000 ≤ lo) : pm_WP PT fr lo 188 (0, pm_l0 [.ref 162] 7, [], h, 198, sl) (mPost anInt h sl) := by
  obtain ⟨q1, ⟨c, g, h3, h4, hc, hg, hcg⟩, q3⟩ := id hI.2
  have hQ : rxQ1 h := ⟨q1, q3⟩
  have : c = 0 ∨ c = 1 ∨ c = 2 ∨ c = 3 ∨ c = 4 ∨ c = 5 ∨ c = 6 := by omega
  rcases this with rfl | rfl | rfl | rfl | rfl | rfl | rfl
  · exact wp_mono (rxw_courts0 [.ref 162] h fr lo sl ⟨⟨rfl, List.mem_singleton_self _⟩, trivial⟩ (ov_3 (l := 0) (u := 0) hI.1 h3 (by omega) (by omega) (by omega) ⟨_, rfl, rfl⟩) hQ (Nat.le_trans (by decide) hf) (Nat.le_trans (by decide) hl)) (fun x q => post_courts (n := 0) hI h3 ⟨_, rfl, rfl⟩ (by decide +kernel) q)
  · exact wp_mono (rxw_courts1 [.ref 162] h fr lo sl ⟨⟨rfl, List.mem_singleton_self _⟩, trivial⟩ (ov_3 (l := 1) (u := 1) hI.1 h3 (by omega) (by omega) (by omega) ⟨_, rfl, rfl⟩) hQ (Nat.le_trans (by decide) hf) (Nat.le_trans (by decide) hl)) (fun x q => post_courts (n := 1) hI h3 ⟨_, rfl, rfl⟩ (by decide +kernel) q)
  · exact wp_mono (rxw_courts2 [.ref 162] h fr lo sl ⟨⟨rfl, List.mem_singleton_self _⟩, trivial⟩ (ov_3 (l := 2) (u := 2) hI.1 h3 (by omega) (by omega) (by omega) ⟨_, rfl, rfl⟩) hQ (Nat.le_trans (by decide) hf) (Nat.le_trans (by decide) hl)) (fun x q => post_courts (n := 2) hI h3 ⟨_, rfl, rfl⟩ (by decide +kernel) q)
  · exact wp_mono (rxw_courts3 [.ref 162] h fr lo sl ⟨⟨rfl, List.mem_singleton_self _⟩, trivial⟩ (ov_3 (l := 3) (u := 3) hI.1 h3 (by omega) (by omega) (by omega) ⟨_, rfl, rfl⟩) hQ (Nat.le_trans (by decide) hf) (Nat.le_trans (by decide) hl)) (fun x q => post_courts (n := 3) hI h3 ⟨_, rfl, rfl⟩ (by decide +kernel) q)
  · exact wp_mono (rxw_courts4 [.ref 162] h fr lo sl ⟨⟨rfl, List.mem_singleton_self _⟩, trivial⟩ (ov_3 (l := 4) (u := 4) hI.1 h3 (by omega) (by omega) (by omega) ⟨_, rfl, rfl⟩) hQ (Nat.le_trans (by decide) hf) (Nat.le_trans (by decide) hl)) (fun x q => post_courts (n := 4) hI h3 ⟨_, rfl, rfl⟩ (by decide +kernel) q)
  · exact wp_mono (rxw_courts5 [.ref 162] h fr lo sl ⟨⟨rfl, List.mem_singleton_self _⟩, trivial⟩ (ov_3 (l := 5) (u := 5) hI.1 h3 (by omega) (by omega) (by omega) ⟨_, rfl, rfl⟩) hQ (Nat.le_trans (by decide) hf) (Nat.le_trans (by decide) hl)) (fun x q => post_courts (n := 5) hI h3 ⟨_, rfl, rfl⟩ (by decide +kernel) q)
  · exact wp_mono (rxw_courts6 [.ref 162] h fr lo sl ⟨⟨rfl, List.mem_singleton_self _⟩, trivial⟩ (ov_3 (l := 6) (u := 6) hI.1 h3 (by omega) (by omega) (by omega) ⟨_, rfl, rfl⟩) hQ (Nat.le_trans (by decide) hf) (Nat.le_trans (by decide) hl)) (fun x q => post_courts (n := 6) hI h3 ⟨_, rfl, rfl⟩ (by decide +kernel) q)
theorem post_gifts {c : Nat} {x : pm_Rs} (hI : mInv h) (h3 : mF h 3 (.int (nI c))) (hc : 0 < c) (hc6 : c ≤ 6) (q : (∃ a, a ∈ [some ((0, (-2147483648), 2147483647) : av)] ∧ ao_ok x.1 a) ∧ x.2.2 = (198, sl) ∧ (fm rxFg h x.2.1 ∧ rxQ1 x.2.1) ∧ ah_ok bB 198 [] x.2.1) : mPost anInt h sl x := by
  obtain ⟨a1, a2, ⟨a3, ⟨b1, b2, b3⟩⟩, a4⟩ := q
  obtain ⟨g, m4, l1⟩ := ty_nat a4 (g := 4) (u := 8) rfl (by decide)
  exact ⟨ao_I a1, a2, fmc_lt rfl a3, a4, b1, ⟨c, g, fm_mF a3 rfl h3, m4, hc6, l1, fun _ => hc⟩, b2, b3⟩
theorem post_giftsn {x : pm_Rs} {o : ah} (hI : mInv h) (h3 : mF h 3 (.int (nI 0))) (e : ∃ as, ah_get bB o 162 = .inr (11, as) ∧ as[4]? = some (0, ((0 : Nat) : Int), ((0 : Nat) : Int))) (hlo : ah_le bB o [] = true) (q : (∃ a, a ∈ [some ((0, (-2147483648), 2147483647) : av)] ∧ ao_ok x.1 a) ∧ x.2.2 = (198, sl) ∧ (fm rxFg h x.2.1 ∧ rxQ1 x.2.1) ∧ ah_ok bB 198 o x.2.1) : mPost anInt h sl x := by
  obtain ⟨a1, a2, ⟨a3, ⟨b1, b2, b3⟩⟩, a4⟩ := q
  obtain ⟨as, e1, e2⟩ := e
  obtain ⟨g, m4, l1, l2⟩ := ov_nat a4 e1 e2 (by decide)
  exact ⟨ao_I a1, a2, fmc_lt rfl a3, ov_out a4 hlo, b1, ⟨0, g, fm_mF a3 rfl h3, m4, by omega, by omega, fun z => by omega⟩, b2, b3⟩
theorem hm_gifts (hI : mInv h) (hf : 500 ≤ fr) (hl : 12000 ≤ lo) : pm_WP PT fr lo 192 (0, pm_l0 [.ref 162] 6, [], h, 198, sl) (mPost anInt h sl) := by
  obtain ⟨q1, ⟨c, g, h3, h4, hc, hg, hcg⟩, q3⟩ := id hI.2
  have hQ : rxQ1 h := ⟨q1, q3⟩
  by_cases z : c = 0
  · subst z
    obtain rfl : g = 0 := by omega
    exact wp_mono (rxw_giftsn [.ref 162] h fr lo sl ⟨⟨rfl, List.mem_singleton_self _⟩, trivial⟩ (ov_34 (l := 0) (u := 0) (p := 0) (q := 0) hI.1 h3 (by omega) (by omega) (by omega) h4 (by omega) (by omega) (by omega) ⟨_, rfl, rfl⟩) hQ (Nat.le_trans (by decide) hf) (Nat.le_trans (by decide) hl)) (fun x q => post_giftsn hI h3 ⟨_, rfl, rfl⟩ (by decide +kernel) q)
  have : g = 0 ∨ g = 1 ∨ g = 2 ∨ g = 3 ∨ g = 4 ∨ g = 5 ∨ g = 6 ∨ g = 7 ∨ g = 8 := by omega
  rcases this with rfl | rfl | rfl | rfl | rfl | rfl | rfl | rfl | rfl
  · exact wp_mono (rxw_gifts0 [.ref 162] h fr lo sl ⟨⟨rfl, List.mem_singleton_self _⟩, trivial⟩ (ov_34 (l := 1) (u := 6) (p := 0) (q := 0) hI.1 h3 (by omega) (by omega) (by omega) h4 (by omega) (by omega) (by omega) ⟨_, rfl, rfl⟩) hQ (Nat.le_trans (by decide) hf) (Nat.le_trans (by decide) hl)) (fun x q => post_gifts (c := c) hI h3 (by omega) hc q)
  · exact wp_mono (rxw_gifts1 [.ref 162] h fr lo sl ⟨⟨rfl, List.mem_singleton_self _⟩, trivial⟩ (ov_34 (l := 1) (u := 6) (p := 1) (q := 1) hI.1 h3 (by omega) (by omega) (by omega) h4 (by omega) (by omega) (by omega) ⟨_, rfl, rfl⟩) hQ (Nat.le_trans (by decide) hf) (Nat.le_trans (by decide) hl)) (fun x q => post_gifts (c := c) hI h3 (by omega) hc q)
  · exact wp_mono (rxw_gifts2 [.ref 162] h fr lo sl ⟨⟨rfl, List.mem_singleton_self _⟩, trivial⟩ (ov_34 (l := 1) (u := 6) (p := 2) (q := 2) hI.1 h3 (by omega) (by omega) (by omega) h4 (by omega) (by omega) (by omega) ⟨_, rfl, rfl⟩) hQ (Nat.le_trans (by decide) hf) (Nat.le_trans (by decide) hl)) (fun x q => post_gifts (c := c) hI h3 (by omega) hc q)
  · exact wp_mono (rxw_gifts3 [.ref 162] h fr lo sl ⟨⟨rfl, List.mem_singleton_self _⟩, trivial⟩ (ov_34 (l := 1) (u := 6) (p := 3) (q := 3) hI.1 h3 (by omega) (by omega) (by omega) h4 (by omega) (by omega) (by omega) ⟨_, rfl, rfl⟩) hQ (Nat.le_trans (by decide) hf) (Nat.le_trans (by decide) hl)) (fun x q => post_gifts (c := c) hI h3 (by omega) hc q)
  · exact wp_mono (rxw_gifts4 [.ref 162] h fr lo sl ⟨⟨rfl, List.mem_singleton_self _⟩, trivial⟩ (ov_34 (l := 1) (u := 6) (p := 4) (q := 4) hI.1 h3 (by omega) (by omega) (by omega) h4 (by omega) (by omega) (by omega) ⟨_, rfl, rfl⟩) hQ (Nat.le_trans (by decide) hf) (Nat.le_trans (by decide) hl)) (fun x q => post_gifts (c := c) hI h3 (by omega) hc q)
  · exact wp_mono (rxw_gifts5 [.ref 162] h fr lo sl ⟨⟨rfl, List.mem_singleton_self _⟩, trivial⟩ (ov_34 (l := 1) (u := 6) (p := 5) (q := 5) hI.1 h3 (by omega) (by omega) (by omega) h4 (by omega) (by omega) (by omega) ⟨_, rfl, rfl⟩) hQ (Nat.le_trans (by decide) hf) (Nat.le_trans (by decide) hl)) (fun x q => post_gifts (c := c) hI h3 (by omega) hc q)
  · exact wp_mono (rxw_gifts6 [.ref 162] h fr lo sl ⟨⟨rfl, List.mem_singleton_self _⟩, trivial⟩ (ov_34 (l := 1) (u := 6) (p := 6) (q := 6) hI.1 h3 (by omega) (by omega) (by omega) h4 (by omega) (by omega) (by omega) ⟨_, rfl, rfl⟩) hQ (Nat.le_trans (by decide) hf) (Nat.le_trans (by decide) hl)) (fun x q => post_gifts (c := c) hI h3 (by omega) hc q)
  · exact wp_mono (rxw_gifts7 [.ref 162] h fr lo sl ⟨⟨rfl, List.mem_singleton_self _⟩, trivial⟩ (ov_34 (l := 1) (u := 6) (p := 7) (q := 7) hI.1 h3 (by omega) (by omega) (by omega) h4 (by omega) (by omega) (by omega) ⟨_, rfl, rfl⟩) hQ (Nat.le_trans (by decide) hf) (Nat.le_trans (by decide) hl)) (fun x q => post_gifts (c := c) hI h3 (by omega) hc q)
  · exact wp_mono (rxw_gifts8 [.ref 162] h fr lo sl ⟨⟨rfl, List.mem_singleton_self _⟩, trivial⟩ (ov_34 (l := 1) (u := 6) (p := 8) (q := 8) hI.1 h3 (by omega) (by omega) (by omega) h4 (by omega) (by omega) (by omega) ⟨_, rfl, rfl⟩) hQ (Nat.le_trans (by decide) hf) (Nat.le_trans (by decide) hl)) (fun x q => post_gifts (c := c) hI h3 (by omega) hc q)
end MPW
end MG77answerx1
section MG77answerx2
/-! fields that a set of methods never writes: by their code alone -/
section SFF
variable {fr lo k pc sz sl : Nat} {L : pm_L} {S : List Value} {h : pm_H} {st' : pm_St} {P : Nat → Nat → Bool}
def sfF (P : Nat → Nat → Bool) : fr_F := (fun _ => false, P)
def sf_i (P : Nat → Nat → Bool) (k : Nat) (i : Instr) : Bool := match i with
  | .putfield j => (match pm_fld PT (pm_o PT k) j with
    | some (ci, f, _) => !(P ci f)
    | none => false)
  | .aastore | .newarray _ | .anewarray _ | .new _ => false
  | .invokespecial j => (match pm_mlk PT (pm_o PT k) j with
    | some (9, _) => false
    | _ => true)
  | _ => true
theorem sf_simple {i : Instr} (hw : sf_i P k i = true) (hh : pm_simple PT fr lo k i pc L S h sz sl = some st') : fm (sfF P) h st'.2.2.2.1 := by
  have none9 : ∀ j, (i = .invokestatic j ∨ i = .invokespecial j) → (∀ w x, pm_mlk PT (pm_o PT k) j = some (w, x) → w ≠ 9) → fm (sfF P) h st'.2.2.2.1 := by
    intro j hj hm
    have e := pm_simple_nw (T := PT) (k := k) (i := i) (by rcases hj with rfl | rfl <;> rfl) (fun j' w x hj' e => by
      have : j' = j := by
        rcases hj with rfl | rfl <;> rcases hj' with q | q <;> cases q <;> rfl
      subst this
      exact hm w x e) hh
    rw [e]
    exact fm_rf h
  cases i
  case putfield j =>
    dsimp only [pm_simple] at hh
    unfold pm_pf at hh
    split at hh
    · rename_i v a r
      split at hh
      · rename_i ci fs cj f t e1 e2
        split at hh
        · rename_i hc
          cases hh
          dsimp only [sf_i] at hw
          rw [e2] at hw
          dsimp only at hw
          have hci := hc.1
          subst hci
          exact fm_fld rfl (pm_obj_inv e1).2 (show P _ f = false by simpa using hw)
        · cases hh
      · cases hh
    · cases hh
  case iastore => exact pm_iS_fm (ty := .int) (nr := fun x => x) hh (fun x i p r e => rfl)
  case castore => exact pm_iS_fm (ty := .char) (nr := fun x => vp_nar .char x) hh (fun x i p r e => rfl)
  case bastore => exact pm_iS_fm (ty := .boolean) (nr := fun x => vp_nar .boolean x) hh (fun x i p r e => rfl)
  case lastore => exact pm_lS_fm hh (fun x i p r e => rfl)
  case invokespecial j =>
    refine none9 j (Or.inr rfl) (fun w x e q => ?_)
    subst q
    dsimp only [sf_i] at hw
    rw [e] at hw
    cases hw
  case invokestatic j =>
    cases em : pm_mlk PT (pm_o PT k) j with
    | none => exact none9 j (Or.inl rfl) (fun w x e => by rw [em] at e; cases e)
    | some wx =>
      obtain ⟨w, x⟩ := wx
      by_cases h9 : w = 9
      · subst h9
        have hh : pm_libW PT false fr lo k j pc L S h sz sl = some st' := hh
        unfold pm_libW at hh
        rw [em] at hh
        dsimp only at hh
        split at hh
        · unfold pm_lib at hh
          split at hh
          · exfalso; first | omega | (simp at *; done)
          · exfalso; first | omega | (simp at *; done)
          · exfalso; first | omega | (simp at *; done)
          · rename_i n dp a sp a0 r _
            split at hh
            · rename_i e1 e2
              split at hh
              · cases hh
                exact fm_arr rfl ⟨_, (pm_iar_inv e2).2.1⟩
              · cases hh
            · cases hh
          · cases hh
        · cases hh
      · exact none9 j (Or.inl rfl) (fun w' x' e => by rw [em] at e; cases e; exact h9)
  all_goals first
    | (cases hw; done)
    | (have e := pm_simple_nw (T := PT) (k := k) rfl (fun j w x hj _ => by rcases hj with q | q <;> cases q) hh
       rw [e]
       exact fm_rf h)
/-- K is closed, and nothing in it writes a field of P -/
def sf_ok (P : Nat → Nat → Bool) (K : Nat → Bool) : Prop := ∀ k pc i len, K k = true → pm_ins PT k pc = some (i, len) → sf_i P k i = true ∧ ∀ w t, pm_callee PT k i = some (w, t) → K t = true
theorem sf_run {K : Nat → Bool} (hK : sf_ok P K) : ∀ (n fr lo k : Nat) (st : pm_St) (r : pm_Rs), K k = true → pm_run PT n fr lo k st = some r → fm (sfF P) st.2.2.2.1 r.2.1
  | 0, _, _, _, _, _, _, h => by cases h
  | n + 1, fr, lo, k, st, r, hk, h => by
    unfold pm_run at h
    split at h
    · rename_i r' e1
      cases h
      unfold pm_end at e1
      split at e1
      · cases e1
      · split at e1
        · split at e1
          · cases e1; exact fm_rf _
          · cases e1
        · cases e1
    · split at h
      · rename_i st' e2
        have ih := sf_run hK n fr lo k st' r hk h
        refine fm_tr ?_ ih
        unfold pm_step at e2
        split at e2
        · cases e2
        · rename_i i len ei
          obtain ⟨n1, n2⟩ := hK k _ i len hk ei
          split at e2
          · split at e2
            · rename_i w t ec
              split at e2
              · split at e2
                · rename_i rv h1 sz1 sl1 e3
                  cases e2
                  exact sf_run hK n _ _ t (0, pm_l0 (st.2.2.1.take (pm_na PT t)).reverse (pm_max PT t), [], st.2.2.2.1, st.2.2.2.2.1, st.2.2.2.2.2) (rv, h1, sz1, sl1) (n2 w t ec) e3
                · cases e2
              · cases e2
            · exact sf_simple n1 e2
          · cases e2
      · cases h
theorem sf_wp {K : Nat → Bool} (hK : sf_ok P K) {st : pm_St} {Q : pm_Rs → Prop} (hk : K k = true) (q : pm_WP PT fr lo k st Q) : pm_WP PT fr lo k st (fun x => Q x ∧ fm (sfF P) st.2.2.2.1 x.2.1) := by
  obtain ⟨n, r, h1, h2⟩ := q
  exact ⟨n, r, h1, h2, sf_run hK n fr lo k st r hk h1⟩
def sf_c (P : Nat → Nat → Bool) (K : Nat → Bool) (k : Nat) (i : Instr) : Bool := sf_i P k i && (match pm_callee PT k i with
  | some (_, t) => K t
  | none => true)
def sf_b (P : Nat → Nat → Bool) (K : Nat → Bool) (k : Nat) : Bool := match pd_a2 k with
  | some e => e.2.all (fun c => c.all (fun x => sf_c P K k x.2.1))
  | none => true
theorem sf_of {K : Nat → Bool} {N : List Nat} (hN : ∀ k, K k = true → k ∈ N) (hb : N.all (sf_b P K) = true) : sf_ok P K := by
  intro k pc i len hk hi
  have hb := List.all_eq_true.mp hb k (hN k hk)
  have hi : pd_ins k pc = some (i, len) := hi
  unfold pd_ins at hi
  unfold sf_b at hb
  split at hi
  · rename_i e ee
    rw [ee] at hb
    dsimp only at hb
    unfold pm_ch at hi
    split at hi
    · rename_i c ec
      have h1 := List.all_eq_true.mp (List.all_eq_true.mp hb c (pm_nth_mem ec)) _ (pm_fd_mem hi)
      unfold sf_c at h1
      rw [Bool.and_eq_true] at h1
      obtain ⟨a1, a2⟩ := h1
      dsimp only at a1 a2
      refine ⟨a1, fun w t ht => ?_⟩
      rw [ht] at a2
      exact a2
    · cases hi
  · cases hi
/-- all but some: those are never called -/
def sf_X (X : List Nat) (k : Nat) : Bool := Nat.blt k 271 && !(X.any (fun x => Nat.beq x k))
theorem sf_X_in {X : List Nat} (k : Nat) (h : sf_X X k = true) : k ∈ (List.range 271).filter (fun k => !(X.any (fun x => Nat.beq x k))) := by
  unfold sf_X at h
  rw [Bool.and_eq_true] at h
  exact List.mem_filter.mpr ⟨List.mem_range.mpr (by have := Nat.le_of_ble_eq_true h.1; omega), h.2⟩
end SFF
end MG77answerx2
end MH69rxs11x3
section MH69rxs11x4
/-! a run from a place on: the same, of one method's later places alone -/
section SFR
variable {fr lo k pc sz sl p1 : Nat} {L : pm_L} {S : List Value} {h : pm_H} {st st' : pm_St} {P : Nat → Nat → Bool}
def sc_o (p1 pc : Nat) (off : Int) : Bool := decide ((p1 : Int) ≤ (pc : Int) + off)
/-- it leads to no place ahead of p1 -/
def sc_i (p1 pc : Nat) (i : Instr) : Bool := match i with
  | .ifCond _ off => sc_o p1 pc off
  | .if_icmp _ off => sc_o p1 pc off
  | .goto off => sc_o p1 pc off
  | .tableswitch _ _ _ _ => false
  | .lookupswitch _ _ => false
  | _ => true
theorem sc_tgt {off : Int} {t : Nat} (ho : sc_o p1 pc off = true) (e : pm_tgt pc off = some t) : p1 ≤ t := by
  have ho := of_decide_eq_true ho
  unfold pm_tgt at e
  split at e
  · cases e
    omega
  · cases e
theorem sc_jp {off : Int} (ho : sc_o p1 pc off = true) (hh : pm_jp pc off L S h sz sl = some st') : p1 ≤ st'.1 := by
  unfold pm_jp at hh
  split at hh
  · rename_i t e
    cases hh
    exact sc_tgt ho e
  · cases hh
theorem sc_br {off : Int} {b : Bool} (hp : p1 ≤ pc) (ho : sc_o p1 pc off = true) (hh : pm_br b pc off L S h sz sl = some st') : p1 ≤ st'.1 := by
  unfold pm_br at hh
  split at hh
  · rename_i t e
    have := sc_tgt ho e
    cases b <;> (cases hh; first | exact this | (show p1 ≤ pc + 3; omega))
  · cases hh
set_option maxHeartbeats 4000000 in
theorem sc_simple {i : Instr} (hp : p1 ≤ pc) (hi : sc_i p1 pc i = true) (hh : pm_simple PT fr lo k i pc L S h sz sl = some st') : p1 ≤ st'.1 := by
  have lib : ∀ sp j, pm_libW PT sp fr lo k j pc L S h sz sl = some st' → p1 ≤ st'.1 := by
    intro sp j hh
    unfold pm_libW at hh
    split at hh
    · split at hh
      · unfold pm_lib at hh
        repeat' split at hh
        all_goals first
          | (cases hh; done)
          | (cases hh; show p1 ≤ pc + 3; omega)
      · cases hh
    · cases hh
  by_cases hq : (∃ j, i = .invokespecial j) ∨ ∃ j, i = .invokestatic j
  · rcases hq with ⟨j, rfl⟩ | ⟨j, rfl⟩
    · exact lib true j hh
    · exact lib false j hh
  · unfold pm_simple at hh
    split at hh
    all_goals (try (cases hi; done))
    all_goals (try (exact absurd (Or.inl ⟨_, rfl⟩) hq))
    all_goals (try (exact absurd (Or.inr ⟨_, rfl⟩) hq))
    all_goals (try (split at hh <;> first | (cases hh; done) | (exact sc_br hp hi hh)))
    all_goals (try (exact sc_jp hi hh))
    all_goals (try simp only [pm_bi, pm_bd, pm_bl, pm_bdL, pm_ui, pm_lo, pm_so, pm_sL, pm_ia, pm_la, pm_qa, pm_al, pm_gf, pm_pf, pm_iS, pm_lS, pm_qS, pm_libV, pm_newI, pm_newL, pm_newQ, pm_newO] at hh)
    all_goals (repeat' split at hh)
    all_goals (first | (cases hh; done) | (cases hh; dsimp only; omega))
set_option maxHeartbeats 4000000 in
theorem sz_simple {i : Instr} (hi : sf_i P k i = true) (hh : pm_simple PT fr lo k i pc L S h sz sl = some st') : st'.2.2.2.2 = (sz, sl) := by
  have lib : ∀ sp j, pm_libW PT sp fr lo k j pc L S h sz sl = some st' → st'.2.2.2.2 = (sz, sl) := by
    intro sp j hh
    unfold pm_libW at hh
    split at hh
    · split at hh
      · unfold pm_lib at hh
        repeat' split at hh
        all_goals first
          | (cases hh; done)
          | (cases hh; rfl)
      · cases hh
    · cases hh
  by_cases hq : (∃ j, i = .invokespecial j) ∨ ∃ j, i = .invokestatic j
  · rcases hq with ⟨j, rfl⟩ | ⟨j, rfl⟩
    · exact lib true j hh
    · exact lib false j hh
  · unfold pm_simple at hh
    split at hh
    all_goals (try (cases hi; done))
    all_goals (try (exact absurd (Or.inl ⟨_, rfl⟩) hq))
    all_goals (try (exact absurd (Or.inr ⟨_, rfl⟩) hq))
    all_goals (try simp only [pm_bi, pm_bd, pm_bl, pm_bdL, pm_ui, pm_lo, pm_so, pm_sL, pm_jp, pm_br, pm_ia, pm_la, pm_qa, pm_al, pm_gf, pm_pf, pm_iS, pm_lS, pm_qS, pm_libV] at hh)
    all_goals (repeat' split at hh)
    all_goals (first | (cases hh; done) | (cases hh; rfl))
theorem sz_run {K : Nat → Bool} (hK : sf_ok P K) : ∀ (n fr lo k : Nat) (st : pm_St) (r : pm_Rs), K k = true → pm_run PT n fr lo k st = some r → r.2.2 = st.2.2.2.2
  | 0, _, _, _, _, _, _, h => by cases h
  | n + 1, fr, lo, k, st, r, hk, h => by
    unfold pm_run at h
    split at h
    · rename_i r' e1
      cases h
      unfold pm_end at e1
      split at e1
      · cases e1
      · split at e1
        · split at e1
          · cases e1; rfl
          · cases e1
        · cases e1
    · split at h
      · rename_i st' e2
        rw [sz_run hK n fr lo k st' r hk h]
        unfold pm_step at e2
        split at e2
        · cases e2
        · rename_i i len ei
          obtain ⟨n1, n2⟩ := hK k _ i len hk ei
          split at e2
          · split at e2
            · rename_i w t ec
              split at e2
              · split at e2
                · rename_i rv h1 sz1 sl1 e3
                  cases e2
                  exact sz_run hK n _ _ t (0, pm_l0 (st.2.2.1.take (pm_na PT t)).reverse (pm_max PT t), [], st.2.2.2.1, st.2.2.2.2.1, st.2.2.2.2.2) (rv, h1, sz1, sl1) (n2 w t ec) e3
                · cases e2
              · cases e2
            · exact sz_simple n1 e2
          · cases e2
      · cases h
theorem rn_i {i : Instr} {len n : Nat} {r : pm_Rs} (hi : pm_ins PT k pc = some (i, len)) (hl : pm_lenOk i len = true) (hc : pm_callee PT k i = none) (hs : pm_simple PT fr lo k i pc L S h sz sl = some st') (hh : pm_run PT n fr lo k (pc, L, S, h, sz, sl) = some r) : ∃ m, pm_run PT m fr lo k st' = some r := by
  have e : pm_step PT pm_go0 fr lo k (pc, L, S, h, sz, sl) = some st' := (ls_of hi hl hc).trans hs
  cases n with
  | zero => cases hh
  | succ n =>
    unfold pm_run at hh
    rw [pm_end_no e, pm_step_go (go' := fun fr lo t as h sz sl => pm_run PT n fr lo t (0, pm_l0 as (pm_max PT t), [], h, sz, sl)) (fun _ _ _ _ _ _ _ _ q => by cases q) e] at hh
    exact ⟨n, hh⟩
theorem rn_call {i : Instr} {len w t n : Nat} {r : pm_Rs} (hi : pm_ins PT k pc = some (i, len)) (hc : pm_callee PT k i = some (w, t)) (hh : pm_run PT n fr lo k (pc, L, S, h, sz, sl) = some r) : ∃ m fr' lo' r1, pm_run PT m fr' lo' t (0, pm_l0 (S.take (pm_na PT t)).reverse (pm_max PT t), [], h, sz, sl) = some r1 ∧ pm_run PT m fr lo k (pc + 3, L, r1.1.toList ++ S.drop (pm_na PT t), r1.2) = some r := by
  cases n with
  | zero => cases hh
  | succ n =>
    unfold pm_run at hh
    split at hh
    · rename_i r' e1
      exfalso
      unfold pm_end at e1
      dsimp only at e1
      rw [hi] at e1
      dsimp only at e1
      split at e1
      · split at e1
        · rename_i rv er
          rcases pm_rets_no er with rfl | rfl | rfl
          · cases hc
          · cases hc
          · cases hc
        · cases e1
      · cases e1
    · split at hh
      · rename_i st2 e2
        unfold pm_step at e2
        dsimp only at e2
        rw [hi] at e2
        dsimp only at e2
        split at e2
        · rw [hc] at e2
          dsimp only at e2
          split at e2
          · split at e2
            · rename_i rv h1 sz1 sl1 e3
              cases e2
              exact ⟨n, _, _, (rv, h1, sz1, sl1), e3, hh⟩
            · cases e2
          · cases e2
        · cases e2
      · cases hh
/-- from the place p1 on, the method k writes no field of P, and calls nothing outside of K -/
def sfr_ok (P : Nat → Nat → Bool) (K : Nat → Bool) (k p1 : Nat) : Prop := ∀ pc i len, p1 ≤ pc → pm_ins PT k pc = some (i, len) → (sf_i P k i = true ∧ ∀ w t, pm_callee PT k i = some (w, t) → K t = true) ∧ sc_i p1 pc i = true
theorem sfr_run {K : Nat → Bool} (hK : sf_ok P K) (hR : sfr_ok P K k p1) : ∀ (n fr lo : Nat) (st : pm_St) (r : pm_Rs), p1 ≤ st.1 → pm_run PT n fr lo k st = some r → fm (sfF P) st.2.2.2.1 r.2.1
  | 0, _, _, _, _, _, h => by cases h
  | n + 1, fr, lo, st, r, hp, h => by
    unfold pm_run at h
    split at h
    · rename_i r' e1
      cases h
      unfold pm_end at e1
      split at e1
      · cases e1
      · split at e1
        · split at e1
          · cases e1; exact fm_rf _
          · cases e1
        · cases e1
    · split at h
      · rename_i st' e2
        unfold pm_step at e2
        split at e2
        · cases e2
        · rename_i i len ei
          obtain ⟨⟨n1, n2⟩, n3⟩ := hR _ i len hp ei
          split at e2
          · split at e2
            · rename_i w t ec
              split at e2
              · split at e2
                · rename_i rv h1 sz1 sl1 e3
                  cases e2
                  exact fm_tr (sf_run hK n _ _ t (0, pm_l0 (st.2.2.1.take (pm_na PT t)).reverse (pm_max PT t), [], st.2.2.2.1, st.2.2.2.2.1, st.2.2.2.2.2) (rv, h1, sz1, sl1) (n2 w t ec) e3) (sfr_run hK hR n fr lo _ r (show p1 ≤ st.1 + 3 by omega) h)
                · cases e2
              · cases e2
            · exact fm_tr (sf_simple n1 e2) (sfr_run hK hR n fr lo st' r (sc_simple hp n3 e2) h)
          · cases e2
      · cases h
def sfr_b (P : Nat → Nat → Bool) (K : Nat → Bool) (k p1 : Nat) : Bool := match pd_a2 k with
  | some e => e.2.all (fun c => c.all (fun x => Nat.blt x.1 p1 || (sf_c P K k x.2.1 && sc_i p1 x.1 x.2.1)))
  | none => true
theorem sfr_of {K : Nat → Bool} (hb : sfr_b P K k p1 = true) : sfr_ok P K k p1 := by
  intro pc i len hp hi
  have hi : pd_ins k pc = some (i, len) := hi
  unfold pd_ins at hi
  unfold sfr_b at hb
  split at hi
  · rename_i e ee
    rw [ee] at hb
    dsimp only at hb
    unfold pm_ch at hi
    split at hi
    · rename_i c ec
      have h1 := List.all_eq_true.mp (List.all_eq_true.mp hb c (pm_nth_mem ec)) _ (pm_fd_mem hi)
      have hn : Nat.blt pc p1 = false := by
        cases hx : Nat.blt pc p1 with
        | false => rfl
        | true => exact absurd (Nat.le_of_ble_eq_true hx) (by omega)
      rw [hn, Bool.false_or] at h1
      unfold sf_c at h1
      rw [Bool.and_eq_true, Bool.and_eq_true] at h1
      obtain ⟨⟨a1, a2⟩, a3⟩ := h1
      dsimp only at a1 a2 a3
      refine ⟨⟨a1, fun w t ht => ?_⟩, a3⟩
      rw [ht] at a2
      exact a2
    · cases hi
  · cases hi
/-- what is told of every run -/
theorem wp_runs {Q Z : pm_Rs → Prop} (q : pm_WP PT fr lo k st Q) (z : ∀ n r, pm_run PT n fr lo k st = some r → Z r) : pm_WP PT fr lo k st (fun x => Q x ∧ Z x) := by
  obtain ⟨n, r, h1, h2⟩ := q
  exact ⟨n, r, h1, h2, z n r h1⟩
end SFR
end MH69rxs11x4
section MH69rxs11x5
/-! cells that a closed set of methods can't reach: no field that leads to them is read -/
section NRR
variable {fr lo k pc sz sl : Nat} {L : pm_L} {S : List Value} {h : pm_H} {st' : pm_St} {A : Nat → Bool} {G : Nat → Nat → Bool}
def nrv (A : Nat → Bool) (v : Value) : Prop := ∀ p, v = .ref p → A p = false
def nrL (A : Nat → Bool) (L : pm_L) : Prop := ∀ (i : Nat) (v : Value), L[i]? = some (some v) → nrv A v
def nrS (A : Nat → Bool) (S : List Value) : Prop := ∀ v, v ∈ S → nrv A v
def nrH (A : Nat → Bool) (G : Nat → Nat → Bool) (h : pm_H) : Prop := (∀ i ci fs, i < 198 → h i = .inr (ci, fs) → ∀ (f : Nat) (v : Value), fs[f]? = some v → G ci f = false → nrv A v) ∧ ∀ i kd n f, i < 198 → h i = .inl (kd, n, .inr (.inr (.inr (.inr f)))) → ∀ j, j < n → nrv A (va_rf (f j))
theorem nrv_i (x : Int32) : nrv A (.int x) := fun p e => by cases e
theorem nrv_l (x : Int64) : nrv A (.long x) := fun p e => by cases e
theorem nrv_t (x : Nat) : nrv A (.retAddr x) := fun p e => by cases e
theorem nrS_cons {v : Value} {r : List Value} : nrS A (v :: r) ↔ nrv A v ∧ nrS A r := List.forall_mem_cons
theorem nrL_set {i : Nat} {o : Option Value} (h : nrL A L) (ho : ∀ v, o = some v → nrv A v) : nrL A (L.set i o) := by
  intro j v e
  by_cases z : i = j
  · subst z
    rw [List.getElem?_set] at e
    split at e
    · split at e
      · cases e
        exact ho v rfl
      · cases e
    · exact absurd rfl ‹_›
  · rw [List.getElem?_set_ne z] at e
    exact h j v e
theorem nrL_cut {i : Nat} (h : nrL A L) : nrL A (pm_cut L i) := by
  unfold pm_cut
  split
  · exact h
  · split
    · exact nrL_set h (fun v e => by cases e)
    · exact h
theorem nrL_st1 {i : Nat} {v : Value} (h : nrL A L) (hv : nrv A v) : nrL A (pm_st1 L i v) := nrL_set (nrL_cut h) (fun w e => by cases e; exact hv)
theorem nrL_st2 {i : Nat} {v : Value} (h : nrL A L) (hv : nrv A v) : nrL A (pm_st2 L i v) := nrL_set (nrL_set (nrL_cut h) (fun w e => by cases e; exact hv)) (fun w e => by cases e)
theorem nrL_get {i : Nat} {v : Value} (h : nrL A L) (e : pm_get L i = some v) : nrv A v := by
  unfold pm_get at e
  split at e
  · rename_i w ew
    cases e
    exact h i v ew
  · cases e
theorem nrL_ld {t i : Nat} {v : Value} (h : nrL A L) (e : pm_ld t L i = some v) : nrv A v := by
  unfold pm_ld at e
  split at e
  · rename_i w ew
    split at e
    · cases e
      exact nrL_get h ew
    · cases e
  · cases e
theorem nrL_args : ∀ {vs : List Value}, nrS A vs → nrL A (pm_args vs)
  | [], _ => fun i v e => by simp [pm_args] at e
  | w :: r, hS => by
    obtain ⟨h1, h2⟩ := nrS_cons.mp hS
    have ih := nrL_args h2
    unfold pm_args
    split
    · intro i v e
      match i, e with
      | 0, e => cases e; exact h1
      | 1, e => cases e
      | i + 2, e => exact ih i v e
    · intro i v e
      match i, e with
      | 0, e => cases e; exact h1
      | i + 1, e => exact ih i v e
theorem nrL_l0 {vs : List Value} {n : Nat} (hS : nrS A vs) : nrL A (pm_l0 vs n) := by
  intro i v e
  unfold pm_l0 at e
  by_cases z : i < (pm_args vs).length
  · rw [List.getElem?_append_left z] at e
    exact nrL_args hS i v e
  · rw [List.getElem?_append_right (by omega)] at e
    rw [List.getElem?_replicate] at e
    split at e
    · cases e
    · cases e
def nr_i (G : Nat → Nat → Bool) (k : Nat) (i : Instr) : Bool := match i with
  | .getfield j => (match pm_fld PT (pm_o PT k) j with
    | some (ci, f, _) => !(G ci f)
    | none => true)
  | .aastore | .newarray _ | .anewarray _ | .new _ => false
  | _ => true
def nr_st (A : Nat → Bool) (G : Nat → Nat → Bool) (L : pm_L) (S : List Value) (h : pm_H) : Prop := nrL A L ∧ nrS A S ∧ nrH A G h
theorem nrH_arr {a : Nat} {e : Nat × vp_A} (hH : nrH A G h) (he : ∀ kd n f, e = (kd, n, .inr (.inr (.inr (.inr f)))) → ∀ j, j < n → nrv A (va_rf (f j))) : nrH A G (va_up h a (.inl e)) := by
  refine ⟨fun i ci fs hb hi => ?_, fun i kd n f hb hi => ?_⟩
  · by_cases z : i = a
    · subst z; simp [va_up] at hi
    · simp [va_up, z] at hi; exact hH.1 i ci fs hb hi
  · by_cases z : i = a
    · subst z
      simp [va_up] at hi
      exact he kd n f hi
    · simp [va_up, z] at hi; exact hH.2 i kd n f hb hi
theorem nrH_fld {a ci f : Nat} {fs : List Value} {v : Value} (hH : nrH A G h) (e : h a = .inr (ci, fs)) (hv : nrv A v) : nrH A G (va_up h a (.inr (ci, fs.set f v))) := by
  refine ⟨fun i cj gs hb hi => ?_, fun i kd n g hb hi => ?_⟩
  · by_cases z : i = a
    · subst z
      simp [va_up] at hi
      obtain ⟨rfl, rfl⟩ := hi
      intro g w hw hG
      by_cases zf : f = g
      · subst zf
        rw [List.getElem?_set] at hw
        split at hw
        · split at hw
          · cases hw; exact hv
          · cases hw
        · exact absurd rfl ‹_›
      · rw [List.getElem?_set_ne zf] at hw
        exact hH.1 i ci fs hb e g w hw hG
    · simp [va_up, z] at hi; exact hH.1 i cj gs hb hi
  · by_cases z : i = a
    · subst z; simp [va_up] at hi
    · simp [va_up, z] at hi; exact hH.2 i kd n g hb hi
theorem nr_up {a : Nat} {e : pm_E} (ha : A a = false) : ∀ i, A i = true → va_up h a e i = h i := by
  intro i hi
  have : i ≠ a := fun q => by rw [q, ha] at hi; cases hi
  simp [va_up, this]
set_option maxHeartbeats 8000000 in
theorem nr_simple {i : Instr} (hB : sz ≤ 198) (hi : nr_i G k i = true) (q : nr_st A G L S h) (hh : pm_simple PT fr lo k i pc L S h sz sl = some st') : nr_st A G st'.2.1 st'.2.2.1 st'.2.2.2.1 ∧ ∀ a, A a = true → st'.2.2.2.1 a = h a := by
  obtain ⟨hL, hS, hH⟩ := q
  have lib : ∀ sp j, pm_libW PT sp fr lo k j pc L S h sz sl = some st' → nr_st A G st'.2.1 st'.2.2.1 st'.2.2.2.1 ∧ ∀ a, A a = true → st'.2.2.2.1 a = h a := by
    intro sp j hh
    unfold pm_libW at hh
    split at hh
    · split at hh
      · unfold pm_lib at hh
        split at hh
        · split at hh
          · cases hh
            exact ⟨⟨hL, (nrS_cons.mp hS).2, hH⟩, fun _ _ => rfl⟩
          · cases hh
        · split at hh
          · cases hh
            exact ⟨⟨hL, nrS_cons.mpr ⟨nrv_i _, (nrS_cons.mp (nrS_cons.mp hS).2).2⟩, hH⟩, fun _ _ => rfl⟩
          · cases hh
        · split at hh
          · cases hh
            exact ⟨⟨hL, nrS_cons.mpr ⟨nrv_i _, (nrS_cons.mp (nrS_cons.mp hS).2).2⟩, hH⟩, fun _ _ => rfl⟩
          · cases hh
        · split at hh
          · split at hh
            · cases hh
              simp only [nrS_cons] at hS
              exact ⟨⟨hL, hS.2.2.2.2.2, nrH_arr hH (fun kd n f e => by cases e)⟩, nr_up (hS.2.2.1 _ rfl)⟩
            · cases hh
          · cases hh
        · cases hh
      · cases hh
    · cases hh
  by_cases hq : (∃ j, i = .invokespecial j) ∨ ∃ j, i = .invokestatic j
  · rcases hq with ⟨j, rfl⟩ | ⟨j, rfl⟩
    · exact lib true j hh
    · exact lib false j hh
  · unfold pm_simple at hh
    split at hh
    all_goals (try (cases hi; done))
    all_goals (try (exact absurd (Or.inl ⟨_, rfl⟩) hq))
    all_goals (try (exact absurd (Or.inr ⟨_, rfl⟩) hq))
    all_goals (try simp only [pm_bi, pm_bd, pm_bl, pm_bdL, pm_ui, pm_lo, pm_so, pm_sL, pm_jp, pm_br, pm_ia, pm_la, pm_qa, pm_al, pm_gf, pm_pf, pm_iS, pm_lS, pm_qS, pm_libV] at hh)
    all_goals (repeat' split at hh)
    all_goals (try (cases hh; done))
    all_goals cases hh
    all_goals (try simp only [nrS_cons] at hS)
    all_goals first
      | exact ⟨⟨hL, hS, hH⟩, fun _ _ => rfl⟩
      | exact ⟨⟨hL, hS.2, hH⟩, fun _ _ => rfl⟩
      | exact ⟨⟨hL, hS.2.2, hH⟩, fun _ _ => rfl⟩
      | exact ⟨⟨hL, nrS_cons.mpr ⟨nrv_i _, hS⟩, hH⟩, fun _ _ => rfl⟩
      | exact ⟨⟨hL, nrS_cons.mpr ⟨nrv_l _, hS⟩, hH⟩, fun _ _ => rfl⟩
      | exact ⟨⟨hL, nrS_cons.mpr ⟨nrv_t _, hS⟩, hH⟩, fun _ _ => rfl⟩
      | exact ⟨⟨hL, nrS_cons.mpr ⟨nrv_i _, hS.2⟩, hH⟩, fun _ _ => rfl⟩
      | exact ⟨⟨hL, nrS_cons.mpr ⟨nrv_l _, hS.2⟩, hH⟩, fun _ _ => rfl⟩
      | exact ⟨⟨hL, nrS_cons.mpr ⟨nrv_i _, hS.2.2⟩, hH⟩, fun _ _ => rfl⟩
      | exact ⟨⟨hL, nrS_cons.mpr ⟨nrv_l _, hS.2.2⟩, hH⟩, fun _ _ => rfl⟩
      | exact ⟨⟨hL, nrS_cons.mpr ⟨nrL_ld hL ‹_›, hS⟩, hH⟩, fun _ _ => rfl⟩
      | exact ⟨⟨nrL_st1 hL hS.1, hS.2, hH⟩, fun _ _ => rfl⟩
      | exact ⟨⟨nrL_st2 hL hS.1, hS.2, hH⟩, fun _ _ => rfl⟩
      | exact ⟨⟨nrL_st1 hL (nrv_i _), hS, hH⟩, fun _ _ => rfl⟩
      | exact ⟨⟨hL, hS.2.2.2, nrH_arr hH (fun kd n f e => by cases e)⟩, nr_up (hS.2.2.1 _ rfl)⟩
      | exact ⟨⟨hL, nrS_cons.mpr ⟨hS.1, nrS_cons.mpr ⟨hS.1, hS.2⟩⟩, hH⟩, fun _ _ => rfl⟩
      | exact ⟨⟨hL, nrS_cons.mpr ⟨hS.1, nrS_cons.mpr ⟨hS.2.1, nrS_cons.mpr ⟨hS.1, hS.2.2⟩⟩⟩, hH⟩, fun _ _ => rfl⟩
      | exact ⟨⟨hL, nrS_cons.mpr ⟨hS.1, nrS_cons.mpr ⟨hS.2.1, nrS_cons.mpr ⟨hS.2.2.1, nrS_cons.mpr ⟨hS.1, hS.2.2.2⟩⟩⟩⟩, hH⟩, fun _ _ => rfl⟩
      | exact ⟨⟨hL, nrS_cons.mpr ⟨hS.1, nrS_cons.mpr ⟨hS.2.1, nrS_cons.mpr ⟨hS.1, nrS_cons.mpr ⟨hS.2.1, hS.2.2⟩⟩⟩⟩, hH⟩, fun _ _ => rfl⟩
      | skip
    · rename_i j a r x2 x1 ci fs cj f t e2 e1 hc x v e
      subst hc
      refine ⟨⟨hL, nrS_cons.mpr ⟨?_, hS.2⟩, hH⟩, fun _ _ => rfl⟩
      have hg : G cj f = false := by
        unfold nr_i at hi
        dsimp only at hi
        rw [e1] at hi
        simpa using hi
      exact hH.1 a cj fs (Nat.lt_of_lt_of_le (pm_obj_inv e2).1 hB) (pm_obj_inv e2).2 f v e hg
    · rename_i j v a r x1 x ci fs cj f t e1 e hc
      exact ⟨⟨hL, hS.2.2, nrH_fld hH (pm_obj_inv e1).2 hS.1⟩, nr_up (hS.2.1 _ rfl)⟩
    · rename_i i a r x kd n f e hc
      refine ⟨⟨hL, nrS_cons.mpr ⟨?_, hS.2.2⟩, hH⟩, fun _ _ => rfl⟩
      unfold pm_qar at e
      split at e
      · rename_i hlt
        split at e
        · rename_i kd' n' f' eh
          cases e
          exact hH.2 a _ _ _ (Nat.lt_of_lt_of_le hlt hB) eh _ (by
            have := of_decide_eq_true hc.1
            omega)
        · cases e
      · cases e
def nr_ok (G : Nat → Nat → Bool) (K : Nat → Bool) : Prop := ∀ k pc i len, K k = true → pm_ins PT k pc = some (i, len) → nr_i G k i = true ∧ ∀ w t, pm_callee PT k i = some (w, t) → K t = true
theorem nrS_take {n : Nat} (h : nrS A S) : nrS A (S.take n).reverse := fun v hv => h v (List.mem_of_mem_take (List.mem_reverse.mp hv))
theorem nrS_drop {n : Nat} (h : nrS A S) : nrS A (S.drop n) := fun v hv => h v (List.mem_of_mem_drop hv)
theorem nr_run {P : Nat → Nat → Bool} {K : Nat → Bool} (hK : nr_ok G K) (hS : sf_ok P K) : ∀ (n fr lo k : Nat) (st : pm_St) (r : pm_Rs), K k = true → st.2.2.2.2.1 ≤ 198 → nr_st A G st.2.1 st.2.2.1 st.2.2.2.1 → pm_run PT n fr lo k st = some r → ((∀ v, r.1 = some v → nrv A v) ∧ nrH A G r.2.1) ∧ ∀ a, A a = true → r.2.1 a = st.2.2.2.1 a
  | 0, _, _, _, _, _, _, _, _, h => by cases h
  | n + 1, fr, lo, k, st, r, hk, hB, q, h => by
    unfold pm_run at h
    split at h
    · rename_i r' e1
      cases h
      unfold pm_end at e1
      split at e1
      · cases e1
      · split at e1
        · split at e1
          · rename_i rv er
            cases e1
            refine ⟨⟨fun v ev => ?_, q.2.2⟩, fun _ _ => rfl⟩
            dsimp only at ev
            subst ev
            unfold pm_rets at er
            repeat' split at er
            all_goals first
              | (cases er; done)
              | (cases er; first | exact nrv_i _ | exact nrv_l _ | exact q.2.1 _ (by rw [‹st.2.2.1 = _›]; exact List.mem_cons_self))
          · cases e1
        · cases e1
    · split at h
      · rename_i st' e2
        unfold pm_step at e2
        split at e2
        · cases e2
        · rename_i i len ei
          obtain ⟨n1, n2⟩ := hK k _ i len hk ei
          split at e2
          · split at e2
            · rename_i w t ec
              split at e2
              · split at e2
                · rename_i rv h1 sz1 sl1 e3
                  cases e2
                  obtain ⟨⟨a1, a2⟩, a3⟩ := nr_run hK hS n _ _ t (0, pm_l0 (st.2.2.1.take (pm_na PT t)).reverse (pm_max PT t), [], st.2.2.2.1, st.2.2.2.2.1, st.2.2.2.2.2) (rv, h1, sz1, sl1) (n2 w t ec) hB ⟨nrL_l0 (nrS_take q.2.1), fun v hv => absurd hv (by simp), q.2.2⟩ e3
                  have hz := sz_run hS n _ _ t (0, pm_l0 (st.2.2.1.take (pm_na PT t)).reverse (pm_max PT t), [], st.2.2.2.1, st.2.2.2.2.1, st.2.2.2.2.2) (rv, h1, sz1, sl1) (n2 w t ec) e3
                  have hz1 : sz1 = st.2.2.2.2.1 := congrArg (fun q : Nat × Nat => q.1) hz
                  obtain ⟨b1, b3⟩ := nr_run hK hS n fr lo k (st.1 + 3, st.2.1, rv.toList ++ st.2.2.1.drop (pm_na PT t), h1, sz1, sl1) r hk (by show sz1 ≤ 198; omega) ⟨q.1, fun v hv => by
                    rcases List.mem_append.mp hv with hv | hv
                    · exact a1 v (by simpa using hv)
                    · exact nrS_drop q.2.1 v hv, a2⟩ h
                  exact ⟨b1, fun a ha => (b3 a ha).trans (a3 a ha)⟩
                · cases e2
              · cases e2
            · obtain ⟨a1, a2⟩ := nr_simple hB n1 q e2
              have hz := sz_simple ((hS k _ i len hk ei).1) e2
              have hz1 : st'.2.2.2.2.1 = st.2.2.2.2.1 := congrArg (fun q : Nat × Nat => q.1) hz
              obtain ⟨b1, b3⟩ := nr_run hK hS n fr lo k st' r hk (by omega) a1 h
              exact ⟨b1, fun a ha => (b3 a ha).trans (a2 a ha)⟩
          · cases e2
      · cases h
def nr_c (G : Nat → Nat → Bool) (K : Nat → Bool) (k : Nat) (i : Instr) : Bool := nr_i G k i && (match pm_callee PT k i with
  | some (_, t) => K t
  | none => true)
def nr_b (G : Nat → Nat → Bool) (K : Nat → Bool) (k : Nat) : Bool := match pd_a2 k with
  | some e => e.2.all (fun c => c.all (fun x => nr_c G K k x.2.1))
  | none => true
theorem nr_of {K : Nat → Bool} {N : List Nat} (hN : ∀ k, K k = true → k ∈ N) (hb : N.all (nr_b G K) = true) : nr_ok G K := by
  intro k pc i len hk hi
  have hb := List.all_eq_true.mp hb k (hN k hk)
  have hi : pd_ins k pc = some (i, len) := hi
  unfold pd_ins at hi
  unfold nr_b at hb
  split at hi
  · rename_i e ee
    rw [ee] at hb
    dsimp only at hb
    unfold pm_ch at hi
    split at hi
    · rename_i c ec
      have h1 := List.all_eq_true.mp (List.all_eq_true.mp hb c (pm_nth_mem ec)) _ (pm_fd_mem hi)
      unfold nr_c at h1
      rw [Bool.and_eq_true] at h1
      obtain ⟨a1, a2⟩ := h1
      dsimp only at a1 a2
      refine ⟨a1, fun w t ht => ?_⟩
      rw [ht] at a2
      exact a2
    · cases hi
  · cases hi
end NRR
end MH69rxs11x5
section MH69rxs11x6
/-! arrays of a kind that a closed set of methods never writes -/
section AKK
variable {fr lo k pc sz sl c : Nat} {L : pm_L} {S : List Value} {h h' : pm_H} {st' : pm_St}
def akp (c : Nat) (h h' : pm_H) : Prop := ∀ i e, h i = .inl (c, e) → h' i = .inl (c, e)
theorem akp_rf : akp c h h := fun _ _ e => e
theorem akp_tr {h2 : pm_H} (a : akp c h h') (b : akp c h' h2) : akp c h h2 := fun i e q => b i e (a i e q)
def ak_i (c : Nat) (i : Instr) : Bool := match i with
  | .castore => !(Nat.beq c 1)
  | .bastore => !(Nat.beq c 3)
  | .lastore => !(Nat.beq c 2)
  | .aastore | .newarray _ | .anewarray _ | .new _ => false
  | _ => true
theorem akp_up {a : Nat} {x : pm_E} (ha : ∀ e, h a ≠ .inl (c, e)) : akp c h (va_up h a x) := by
  intro i e q
  have : i ≠ a := fun z => ha e (by rw [← z]; exact q)
  simp [va_up, this, q]
theorem ak_ty {ty : FieldType} {a kd n : Nat} {f : Nat → Int32} (hc : (pm_ty PT)[c]? ≠ some ty) (e : pm_iar PT ty h sz a = some (kd, n, f)) : ∀ e, h a ≠ .inl (c, e) := by
  intro q hq
  unfold pm_iar at e
  split at e
  · rw [hq] at e
    split at e
    · rename_i kd' n' f' eh
      cases eh
      split at e
      · rename_i ht
        exact hc ht
      · cases e
    · cases e
  · cases e
theorem ak_tyL {a kd n : Nat} {f : Nat → Int64} (hc : (pm_ty PT)[c]? ≠ some .long) (e : pm_lar PT h sz a = some (kd, n, f)) : ∀ e, h a ≠ .inl (c, e) := by
  intro q hq
  unfold pm_lar at e
  split at e
  · rw [hq] at e
    split at e
    · rename_i kd' n' f' eh
      cases eh
      split at e
      · rename_i ht
        exact hc ht
      · cases e
    · cases e
  · cases e
theorem ak_iS {ty : FieldType} {nr : Int32 → Int32} (hc : (pm_ty PT)[c]? ≠ some ty) (hh : pm_iS PT ty nr pc L S h sz sl = some st') : akp c h st'.2.2.2.1 := by
  unfold pm_iS at hh
  split at hh
  · split at hh
    · rename_i e
      split at hh
      · cases hh
        exact akp_up (ak_ty hc e)
      · cases hh
    · cases hh
  · cases hh
set_option maxHeartbeats 4000000 in
theorem ak_simple {i : Instr} (h0 : c ≠ 0 ∧ c < 5) (hi : ak_i c i = true) (hh : pm_simple PT fr lo k i pc L S h sz sl = some st') : akp c h st'.2.2.2.1 := by
  have hint : (pm_ty PT)[c]? ≠ some .int := by
    obtain ⟨z1, z2⟩ := h0
    match c, z1, z2 with
    | 0, z1, _ => exact absurd rfl z1
    | 1, _, _ => decide
    | 2, _, _ => decide
    | 3, _, _ => decide
    | 4, _, _ => decide
    | n + 5, _, z2 => exact absurd z2 (by omega)
  have lib : ∀ sp j, pm_libW PT sp fr lo k j pc L S h sz sl = some st' → akp c h st'.2.2.2.1 := by
    intro sp j hh
    unfold pm_libW at hh
    split at hh
    · split at hh
      · unfold pm_lib at hh
        split at hh
        · split at hh
          · cases hh; exact akp_rf
          · cases hh
        · split at hh
          · cases hh; exact akp_rf
          · cases hh
        · split at hh
          · cases hh; exact akp_rf
          · cases hh
        · split at hh
          · rename_i e1 e2
            split at hh
            · cases hh; exact akp_up (ak_ty hint e2)
            · cases hh
          · cases hh
        · cases hh
      · cases hh
    · cases hh
  by_cases hq : (∃ j, i = .invokespecial j) ∨ ∃ j, i = .invokestatic j
  · rcases hq with ⟨j, rfl⟩ | ⟨j, rfl⟩
    · exact lib true j hh
    · exact lib false j hh
  · unfold pm_simple at hh
    split at hh
    all_goals (try (cases hi; done))
    all_goals (try (exact absurd (Or.inl ⟨_, rfl⟩) hq))
    all_goals (try (exact absurd (Or.inr ⟨_, rfl⟩) hq))
    all_goals (try (exact ak_iS hint hh))
    all_goals (try (refine ak_iS ?_ hh; intro z; unfold ak_i at hi; obtain ⟨z1, z2⟩ := h0; match c, z1, z2, hi, z with
      | 0, z1, _, _, _ => exact absurd rfl z1
      | 1, _, _, hi, z => first | (cases hi; done) | (exact absurd z (by decide))
      | 2, _, _, hi, z => first | (cases hi; done) | (exact absurd z (by decide))
      | 3, _, _, hi, z => first | (cases hi; done) | (exact absurd z (by decide))
      | 4, _, _, hi, z => first | (cases hi; done) | (exact absurd z (by decide))
      | n + 5, _, z2, _, _ => exact absurd z2 (by omega)))
    all_goals (try simp only [pm_bi, pm_bd, pm_bl, pm_bdL, pm_ui, pm_lo, pm_so, pm_sL, pm_jp, pm_br, pm_ia, pm_la, pm_qa, pm_al, pm_gf, pm_pf, pm_lS, pm_qS, pm_libV] at hh)
    all_goals (repeat' split at hh)
    all_goals (try (cases hh; done))
    all_goals cases hh
    all_goals first
      | exact akp_rf
      | (refine akp_up (fun e q => ?_); have := (pm_obj_inv ‹pm_obj h sz _ = some _›).2; rw [this] at q; cases q)
      | (refine akp_up (ak_tyL ?_ ‹_›); intro z; unfold ak_i at hi; obtain ⟨z1, z2⟩ := h0; match c, z1, z2, hi, z with
        | 0, z1, _, _, _ => exact absurd rfl z1
        | 1, _, _, hi, z => exact absurd z (by decide)
        | 2, _, _, hi, z => cases hi
        | 3, _, _, hi, z => exact absurd z (by decide)
        | 4, _, _, hi, z => exact absurd z (by decide)
        | n + 5, _, z2, _, _ => exact absurd z2 (by omega))
def ak_ok (c : Nat) (K : Nat → Bool) : Prop := ∀ k pc i len, K k = true → pm_ins PT k pc = some (i, len) → ak_i c i = true ∧ ∀ w t, pm_callee PT k i = some (w, t) → K t = true
theorem ak_run {K : Nat → Bool} (h0 : c ≠ 0 ∧ c < 5) (hK : ak_ok c K) : ∀ (n fr lo k : Nat) (st : pm_St) (r : pm_Rs), K k = true → pm_run PT n fr lo k st = some r → akp c st.2.2.2.1 r.2.1
  | 0, _, _, _, _, _, _, h => by cases h
  | n + 1, fr, lo, k, st, r, hk, h => by
    unfold pm_run at h
    split at h
    · rename_i r' e1
      cases h
      unfold pm_end at e1
      split at e1
      · cases e1
      · split at e1
        · split at e1
          · cases e1; exact akp_rf
          · cases e1
        · cases e1
    · split at h
      · rename_i st' e2
        have ih := ak_run h0 hK n fr lo k st' r hk h
        refine akp_tr ?_ ih
        unfold pm_step at e2
        split at e2
        · cases e2
        · rename_i i len ei
          obtain ⟨n1, n2⟩ := hK k _ i len hk ei
          split at e2
          · split at e2
            · rename_i w t ec
              split at e2
              · split at e2
                · rename_i rv h1 sz1 sl1 e3
                  cases e2
                  exact ak_run h0 hK n _ _ t (0, pm_l0 (st.2.2.1.take (pm_na PT t)).reverse (pm_max PT t), [], st.2.2.2.1, st.2.2.2.2.1, st.2.2.2.2.2) (rv, h1, sz1, sl1) (n2 w t ec) e3
                · cases e2
              · cases e2
            · exact ak_simple h0 n1 e2
          · cases e2
      · cases h
def ak_c (c : Nat) (K : Nat → Bool) (k : Nat) (i : Instr) : Bool := ak_i c i && (match pm_callee PT k i with
  | some (_, t) => K t
  | none => true)
def ak_b (c : Nat) (K : Nat → Bool) (k : Nat) : Bool := match pd_a2 k with
  | some e => e.2.all (fun q => q.all (fun x => ak_c c K k x.2.1))
  | none => true
theorem ak_of {K : Nat → Bool} {N : List Nat} (hN : ∀ k, K k = true → k ∈ N) (hb : N.all (ak_b c K) = true) : ak_ok c K := by
  intro k pc i len hk hi
  have hb := List.all_eq_true.mp hb k (hN k hk)
  have hi : pd_ins k pc = some (i, len) := hi
  unfold pd_ins at hi
  unfold ak_b at hb
  split at hi
  · rename_i e ee
    rw [ee] at hb
    dsimp only at hb
    unfold pm_ch at hi
    split at hi
    · rename_i q ec
      have h1 := List.all_eq_true.mp (List.all_eq_true.mp hb q (pm_nth_mem ec)) _ (pm_fd_mem hi)
      unfold ak_c at h1
      rw [Bool.and_eq_true] at h1
      obtain ⟨a1, a2⟩ := h1
      dsimp only at a1 a2
      refine ⟨a1, fun w t ht => ?_⟩
      rw [ht] at a2
      exact a2
    · cases hi
  · cases hi
end AKK
end MH69rxs11x6
section MH69rxs11x7
/-! a block of a method is passed: the fields of P and some locals are as they were -/
section BLK
variable {fr lo k pc sz sl : Nat} {L : pm_L} {S : List Value} {h : pm_H} {st st' : pm_St} {P : Nat → Nat → Bool} {J : Nat → Bool}
/-- the locals of J hold ints or references, and are the same in both -/
def lkp (J : Nat → Bool) (L L' : pm_L) : Prop := ∀ j v, J j = true → pm_get L j = some v → v.category = 1 → pm_get L' j = some v
theorem lkp_rf : lkp J L L := fun _ _ _ e _ => e
theorem lkp_tr {L' L2 : pm_L} (a : lkp J L L') (b : lkp J L' L2) : lkp J L L2 := fun j v hj e hc => b j v hj (a j v hj e hc) hc
def lk_i (J : Nat → Bool) (i : Instr) : Bool := match i with
  | .istore j => !(J j)
  | .istore_n j => !(J j.val)
  | .astore j => !(J j)
  | .astore_n j => !(J j.val)
  | .lstore j => !(J j) && !(J (j + 1))
  | .lstore_n j => !(J j.val) && !(J (j.val + 1))
  | .iinc j _ => !(J j)
  | _ => true
theorem lkp_set {i : Nat} {o : Option Value} (hi : J i = false) : lkp J L (L.set i o) := by
  intro j v hj e hc
  have : i ≠ j := fun z => by rw [z, hj] at hi; cases hi
  unfold pm_get at e ⊢
  rw [List.getElem?_set_ne this]
  exact e
theorem lkp_cut {i : Nat} : lkp J L (pm_cut L i) := by
  intro j v hj e hc
  unfold pm_cut
  split
  · exact e
  · rename_i i'
    split
    · rename_i hq
      by_cases z : i' = j
      · subst z
        exfalso
        unfold pm_cat2 at hq
        rw [e] at hq
        dsimp only at hq
        rw [hc] at hq
        cases hq
      · unfold pm_get at e ⊢
        rw [List.getElem?_set_ne z]
        exact e
    · exact e
theorem lkp_st1 {i : Nat} {v : Value} (hi : J i = false) : lkp J L (pm_st1 L i v) := lkp_tr lkp_cut (lkp_set hi)
theorem lkp_st2 {i : Nat} {v : Value} (hi : J i = false) (hi2 : J (i + 1) = false) : lkp J L (pm_st2 L i v) := lkp_tr lkp_cut (lkp_tr (lkp_set hi) (lkp_set hi2))
set_option maxHeartbeats 4000000 in
theorem lk_simple {i : Instr} (hi : lk_i J i = true) (hh : pm_simple PT fr lo k i pc L S h sz sl = some st') : lkp J L st'.2.1 := by
  have lib : ∀ sp j, pm_libW PT sp fr lo k j pc L S h sz sl = some st' → lkp J L st'.2.1 := by
    intro sp j hh
    unfold pm_libW at hh
    split at hh
    · split at hh
      · unfold pm_lib at hh
        repeat' split at hh
        all_goals first
          | (cases hh; done)
          | (cases hh; exact lkp_rf)
      · cases hh
    · cases hh
  by_cases hq : (∃ j, i = .invokespecial j) ∨ ∃ j, i = .invokestatic j
  · rcases hq with ⟨j, rfl⟩ | ⟨j, rfl⟩
    · exact lib true j hh
    · exact lib false j hh
  · unfold pm_simple at hh
    split at hh
    all_goals (try (exact absurd (Or.inl ⟨_, rfl⟩) hq))
    all_goals (try (exact absurd (Or.inr ⟨_, rfl⟩) hq))
    all_goals (try simp only [pm_bi, pm_bd, pm_bl, pm_bdL, pm_ui, pm_lo, pm_so, pm_sL, pm_jp, pm_br, pm_ia, pm_la, pm_qa, pm_al, pm_gf, pm_pf, pm_iS, pm_lS, pm_qS, pm_libV, pm_newI, pm_newL, pm_newQ, pm_newO, pm_nw] at hh)
    all_goals (repeat' split at hh)
    all_goals (try (cases hh; done))
    all_goals cases hh
    all_goals (try unfold lk_i at hi)
    all_goals (try dsimp only at hi)
    all_goals first
      | exact lkp_rf
      | exact lkp_st1 (by simpa using hi)
      | (rw [Bool.and_eq_true] at hi; exact lkp_st2 (by simpa using hi.1) (by simpa using hi.2))
/-- from a place of the block it leads to one of the block, or to its end p2 -/
def bc_o (p1 p2 pc : Nat) (off : Int) : Bool := decide ((p1 : Int) ≤ (pc : Int) + off ∧ (pc : Int) + off ≤ (p2 : Int))
def bc_i (p1 p2 pc len : Nat) (i : Instr) : Bool := match i with
  | .ifCond _ off => bc_o p1 p2 pc off && Nat.ble (pc + 3) p2
  | .if_icmp _ off => bc_o p1 p2 pc off && Nat.ble (pc + 3) p2
  | .goto off => bc_o p1 p2 pc off
  | .tableswitch _ _ _ _ | .lookupswitch _ _ | .return_ | .ireturn | .lreturn | .areturn | .athrow => false
  | _ => Nat.ble (pc + len) p2
theorem bc_tgt {p1 p2 : Nat} {off : Int} {t : Nat} (ho : bc_o p1 p2 pc off = true) (e : pm_tgt pc off = some t) : p1 ≤ t ∧ t ≤ p2 := by
  have ho := of_decide_eq_true ho
  unfold pm_tgt at e
  split at e
  · cases e
    omega
  · cases e
theorem bc_jp {p1 p2 : Nat} {off : Int} (ho : bc_o p1 p2 pc off = true) (hh : pm_jp pc off L S h sz sl = some st') : p1 ≤ st'.1 ∧ st'.1 ≤ p2 := by
  unfold pm_jp at hh
  split at hh
  · rename_i t e
    cases hh
    exact bc_tgt ho e
  · cases hh
theorem bc_br {p1 p2 : Nat} {off : Int} {b : Bool} (hp : p1 ≤ pc) (ho : (bc_o p1 p2 pc off && Nat.ble (pc + 3) p2) = true) (hh : pm_br b pc off L S h sz sl = some st') : p1 ≤ st'.1 ∧ st'.1 ≤ p2 := by
  rw [Bool.and_eq_true] at ho
  have h3 := Nat.le_of_ble_eq_true ho.2
  unfold pm_br at hh
  split at hh
  · rename_i t e
    have := bc_tgt ho.1 e
    cases b <;> (cases hh; first | exact this | (refine ⟨?_, h3⟩; show p1 ≤ pc + 3; omega))
  · cases hh
set_option maxHeartbeats 4000000 in
theorem bc_simple {p1 p2 len : Nat} {i : Instr} (hp : p1 ≤ pc) (hl : pm_lenOk i len = true) (hi : bc_i p1 p2 pc len i = true) (hh : pm_simple PT fr lo k i pc L S h sz sl = some st') : p1 ≤ st'.1 ∧ st'.1 ≤ p2 := by
  have lib : ∀ sp j, pm_libW PT sp fr lo k j pc L S h sz sl = some st' → st'.1 = pc + 3 := by
    intro sp j hh
    unfold pm_libW at hh
    split at hh
    · split at hh
      · unfold pm_lib at hh
        repeat' split at hh
        all_goals first
          | (cases hh; done)
          | (cases hh; rfl)
      · cases hh
    · cases hh
  by_cases hq : (∃ j, i = .invokespecial j) ∨ ∃ j, i = .invokestatic j
  · have e : st'.1 = pc + 3 ∧ len = 3 := by
      rcases hq with ⟨j, rfl⟩ | ⟨j, rfl⟩
      · exact ⟨lib true j hh, by simpa [pm_lenOk] using hl⟩
      · exact ⟨lib false j hh, by simpa [pm_lenOk] using hl⟩
    have hb : pc + len ≤ p2 := by
      rcases hq with ⟨j, rfl⟩ | ⟨j, rfl⟩ <;> exact Nat.le_of_ble_eq_true hi
    omega
  · unfold pm_simple at hh
    split at hh
    all_goals (try (cases hi; done))
    all_goals (try (exact absurd (Or.inl ⟨_, rfl⟩) hq))
    all_goals (try (exact absurd (Or.inr ⟨_, rfl⟩) hq))
    all_goals (try (split at hh <;> first | (cases hh; done) | (exact bc_br hp hi hh)))
    all_goals (try (exact bc_jp hi hh))
    all_goals (try (cases hh; done))
    all_goals (simp only [pm_lenOk, beq_iff_eq] at hl)
    all_goals (subst hl)
    all_goals (have hb := Nat.le_of_ble_eq_true hi)
    all_goals (try simp only [pm_bi, pm_bd, pm_bl, pm_bdL, pm_ui, pm_lo, pm_so, pm_sL, pm_ia, pm_la, pm_qa, pm_al, pm_gf, pm_pf, pm_iS, pm_lS, pm_qS, pm_libV, pm_newI, pm_newL, pm_newQ, pm_newO, pm_nw] at hh)
    all_goals (repeat' split at hh)
    all_goals (first | (cases hh; done) | (cases hh; dsimp only; omega))
/-- a block of the method k, from p1 to before p2: what it may do -/
def blk_ok (P : Nat → Nat → Bool) (K J : Nat → Bool) (k p1 p2 : Nat) : Prop := ∀ pc i len, p1 ≤ pc → pc < p2 → pm_ins PT k pc = some (i, len) → ((sf_i P k i = true ∧ ∀ w t, pm_callee PT k i = some (w, t) → K t = true) ∧ bc_i p1 p2 pc len i = true) ∧ lk_i J i = true
theorem blk_run {K : Nat → Bool} {p1 p2 : Nat} (hK : sf_ok P K) (hR : blk_ok P K J k p1 p2) : ∀ (n fr lo : Nat) (st : pm_St) (r : pm_Rs), p1 ≤ st.1 → st.1 < p2 → pm_run PT n fr lo k st = some r → ∃ m L' S' h', pm_run PT m fr lo k (p2, L', S', h', st.2.2.2.2) = some r ∧ lkp J st.2.1 L' ∧ fm (sfF P) st.2.2.2.1 h'
  | 0, _, _, _, _, _, _, h => by cases h
  | n + 1, fr, lo, st, r, hp, hp2, h => by
    unfold pm_run at h
    split at h
    · rename_i r' e1
      exfalso
      unfold pm_end at e1
      split at e1
      · cases e1
      · rename_i i len ei
        obtain ⟨⟨-, hb⟩, -⟩ := hR _ i len hp hp2 ei
        split at e1
        · split at e1
          · rename_i rv er
            rcases pm_rets_no er with rfl | rfl | rfl
            · cases hb
            · cases hb
            · cases hb
          · cases e1
        · cases e1
    · split at h
      · rename_i st' e2
        have nx : (p1 ≤ st'.1 ∧ st'.1 ≤ p2) ∧ lkp J st.2.1 st'.2.1 ∧ fm (sfF P) st.2.2.2.1 st'.2.2.2.1 ∧ st'.2.2.2.2 = st.2.2.2.2 := by
          unfold pm_step at e2
          split at e2
          · cases e2
          · rename_i i len ei
            obtain ⟨⟨⟨n1, n2⟩, n3⟩, n4⟩ := hR _ i len hp hp2 ei
            split at e2
            · rename_i hlen
              split at e2
              · rename_i w t ec
                split at e2
                · split at e2
                  · rename_i rv h1 sz1 sl1 e3
                    cases e2
                    have hf := sf_run hK n _ _ t (0, pm_l0 (st.2.2.1.take (pm_na PT t)).reverse (pm_max PT t), [], st.2.2.2.1, st.2.2.2.2.1, st.2.2.2.2.2) (rv, h1, sz1, sl1) (n2 w t ec) e3
                    have hz := sz_run hK n _ _ t (0, pm_l0 (st.2.2.1.take (pm_na PT t)).reverse (pm_max PT t), [], st.2.2.2.1, st.2.2.2.2.1, st.2.2.2.2.2) (rv, h1, sz1, sl1) (n2 w t ec) e3
                    refine ⟨⟨?_, ?_⟩, lkp_rf, hf, hz⟩
                    · show p1 ≤ st.1 + 3
                      omega
                    · show st.1 + 3 ≤ p2
                      have h3 : len = 3 ∧ st.1 + len ≤ p2 := by
                        unfold pm_callee at ec
                        split at ec
                        all_goals first
                          | (cases ec; done)
                          | exact ⟨by simpa [pm_lenOk] using hlen, Nat.le_of_ble_eq_true n3⟩
                      omega
                  · cases e2
                · cases e2
              · exact ⟨bc_simple hp hlen n3 e2, lk_simple n4 e2, sf_simple n1 e2, sz_simple n1 e2⟩
            · cases e2
        obtain ⟨⟨b1, b2⟩, b3, b4, b5⟩ := nx
        by_cases z : st'.1 = p2
        · obtain ⟨pc', L', S', h', s'⟩ := st'
          dsimp only at z b3 b4 b5 h
          subst z
          subst b5
          exact ⟨n, L', S', h', h, b3, b4⟩
        · obtain ⟨m, L', S', h', c1, c2, c3⟩ := blk_run hK hR n fr lo st' r b1 (by omega) h
          rw [b5] at c1
          exact ⟨m, L', S', h', c1, lkp_tr b3 c2, fm_tr b4 c3⟩
      · cases h
def blk_b (P : Nat → Nat → Bool) (K J : Nat → Bool) (k p1 p2 : Nat) : Bool := match pd_a2 k with
  | some e => e.2.all (fun c => c.all (fun x => (Nat.blt x.1 p1 || Nat.ble p2 x.1) || ((sf_c P K k x.2.1 && bc_i p1 p2 x.1 x.2.2 x.2.1) && lk_i J x.2.1)))
  | none => true
theorem blk_of {K : Nat → Bool} {p1 p2 : Nat} (hb : blk_b P K J k p1 p2 = true) : blk_ok P K J k p1 p2 := by
  intro pc i len hp hp2 hi
  have hi : pd_ins k pc = some (i, len) := hi
  unfold pd_ins at hi
  unfold blk_b at hb
  split at hi
  · rename_i e ee
    rw [ee] at hb
    dsimp only at hb
    unfold pm_ch at hi
    split at hi
    · rename_i c ec
      have h1 := List.all_eq_true.mp (List.all_eq_true.mp hb c (pm_nth_mem ec)) _ (pm_fd_mem hi)
      have hn : (Nat.blt pc p1 || Nat.ble p2 pc) = false := by
        cases hx : Nat.blt pc p1 with
        | true => exact absurd (Nat.le_of_ble_eq_true hx) (by omega)
        | false =>
          cases hy : Nat.ble p2 pc with
          | true => exact absurd (Nat.le_of_ble_eq_true hy) (by omega)
          | false => rfl
      rw [hn, Bool.false_or] at h1
      unfold sf_c at h1
      rw [Bool.and_eq_true, Bool.and_eq_true, Bool.and_eq_true] at h1
      obtain ⟨⟨⟨a1, a2⟩, a3⟩, a4⟩ := h1
      dsimp only at a1 a2 a3 a4
      refine ⟨⟨⟨a1, fun w t ht => ?_⟩, a3⟩, a4⟩
      rw [ht] at a2
      exact a2
    · cases hi
  · cases hi
end BLK
end MH69rxs11x7
section MH69rxs11x8
/-! walks of a method that stands, out of runs of the pure machine -/
section PVW
variable {p : Program} {l : Launch} {e : Env} {R : Room} {s : State} {m : MethodId} {args : Array Value} {below : List Frame} {meth : Method} {c : Code} {Q : State → Prop}
variable {T : pm_Tab} {G Ns : List Cond} {D : va_G} {aC : Nat → ClassId} {b g k fr lo sz0 sl0 : Nat} {st st' : pm_St}
theorem pm_sN_mono : ∀ (n : Nat) {st st' : pm_St}, pm_sN T fr lo k n st = some st' → st.2.2.2.2.1 ≤ st'.2.2.2.2.1 ∧ st.2.2.2.2.2 ≤ st'.2.2.2.2.2
  | 0, st, st', h => by cases (Option.some.inj h : st = st'); exact ⟨Nat.le_refl _, Nat.le_refl _⟩
  | n + 1, st, st', h => by
    unfold pm_sN at h
    split at h
    · rename_i st1 e1
      have h1 := pm_step_mono (fun _ _ _ _ _ _ _ _ q => by cases q) e1
      have h2 := pm_sN_mono n h
      exact ⟨Nat.le_trans h1.1 h2.1, Nat.le_trans h1.2 h2.2⟩
    · cases h
/-- n simple steps -/
theorem pv_steps (OK : pm_ok T G Ns) (hC : pm_C T G Ns D aC b k p s m args meth c) (hfr : R.frames = fr) (hlo : R.locals = lo) (hs0 : s.heap.size = b + sz0 + g) : ∀ (n : Nat) {st st' : pm_St}, pm_sN T fr lo k n st = some st' → (g = 0 ∨ st'.2.2.2.2.1 = sz0) → sz0 ≤ st.2.2.2.2.1 → sl0 ≤ st.2.2.2.2.2 → st'.2.2.2.2.1 ≤ sz0 + R.cells → st'.2.2.2.2.2 ≤ sl0 + R.slots → pm_V p l e R s m args below meth c Q T D aC b k sz0 sl0 st' → pm_V p l e R s m args below meth c Q T D aC b k sz0 sl0 st
  | 0, st, st', h, _, _, _, _, _, kk => by cases (Option.some.inj h : st = st'); exact kk
  | n + 1, st, st', h, hg, h0, h1, hRc, hRs, kk => by
    unfold pm_sN at h
    split at h
    · rename_i st1 e1
      have m1 := pm_step_mono (fun _ _ _ _ _ _ _ _ q => by cases q) e1
      have m2 := pm_sN_mono n h
      refine pm_step_ok OK hC hfr hlo hs0 (by omega) h0 h1 (by omega) (by omega) (go := pm_go0) (fun _ _ _ _ _ _ _ _ _ _ q => by cases q) e1 (pv_steps OK hC hfr hlo hs0 n h hg (by omega) (by omega) hRc hRs kk)
    · cases h
/-- a call, by what the pure machine says of it -/
theorem pv_call (OK : pm_ok T G Ns) (hC : pm_C T G Ns D aC b k p s m args meth c) (hfr : R.frames = fr) (hlo : R.locals = lo) (hs0 : s.heap.size = b + sz0 + g) {t mx : Nat} {As rest : List Value} (h : pm_cd T k st = some (t, As, rest)) (hmx : pm_max T t = mx) (hf : 1 ≤ fr) (hl : 19 + mx ≤ lo) (h0 : sz0 ≤ st.2.2.2.2.1) (h1 : sl0 ≤ st.2.2.2.2.2)
    (kk : pm_WP T (fr - 1) (lo - (19 + mx)) t (0, pm_l0 As mx, [], st.2.2.2) (fun r => (g = 0 ∨ r.2.2.1 = sz0) ∧ r.2.2.1 ≤ sz0 + R.cells ∧ r.2.2.2 ≤ sl0 + R.slots ∧ pm_V p l e R s m args below meth c Q T D aC b k sz0 sl0 (st.1 + 3, st.2.1, r.1.toList ++ rest, r.2))) : pm_V p l e R s m args below meth c Q T D aC b k sz0 sl0 st := by
  subst hmx
  obtain ⟨n, r, hr, hg, hRc, hRs, hV⟩ := kk
  have hs : pm_step T (fun fr lo t as h sz sl => pm_run T n fr lo t (0, pm_l0 as (pm_max T t), [], h, sz, sl)) fr lo k st = some (st.1 + 3, st.2.1, r.1.toList ++ rest, r.2) := by
    unfold pm_cd at h
    unfold pm_step
    cases e1 : pm_ins T k st.1 with
    | none => rw [e1] at h; cases h
    | some il =>
      obtain ⟨i, len⟩ := il
      rw [e1] at h
      dsimp only at h ⊢
      by_cases e2 : pm_lenOk i len = true
      · rw [if_pos e2] at h ⊢
        cases e3 : pm_callee T k i with
        | none => rw [e3] at h; cases h
        | some wt =>
          obtain ⟨w, t'⟩ := wt
          rw [e3] at h
          dsimp only at h ⊢
          split at h
          · rename_i e4
            cases h
            rw [if_pos ⟨e4.1, e4.2.1, e4.2.2.1, hf, hl, e4.2.2.2⟩]
            have e5 : pm_run T n (fr - 1) (lo - (19 + pm_max T t)) t (0, pm_l0 (st.2.2.1.take (pm_na T t)).reverse (pm_max T t), [], st.2.2.2.1, st.2.2.2.2.1, st.2.2.2.2.2) = some r := hr
            rw [e5]
          · cases h
      · rw [if_neg e2] at h; cases h
  refine pm_step_ok OK hC hfr hlo hs0 hg h0 h1 hRc hRs (fun fr lo t as h sz sl r q1 q2 q3 => ?_) hs hV
  have hm3 := pm_mono _ _ _ _ _ _ q3
  exact ⟨hm3.1, hm3.2, fun hg => pm_sound OK n fr lo t as h sz sl r q1 hg q2 q3⟩
/-- the script's cells: .retAddr stands for its address -/
theorem pv_sld (OK : pm_ok T G Ns) (hC : pm_C T G Ns D aC b k p s m args meth c) {iS Ln : Nat} {xs : Nat → Int32} (hX : va_X (aC (1000 + iS)) Ln xs s s.heap) (hbl : aC (1000 + iS) < s.heap.size) (hbA : ¬ b ≤ aC (1000 + iS)) {pc sz sl : Nat} {L : pm_L} {S : List Value} {h : pm_H} {i : Int32} (hin : vp_in i Ln) (hi : pm_ins T k pc = some (.iaload, 1))
    (kk : pm_V p l e R s m args below meth c Q T D aC b k sz0 sl0 (pc + 1, L, .int (xs i.toNatClampNeg) :: S, h, sz, sl)) : pm_V p l e R s m args below meth c Q T D aC b k sz0 sl0 (pc, L, .int i :: .retAddr iS :: S, h, sz, sl) := by
  intro H locs ls hP hS hl
  exact va_sld hC.1 hC.2.1 hX hbl hbA hS hin (OK.1 _ _ _ _ hi) (kk H locs ls hP hS hl)
theorem pv_slen (OK : pm_ok T G Ns) (hC : pm_C T G Ns D aC b k p s m args meth c) {iS Ln : Nat} {xs : Nat → Int32} (hX : va_X (aC (1000 + iS)) Ln xs s s.heap) (hbl : aC (1000 + iS) < s.heap.size) (hbA : ¬ b ≤ aC (1000 + iS)) {pc sz sl : Nat} {L : pm_L} {S : List Value} {h : pm_H} (hi : pm_ins T k pc = some (.arraylength, 1))
    (kk : pm_V p l e R s m args below meth c Q T D aC b k sz0 sl0 (pc + 1, L, .int (Int32.ofNat Ln) :: S, h, sz, sl)) : pm_V p l e R s m args below meth c Q T D aC b k sz0 sl0 (pc, L, .retAddr iS :: S, h, sz, sl) := by
  intro H locs ls hP hS hl
  exact va_slen hC.1 hC.2.1 hX hbl hbA hS (OK.1 _ _ _ _ hi) (kk H locs ls hP hS hl)
/-- what a run answers is of the method's type -/
theorem pm_run_ty : ∀ (n fr lo k : Nat) (st : pm_St) (r : pm_Rs), (pm_ret T k = some .int ∨ pm_ret T k = some .boolean) → pm_run T n fr lo k st = some r → ∃ v, r.1 = some (.int v)
  | 0, _, _, _, _, _, _, h => by cases h
  | n + 1, fr, lo, k, st, r, hr, h => by
    unfold pm_run at h
    split at h
    · rename_i r' e1
      cases h
      unfold pm_end at e1
      split at e1
      · cases e1
      · split at e1
        · split at e1
          · rename_i rv e2
            cases e1
            unfold pm_rets at e2
            split at e2
            · rcases hr with hr | hr
              · rw [hr] at e2; cases e2
              · rw [hr] at e2; cases e2
            · split at e2
              · cases e2; exact ⟨_, rfl⟩
              · split at e2
                · cases e2; exact ⟨_, rfl⟩
                · cases e2
              · cases e2
            · rcases hr with hr | hr
              · rw [hr] at e2; cases e2
              · rw [hr] at e2; cases e2
            · cases e2
          · cases e1
        · cases e1
    · split at h
      · exact pm_run_ty n fr lo k _ r hr h
      · cases h
end PVW
end MH69rxs11x8
section MH69rxs11x9
/-! runs keep what kind of thing lies in a cell -/
section KD
variable {T : pm_Tab} {k fr lo pc sz sl : Nat} {L : pm_L} {S : List Value} {h h' h'' : pm_H} {st st' : pm_St}
def kd_ok (sz : Nat) (h h' : pm_H) : Prop := ∀ a, a < sz → ∀ ci fs, h a = .inr (ci, fs) → ∃ fs', h' a = .inr (ci, fs')
theorem kd_rf : kd_ok sz h h := fun _ _ _ fs e => ⟨fs, e⟩
theorem kd_tr {sz1 : Nat} (h1 : kd_ok sz h h') (hz : sz ≤ sz1) (h2 : kd_ok sz1 h' h'') : kd_ok sz h h'' := fun a ha ci fs e => by
  obtain ⟨fs', e'⟩ := h1 a ha ci fs e
  exact h2 a (by omega) ci fs' e'
theorem kd_new {e : pm_E} : kd_ok sz h (va_up h sz e) := fun a ha ci fs e => ⟨fs, by unfold va_up; rw [if_neg (by omega)]; exact e⟩
theorem kd_arr {a : Nat} {x y : Nat × vp_A} (ha : h a = .inl x) : kd_ok sz h (va_up h a (.inl y)) := fun q hq ci fs e => by
  by_cases hqa : q = a
  · subst hqa
    rw [ha] at e
    cases e
  · exact ⟨fs, by unfold va_up; rw [if_neg hqa]; exact e⟩
theorem kd_iar {ty : FieldType} {a kd n : Nat} {f : Nat → Int32} {y : Nat × vp_A} (e : pm_iar T ty h sz a = some (kd, n, f)) : kd_ok sz h (va_up h a (.inl y)) := kd_arr (pm_iar_inv e).2.1
theorem kd_lar {a kd n : Nat} {f : Nat → Int64} {y : Nat × vp_A} (e : pm_lar T h sz a = some (kd, n, f)) : kd_ok sz h (va_up h a (.inl y)) := kd_arr (pm_lar_inv e).2.1
theorem kd_qar {a kd n : Nat} {f : Nat → Option Nat} {y : Nat × vp_A} (e : pm_qar h sz a = some (kd, n, f)) : kd_ok sz h (va_up h a (.inl y)) := kd_arr (pm_qar_inv e).2
theorem kd_obj {a ci : Nat} {fs fs' : List Value} (e : pm_obj h sz a = some (ci, fs)) : kd_ok sz h (va_up h a (.inr (ci, fs'))) := fun q hq cj gs eq => by
  have ha := (pm_obj_inv e).2
  by_cases hqa : q = a
  · subst hqa
    rw [ha] at eq
    cases eq
    exact ⟨fs', by unfold va_up; rw [if_pos rfl]⟩
  · exact ⟨gs, by unfold va_up; rw [if_neg hqa]; exact eq⟩
set_option maxHeartbeats 4000000 in
theorem pm_simple_keep {i : Instr} (hh : pm_simple T fr lo k i pc L S h sz sl = some st') : kd_ok sz h st'.2.2.2.1 := by
  unfold pm_simple at hh
  split at hh
  all_goals (try simp only [pm_bi, pm_bd, pm_bl, pm_bdL, pm_ui, pm_lo, pm_so, pm_sL, pm_jp, pm_br, pm_ia, pm_iS, pm_la, pm_lS, pm_qa, pm_qS, pm_al, pm_gf, pm_pf, pm_nw, pm_newI, pm_newL, pm_newQ, pm_newO, pm_libW, pm_libV, pm_lib] at hh)
  all_goals (repeat' split at hh)
  all_goals (first | (cases hh; done) | (cases hh; exact kd_rf) | (cases hh; exact kd_new) | (cases hh; exact kd_iar (by assumption)) | (cases hh; exact kd_lar (by assumption)) | (cases hh; exact kd_qar (by assumption)) | (cases hh; exact kd_obj (by assumption)))
theorem pm_step_keep {go : Nat → Nat → Nat → List Value → pm_H → Nat → Nat → Option pm_Rs} (hgo : ∀ fr lo t as h sz sl r, go fr lo t as h sz sl = some r → kd_ok sz h r.2.1) (e2 : pm_step T go fr lo k st = some st') : kd_ok st.2.2.2.2.1 st.2.2.2.1 st'.2.2.2.1 := by
  unfold pm_step at e2
  split at e2
  · cases e2
  · split at e2
    · split at e2
      · split at e2
        · split at e2
          · rename_i e3
            cases e2
            exact hgo _ _ _ _ _ _ _ _ e3
          · cases e2
        · cases e2
      · exact pm_simple_keep e2
    · cases e2
theorem pm_keep : ∀ (n fr lo k : Nat) (st : pm_St) (r : pm_Rs), pm_run T n fr lo k st = some r → kd_ok st.2.2.2.2.1 st.2.2.2.1 r.2.1
  | 0, _, _, _, _, _, h => by cases h
  | n + 1, fr, lo, k, st, r, h => by
    unfold pm_run at h
    split at h
    · rename_i r' e1
      cases h
      unfold pm_end at e1
      split at e1
      · cases e1
      · split at e1
        · split at e1
          · cases e1; exact kd_rf
          · cases e1
        · cases e1
    · split at h
      · rename_i st' e2
        have ih := pm_keep n fr lo k st' r h
        have h2 := pm_step_keep (fun fr lo t as h sz sl r q => pm_keep n _ _ _ _ _ q) e2
        have h3 := pm_step_mono (fun fr lo t as h sz sl r q => pm_mono n _ _ _ _ _ q) e2
        exact kd_tr h2 h3.1 ih
      · cases h
theorem wp_keep {Q : pm_Rs → Prop} (h : pm_WP T fr lo k st Q) : pm_WP T fr lo k st (fun r => Q r ∧ kd_ok st.2.2.2.2.1 st.2.2.2.1 r.2.1) := by
  obtain ⟨n, r, h1, h2⟩ := h
  exact ⟨n, r, h1, h2, pm_keep _ _ _ _ _ _ h1⟩
theorem wp_int {Q : pm_Rs → Prop} (hr : pm_ret T k = some .int ∨ pm_ret T k = some .boolean) (h : pm_WP T fr lo k st Q) : pm_WP T fr lo k st (fun r => Q r ∧ ∃ v, r.1 = some (.int v)) := by
  obtain ⟨n, r, h1, h2⟩ := h
  exact ⟨n, r, h1, h2, pm_run_ty _ _ _ _ _ _ hr h1⟩
end KD
end MH69rxs11x9
section MH69rxs11x10

section VXA
/-! The laws vx_back, vx_callV, vx_callS, vx_callSW, vx_throw0, vx_throwS follow proofs of the library, with one case more: JvmDerived/Free/Laws.lean (Back.of_free), Shelf42/LK1.lean (callV, callS), Shelf/KitTraced.lean (throwNew0V, throwNewS). -/
/-- where a method has thrown q: the class by its name, the cell, what was written, the world -/
def vx_T (XC : String → State → State → Prop) (st : State) (q : Addr) (t : State) (mc ms : Nat) (free : Addr → Prop) : Prop :=
  ∃ (E : String) (ce : Cell) (L : List Loc), XC E st t ∧ t.heap[q]? = some ce ∧ ce.vm = .none ∧ st.vm.findClass E = some ce.cls ∧ st.WarmedH t.vm ∧ st.sameButNew ({ t with vm := st.vm } : State) L mc ms ∧ ∀ z ∈ L, free z.base
def vx_Q (Qc : Array Value → State → Outcome → State → Prop) (XC : String → State → State → Prop) (mc ms : Nat) (free : Addr → Prop) : Array Value → State → Outcome → State → Prop := fun a st o t =>
  (Qc a st o t ∧ ∃ L, FrameEnd st o t L mc ms ∧ ∀ q ∈ L, free q.base) ∨ ∃ q, o = .threw q ∧ vx_T XC st q t mc ms free
/-- a callee that returns or throws -/
def vx_Met (l : Launch) (y : MethodName) (ws : List Cond) (rm : Room) (Pc : Array Value → State → Prop) (Qc : Array Value → State → Outcome → State → Prop) (XC : String → State → State → Prop) (mc ms : Nat) (free : Addr → Prop) : Prop :=
  MetFree l y (headSpec ws rm) Pc (fun _ _ _ _ _ => True) (vx_Q Qc XC mc ms free)
def vx_Post (XC : String → State → State → Prop) (mc ms : Nat) (free : Addr → Prop) : Pt → Array Value → Addr → Pt → Prop := fun A a q B =>
  ∃ (g : JFrame) (mk : MethodId) (t : State) (L : List Loc) (E : String) (ce : Cell), B.U.heap = t.heap ∧ B.U.vm = t.vm ∧ XC E (A.U.calling g mk a) t ∧ t.heap[q]? = some ce ∧ ce.vm = .none ∧ A.U.vm.findClass E = some ce.cls ∧ B.locs = A.locs ++ L ∧ (∀ z ∈ L, free z.base) ∧ B.cells = A.cells + mc ∧ B.slots = A.slots + ms
def vx_Back (l : Launch) (R : Room) (p : Program) (e : Env) (below : List Frame) (s : State) (sargs : Array Value) (y : MethodName) (len W9 : Nat)
    (Pre : Pt → Array Value → Prop) (Post : Pt → Array Value → Option Value → Pt → Prop) (PostX : Pt → Array Value → Addr → Pt → Prop) : Prop :=
  ∀ (m : MethodId) (meth : Method) (c : Code) (A : Pt) (g : JFrame) (ig : Instr) (mk : MethodId) (a : Array Value),
    Stand p l e R s m sargs below meth c A.U A.locs A.cells A.slots → g.method = m → g.locals.size = c.maxLocals → decode c.code g.pc = .ok (ig, len) →
    2 * g.monitorRoom + (g.stack.map fun v => v.category).sum ≤ W9 → A.U.methodNamed? y = some mk → Pre A a →
    (∃ (v : Option Value) (B : Pt), Stand p l e R s m sargs below meth c B.U B.locs B.cells B.slots ∧ Post A a v B ∧
      Steps p.tables e below (doInvoke e (A.U.setTop g) [] mk a).1 (B.U.setTop { g with pc := g.pc + len, stack := v.toList ++ g.stack })) ∨
    (∃ (q : Addr) (B : Pt), Stand p l e R s m sargs below meth c B.U B.locs B.cells B.slots ∧ PostX A a q B ∧
      Steps p.tables e below (doInvoke e (A.U.setTop g) [] mk a).1 ((B.U.setTop g).pushFrame (.throwing q)))
section Payer
variable {l : Launch} {R : Room} {p : Program} {e : Env} {below : List Frame} {s : State} {sargs : Array Value} {y : MethodName} {len W9 : Nat}
theorem vx_back {ws : List Cond} {rm : Room} {Pc : Array Value → State → Prop} {Qc : Array Value → State → Outcome → State → Prop} {XC : String → State → State → Prop} {mc ms : Nat} {free : Addr → Prop} {bytes : ByteArray} {maxL : Nat} {ret : Option FieldType}
    (hM : vx_Met l y ws rm Pc Qc XC mc ms free) (hblind : FrameBlind Pc) (hrc : rm.cells = mc) (hrs : rm.slots = ms)
    (hframes : rm.frames + 1 ≤ R.frames) (hlocals : W9 + (maxL + 11) + rm.locals ≤ R.locals)
    (hws : ∀ w ∈ ws, ∀ a' U, s.WarmedH U.vm → w.before a' U = true) (hcode : Cond.code y bytes maxL ret ∈ ws) (hinit : ∀ a' U, s.WarmedH U.vm → (Cond.initialized y.cls).before a' U = true) :
    vx_Back l R p e below s sargs y len W9 (PreOf R mc ms Pc) (PostOf Qc mc ms free) (vx_Post XC mc ms free) := by
  intro m meth c A g ig mk a X hg hsize hdg hW hn hp
  have h1 : (headSpec ws rm).pre.before a A.U = true := atoms_intro fun w hw => hws w hw _ _ X.warmed
  have h2 : (Cond.code y bytes maxL ret).before a A.U = true := hws _ hcode _ _ X.warmed
  have h3 : (Cond.initialized y.cls).before a A.U = true := hinit _ _ X.warmed
  have h4 : A.cells + (headSpec ws rm).room.cells ≤ R.cells := by rw [show (headSpec ws rm).room.cells = mc from hrc]; exact hp.1
  have h5 : A.slots + (headSpec ws rm).room.slots ≤ R.slots := by rw [show (headSpec ws rm).room.slots = ms from hrs]; exact hp.2.1
  have hPc : Pc a (A.U.calling g mk a) := hblind _ _ _ _ hp.2.2
  obtain ⟨U, Ls, c0, s0⟩ := A
  dsimp only [Pt.U, Pt.locs, Pt.cells, Pt.slots] at h1 h2 h3 h4 h5 X hn hPc ⊢
  obtain ⟨methY, cY, hmY, hcY, -, hlY, -, -, -, -⟩ := Cond.code_spec hn h2
  obtain ⟨kY, hkY, -⟩ := className_of_methodNamed hn
  have hinitY : kY.init = .initialized := Cond.initialized_spec (findClass_of_methodNamed hn) hkY h3
  have h : At U g.method c below := by rw [hg]; exact X.here
  have hlocals9 : W9 + (maxL + 11) + (headSpec ws rm).room.locals ≤ R.locals := hlocals
  have happ : (headSpec ws rm).appliesLoose y e.platform (U.calling g mk a) = true :=
    Spec.appliesLoose_calling (g := g) h hdg hn hkY hinitY
      (X.room_calling (g := g) (R' := (headSpec ws rm).room) hsize hmY hcY hframes (by rw [hlY]; omega) h4 h5) h1
  obtain ⟨mid, hmid⟩ := h.above
  have hfr : (U.setTop g).frames = (.java g :: mid) ++ below := by rw [State.frames_setTop' g h.top, hmid]; rfl
  obtain ⟨o, s₂, hsteps, -, hend, hq⟩ := Steps.callFree hM p X.admits X.cas X.clock (acts := []) hfr happ hPc trivial
  have hq' : vx_Q Qc XC mc ms free a (U.calling g mk a) o s₂ := hq
  rw [State.frames_setTop' g h.top] at hend
  obtain ⟨g₀, hg0⟩ := Option.isSome_iff_exists.mp h.top
  obtain ⟨r, hr⟩ := State.topJava?_eq_some.mp hg0
  have hr' : (({ U with heap := s₂.heap, slotsUsed := s₂.slotsUsed } : State).setVm s₂.vm).frames = .java g₀ :: r := hr
  rcases hq' with ⟨hqc, L, hfe, hL⟩ | ⟨q, rfl, E, ce, L, hx, hce, hcv, hcl, hW₂, hsm, hL⟩
  · obtain ⟨⟨v, rfl⟩, hW₂, e2, q2, q3, q4, q5, q6⟩ := id hfe
    have e3 : s₂ = ({ (U.calling g mk a).setFrames s₂.frames with heap := s₂.heap, slotsUsed := s₂.slotsUsed } : State).setVm s₂.vm := by
      have : s₂ = ({ s₂ with vm := (U.calling g mk a).vm } : State).setVm s₂.vm := rfl
      rw [e2] at this
      exact this
    obtain ⟨c₂, i₂, len₂, hc₂, hd₂, hf₂⟩ := hend
    have hW' : U.WarmedH s₂.vm := hW₂
    have hcc : c₂ = c := by
      have h1 : s₂.code? g.method = U.code? g.method := by
        rw [State.code?_eq, State.code?_eq, hW'.alike.method?]
      exact Option.some.inj (hc₂.symm.trans (h1.trans h.code))
    subst hcc
    have hlen : len₂ = len := by rw [hdg] at hd₂; cases hd₂; rfl
    subst hlen
    have hs₂ : s₂ = (({ U with heap := s₂.heap, slotsUsed := s₂.slotsUsed } : State).setVm s₂.vm).setTop { g with pc := g.pc + len₂, stack := v.toList ++ g.stack } := by
      refine e3.trans ?_
      rw [hf₂, State.calling_eq h.top, State.setFrames_setFrames, State.setTop_of_frames _ hr', hr]
      rfl
    have hsame : U.sameButNew ({ U with heap := s₂.heap, slotsUsed := s₂.slotsUsed } : State) L mc ms := by
      refine ⟨?_, q2, q3, q4, q5, q6⟩
      obtain ⟨t, ht, -⟩ := State.frames_cons hr
      show ({ U with heap := s₂.heap, slotsUsed := s₂.slotsUsed } : State) = { U.setFrames U.frames with heap := s₂.heap, slotsUsed := s₂.slotsUsed }
      rw [State.setFrames_self ht]
    subst hg
    refine Or.inl ⟨v, ⟨(({ U with heap := s₂.heap, slotsUsed := s₂.slotsUsed } : State).setVm s₂.vm), Ls ++ L, c0 + mc, s0 + ms⟩,
      ⟨X.admits, X.cas, X.clock, X.frames, X.room, X.hears, X.method, X.code, (X.here.setHeapUsed s₂.heap s₂.slotsUsed).setVm hW'.alike, X.tail, State.WarmedH.trans X.warmed hW', X.limits, X.bytes, X.same.trans (hsame.setVm s.vm)⟩,
      ⟨g, mk, s₂, L, rfl, rfl, hqc, rfl, hL, rfl, rfl⟩, ?_⟩
    show Steps p.tables e below _ ((({ U with heap := s₂.heap, slotsUsed := s₂.slotsUsed } : State).setVm s₂.vm).setTop { g with pc := g.pc + len₂, stack := v.toList ++ g.stack })
    rw [← hs₂]
    exact hsteps
  · obtain ⟨e2, q2, q3, q4, q5, q6⟩ := id hsm
    have e3 : s₂ = ({ (U.calling g mk a).setFrames s₂.frames with heap := s₂.heap, slotsUsed := s₂.slotsUsed } : State).setVm s₂.vm := by
      have : s₂ = ({ s₂ with vm := (U.calling g mk a).vm } : State).setVm s₂.vm := rfl
      rw [e2] at this
      exact this
    have hf₂ : s₂.frames = .throwing q :: .java g :: U.frames.tail := hend
    have hW' : U.WarmedH s₂.vm := hW₂
    have hs₂ : s₂ = ((({ U with heap := s₂.heap, slotsUsed := s₂.slotsUsed } : State).setVm s₂.vm).setTop g).pushFrame (.throwing q) := by
      refine e3.trans ?_
      rw [hf₂, State.calling_eq h.top, State.setFrames_setFrames, State.pushFrame, State.frames_setTop _ hr', State.setTop_of_frames _ hr', State.setFrames_setFrames, hr]
      rfl
    have hsame : U.sameButNew ({ U with heap := s₂.heap, slotsUsed := s₂.slotsUsed } : State) L mc ms := by
      refine ⟨?_, q2, q3, q4, q5, q6⟩
      obtain ⟨t, ht, -⟩ := State.frames_cons hr
      show ({ U with heap := s₂.heap, slotsUsed := s₂.slotsUsed } : State) = { U.setFrames U.frames with heap := s₂.heap, slotsUsed := s₂.slotsUsed }
      rw [State.setFrames_self ht]
    subst hg
    refine Or.inr ⟨q, ⟨(({ U with heap := s₂.heap, slotsUsed := s₂.slotsUsed } : State).setVm s₂.vm), Ls ++ L, c0 + mc, s0 + ms⟩,
      ⟨X.admits, X.cas, X.clock, X.frames, X.room, X.hears, X.method, X.code, (X.here.setHeapUsed s₂.heap s₂.slotsUsed).setVm hW'.alike, X.tail, State.WarmedH.trans X.warmed hW', X.limits, X.bytes, X.same.trans (hsame.setVm s.vm)⟩,
      ⟨g, mk, s₂, L, E, ce, rfl, rfl, hx, hce, hcv, hcl, rfl, hL, rfl, rfl⟩, ?_⟩
    show Steps p.tables e below _ (((({ U with heap := s₂.heap, slotsUsed := s₂.slotsUsed } : State).setVm s₂.vm).setTop g).pushFrame (.throwing q))
    rw [← hs₂]
    exact hsteps
end Payer
section Calls
variable {p : Program} {l : Launch} {e : Env} {R : Room} {s : State} {m : MethodId} {args : Array Value} {below : List Frame} {meth : Method} {c : Code} {T : State} {locs : List Loc} {cells slots : Nat}
theorem vx_callV (X : Stand p l e R s m args below meth c T locs cells slots) (hexec : p.tables.exec = Jvm.exec) {own C : String} {index : Nat} {y : MethodName} {bytes : ByteArray} {maxL : Nat} {ret : Option FieldType}
    (hown : s.vm.findClass own = some m.cls) (hlink : (Cond.methodLink own index y).before args s = true) (hinst : (Cond.instanceMethod y).before args s = true) (hsel : (Cond.selects C y y).before args s = true)
    (hcode : (Cond.code y bytes maxL ret).before args s = true) (hy : y.cls ≠ "java/lang/invoke/MethodHandle" ∧ y.cls ≠ "java/lang/invoke/VarHandle")
    {W9 : Nat} {Pre : Pt → Array Value → Prop} {Post : Pt → Array Value → Option Value → Pt → Prop} {PostX : Pt → Array Value → Addr → Pt → Prop} (hK : vx_Back l R p e below s args y 3 W9 Pre Post PostX)
    {b : Addr} {cellB : Cell} (hcell : T.heap[b]? = some cellB) (hobj : cellB.vm.isStatics = false) (hcls : s.vm.findClass C = some cellB.cls)
    {g : JFrame} (hg : g.method = m) (hsize : g.locals.size = c.maxLocals) {argsL rest : List Value} (hlen : ∀ sig, parseMethodDescriptor y.desc = some sig → argsL.length = sig.parameters.length)
    (hstack : g.stack = argsL.reverse ++ .ref b :: rest) (hW : 2 * g.monitorRoom + (rest.map fun v => v.category).sum ≤ W9) (hdg : decode c.code g.pc = .ok (.invokevirtual index, 3))
    (hpre : ∀ vm₁, s.WarmedH vm₁ → Pre ⟨T.setVm vm₁, locs, cells, slots⟩ (Value.ref b :: argsL).toArray) :
    (∃ (v : Option Value) (vm₁ : Vm) (B : Pt), s.WarmedH vm₁ ∧ Stand p l e R s m args below meth c B.U B.locs B.cells B.slots ∧ Post ⟨T.setVm vm₁, locs, cells, slots⟩ (Value.ref b :: argsL).toArray v B ∧
      ∀ target, Steps p.tables e below (B.U.setTop { g with pc := g.pc + 3, stack := v.toList ++ rest }) target → Steps p.tables e below (T.setTop g) target) ∨
    (∃ (q : Addr) (vm₁ : Vm) (B : Pt), s.WarmedH vm₁ ∧ Stand p l e R s m args below meth c B.U B.locs B.cells B.slots ∧ PostX ⟨T.setVm vm₁, locs, cells, slots⟩ (Value.ref b :: argsL).toArray q B ∧
      Steps p.tables e below (T.setTop g) ((B.U.setTop { g with stack := rest }).pushFrame (.throwing q))) := by
  obtain ⟨mk, methM, hnamed, hmethM, hstM, habM⟩ := Cond.instanceMethod_spec hinst
  obtain ⟨methM', cM, hmethM', -, -, -, -, -, -, hsigM⟩ := Cond.code_spec hnamed hcode
  cases hmethM.symm.trans hmethM'
  obtain ⟨c2, r2, m2, q1, q2, q3, q4, kP, hkP, hkPi⟩ := Cond.selects_spec hsel
  cases hcls.symm.trans q1
  cases (State.methodFound?_of_named hnamed hy).symm.trans q2
  cases hnamed.symm.trans q3
  have hselP : selectMethod e.platform s.vm cellB.cls mk = .method mk := by rw [Launch.admits_selectMethod X.admits]; exact q4
  obtain ⟨vm₁, X₁, hstep₁⟩ := X.invokevirtual hexec hown hlink hnamed hmethM hstM hkP hkPi hy (a := b) (cell := cellB) hcell
    (fun z h => by rw [h] at hobj; cases hobj) hselP hmethM habM hkP hkPi (g := g) hg (argsL := argsL) (rest := rest) (hlen _ hsigM) hstack hdg
  rcases hK m meth c ⟨T.setVm vm₁, locs, cells, slots⟩ { g with stack := rest } (.invokevirtual index) mk (Value.ref b :: argsL).toArray X₁ hg hsize hdg hW (X₁.named hnamed) (hpre vm₁ X₁.warmed) with ⟨v, B, X', hpost, hsteps⟩ | ⟨q, B, X', hpost, hsteps⟩
  · exact Or.inl ⟨v, vm₁, B, X₁.warmed, X', hpost, fun target h => hstep₁ _ fun acts => by rw [doInvoke_state]; exact hsteps.trans h⟩
  · exact Or.inr ⟨q, vm₁, B, X₁.warmed, X', hpost, hstep₁ _ fun acts => by rw [doInvoke_state]; exact hsteps⟩
theorem vx_callS (X : Stand p l e R s m args below meth c T locs cells slots) (hexec : p.tables.exec = Jvm.exec) {own : String} {index : Nat} {y : MethodName} {bytes : ByteArray} {maxL : Nat} {ret : Option FieldType}
    (hown : s.vm.findClass own = some m.cls) (hlink : (Cond.methodLink own index y).before args s = true) (hstat : (Cond.static y).before args s = true) (hinit : (Cond.initialized y.cls).before args s = true)
    (hcode : (Cond.code y bytes maxL ret).before args s = true) (hy : y.cls ≠ "java/lang/invoke/MethodHandle" ∧ y.cls ≠ "java/lang/invoke/VarHandle")
    {W9 : Nat} {Pre : Pt → Array Value → Prop} {Post : Pt → Array Value → Option Value → Pt → Prop} {PostX : Pt → Array Value → Addr → Pt → Prop} (hK : vx_Back l R p e below s args y 3 W9 Pre Post PostX)
    {g : JFrame} (hg : g.method = m) (hsize : g.locals.size = c.maxLocals) {argsL rest : List Value} (hlen : ∀ sig, parseMethodDescriptor y.desc = some sig → argsL.length = sig.parameters.length)
    (hstack : g.stack = argsL.reverse ++ rest) (hW : 2 * g.monitorRoom + (rest.map fun v => v.category).sum ≤ W9) (hdg : decode c.code g.pc = .ok (.invokestatic index, 3))
    (hpre : ∀ vm₁, s.WarmedH vm₁ → Pre ⟨T.setVm vm₁, locs, cells, slots⟩ argsL.toArray) :
    (∃ (v : Option Value) (vm₁ : Vm) (B : Pt), s.WarmedH vm₁ ∧ Stand p l e R s m args below meth c B.U B.locs B.cells B.slots ∧ Post ⟨T.setVm vm₁, locs, cells, slots⟩ argsL.toArray v B ∧
      ∀ target, Steps p.tables e below (B.U.setTop { g with pc := g.pc + 3, stack := v.toList ++ rest }) target → Steps p.tables e below (T.setTop g) target) ∨
    (∃ (q : Addr) (vm₁ : Vm) (B : Pt), s.WarmedH vm₁ ∧ Stand p l e R s m args below meth c B.U B.locs B.cells B.slots ∧ PostX ⟨T.setVm vm₁, locs, cells, slots⟩ argsL.toArray q B ∧
      Steps p.tables e below (T.setTop g) ((B.U.setTop { g with stack := rest }).pushFrame (.throwing q))) := by
  obtain ⟨mk, hnamed⟩ := Cond.code_named hcode
  obtain ⟨methM, cM, hmethM, -, -, -, -, -, -, hsigM⟩ := Cond.code_spec hnamed hcode
  have hstatic : methM.isStatic = true := Cond.static_spec hnamed hmethM hstat
  obtain ⟨kP, hkP, -⟩ := className_of_methodNamed hnamed
  have hinitP : kP.init = .initialized := Cond.initialized_spec (findClass_of_methodNamed hnamed) hkP hinit
  obtain ⟨vm₁, X₁, hstep₁⟩ := X.invokestatic hexec hown hlink hnamed hmethM hstatic hkP hinitP hy (g := g) hg (argsL := argsL) (rest := rest) (hlen _ hsigM) hstack hdg
  rcases hK m meth c ⟨T.setVm vm₁, locs, cells, slots⟩ { g with stack := rest } (.invokestatic index) mk argsL.toArray X₁ hg hsize hdg hW (X₁.named hnamed) (hpre vm₁ X₁.warmed) with ⟨v, B, X', hpost, hsteps⟩ | ⟨q, B, X', hpost, hsteps⟩
  · exact Or.inl ⟨v, vm₁, B, X₁.warmed, X', hpost, fun target h => hstep₁ _ fun acts => by rw [doInvoke_state]; exact hsteps.trans h⟩
  · exact Or.inr ⟨q, vm₁, B, X₁.warmed, X', hpost, hstep₁ _ fun acts => by rw [doInvoke_state]; exact hsteps⟩
end Calls
theorem vx_cls {s : State} {T : State} {vm₁ : Vm} {E : String} {k : ClassId} (hW : s.WarmedH vm₁) (h : (T.setVm vm₁).vm.findClass E = some k) : s.vm.findClass E = some k := by
  have h1 : vm₁.findClass E = some k := h
  rw [hW.alike.findClass] at h1
  exact h1
/-- the method's frame g, with q thrown over it -/
def vx_W (p : Program) (l : Launch) (e : Env) (R : Room) (s : State) (m : MethodId) (args : Array Value) (below : List Frame) (meth : Method) (c : Code) (H : Heap) (locs : List Loc) (cells slots : Nat) (Q : State → Prop) (g : JFrame) (q : Addr) : Prop :=
  ∀ T : State, T.heap = H → Stand p l e R s m args below meth c T locs cells slots → ∃ t, Steps p.tables e below ((T.setTop g).pushFrame (.throwing q)) t ∧ Q t
def vx_Run (p : Program) (l : Launch) (e : Env) (R : Room) (s : State) (m : MethodId) (args : Array Value) (below : List Frame) (meth : Method) (c : Code) (H : Heap) (locs : List Loc) (cells slots mc ms : Nat) (g : JFrame) (rest : List Value) (Qa : State → Outcome → State → Prop) (XC : String → State → State → Prop) (free : Addr → Prop) : Prop :=
  ∀ T : State, T.heap = H → Stand p l e R s m args below meth c T locs cells slots →
    (∃ (v : Option Value) (st₀ t T' : State) (L : List Loc), st₀.heap = H ∧ Stand p l e R s m args below meth c T' (locs ++ L) (cells + mc) (slots + ms) ∧ (∀ q ∈ L, free q.base) ∧ T'.heap = t.heap ∧ T'.vm = t.vm ∧ Qa st₀ (.returned v) t ∧
      Goes p e below T g T' { g with pc := g.pc + 3, stack := v.toList ++ rest }) ∨
    (∃ (q : Addr) (st₀ t T' : State) (L : List Loc) (E : String) (ce : Cell), st₀.heap = H ∧ Stand p l e R s m args below meth c T' (locs ++ L) (cells + mc) (slots + ms) ∧ (∀ z ∈ L, free z.base) ∧ T'.heap = t.heap ∧ T'.vm = t.vm ∧ XC E st₀ t ∧ t.heap[q]? = some ce ∧ ce.vm = .none ∧ s.vm.findClass E = some ce.cls ∧
      Steps p.tables e below (T.setTop g) ((T'.setTop { g with stack := rest }).pushFrame (.throwing q)))
def vx_X {S : Type} (px : S → Prop) (B : String → S → State → Prop) (A : Nat → Prop) : String → State → State → Prop := fun E st t => ∃ u : S, px u ∧ B E u t ∧ va_F A st t
section Runs
variable {p : Program} {l : Launch} {e : Env} {R : Room} {s : State} {m : MethodId} {args : Array Value} {below : List Frame} {meth : Method} {c : Code} {H : Heap} {locs : List Loc} {cells slots : Nat}
variable {y : MethodName} {bytes cc : ByteArray} {maxL nL mc ms n index : Nat} {ret : Option FieldType} {ws : List Cond} {rm : Room} {Pc : Array Value → State → Prop} {Qc : Array Value → State → Outcome → State → Prop} {XC : String → State → State → Prop} {free : Addr → Prop} {Ts : List Cond} {own C : String} {b : Addr} {As rest : List Value} {g : JFrame}
theorem vx_callBack (cb : CallB R s args own index y bytes maxL ret ws rm mc ms n) (hM : vx_Met l y ws rm Pc Qc XC mc ms free) (hbl : FrameBlind Pc) : vx_Back l R p e below s args y 3 8 (PreOf R mc ms Pc) (PostOf Qc mc ms free) (vx_Post XC mc ms free) := by
  obtain ⟨hrc, hrs, hfr, hlo, hws, hcw, -, hini, -⟩ := cb
  exact vx_back (bytes := bytes) (maxL := maxL) (ret := ret) hM hbl hrc hrs hfr hlo hws hcw (fun a' U hW => word_at hW (Or.inl (by first | rfl | simp [Cond.onTables, Cond.keeps, Cond.steady])) hini)
theorem vx_runV (S : CallFix p m c cc nL s args Ts own) (hM : vx_Met l y ws rm Pc Qc XC mc ms free) (cw : CallW R s args own C index y bytes maxL ret ws rm mc ms n) (hp : PreV s H C b Pc As)
    (hg : g.method = m) (hn : As.length = n) (hsize : g.locals.size = nL) (hstack : g.stack = As.reverse ++ .ref b :: rest) (hW : 2 * g.monitorRoom + (rest.map fun v => v.category).sum ≤ 8) (hdg : decode cc g.pc = .ok (.invokevirtual index, 3)) (hf : cells + mc ≤ R.cells ∧ slots + ms ≤ R.slots) :
    vx_Run p l e R s m args below meth c H locs cells slots mc ms g rest (Qc (Value.ref b :: As).toArray) XC free := by
  have hK : vx_Back l R p e below s args y 3 8 (PreOf R mc ms Pc) (PostOf Qc mc ms free) (vx_Post XC mc ms free) := vx_callBack cw.1 hM hp.1
  obtain ⟨⟨-, -, -, -, -, -, hcode, -, hy, hlen, hl⟩, hin, hse⟩ := cw
  obtain ⟨hx, hb, hml, ho, -⟩ := S
  obtain ⟨-, ⟨cellB, hcB, hoB, hclB⟩, hPc⟩ := hp
  intro T hT X
  rcases vx_callV X hx (C := C) (bytes := bytes) (maxL := maxL) (ret := ret) ho hl hin hse hcode hy hK (by rw [hT]; exact hcB) hoB hclB hg (hsize.trans hml.symm) (argsL := As) (rest := rest) (fun sig h => hn.trans (hlen sig h)) hstack hW (by rw [hb]; exact hdg)
    (fun vm₁ hW₁ => ⟨hf.1, hf.2, hPc (T.setVm vm₁) hT hW₁⟩) with ⟨v, vm₁, ⟨U', l2, c2, s2⟩, hW₁, X', ⟨g', mk, t, L, e1, e2, hq, h1, hL, h2, h3⟩, st⟩ | ⟨q, vm₁, ⟨U', l2, c2, s2⟩, hW₁, X', ⟨g', mk, t, L, E, ce, e1, e2, hq, hce, hcv, hcl, h1, hL, h2, h3⟩, st⟩
  · dsimp only [Pt.U, Pt.locs, Pt.cells, Pt.slots] at X' e1 e2 h1 h2 h3 st
    subst h1; subst h2; subst h3
    exact Or.inl ⟨v, (T.setVm vm₁).calling g' mk (Value.ref b :: As).toArray, t, U', L, hT, X', hL, e1, e2, hq, st⟩
  · dsimp only [Pt.U, Pt.locs, Pt.cells, Pt.slots] at X' e1 e2 h1 h2 h3 st hcl
    subst h1; subst h2; subst h3
    exact Or.inr ⟨q, (T.setVm vm₁).calling g' mk (Value.ref b :: As).toArray, t, U', L, E, ce, hT, X', hL, e1, e2, hq, hce, hcv, vx_cls hW₁ hcl, st⟩
theorem vx_runS (S : CallFix p m c cc nL s args Ts own) (hM : vx_Met l y ws rm Pc Qc XC mc ms free) (cw : CallB R s args own index y bytes maxL ret ws rm mc ms n ∧ (Cond.static y).before args s = true) (hp : PreS s H Pc As)
    (hg : g.method = m) (hn : As.length = n) (hsize : g.locals.size = nL) (hstack : g.stack = As.reverse ++ rest) (hW : 2 * g.monitorRoom + (rest.map fun v => v.category).sum ≤ 8) (hdg : decode cc g.pc = .ok (.invokestatic index, 3)) (hf : cells + mc ≤ R.cells ∧ slots + ms ≤ R.slots) :
    vx_Run p l e R s m args below meth c H locs cells slots mc ms g rest (Qc As.toArray) XC free := by
  have hK : vx_Back l R p e below s args y 3 8 (PreOf R mc ms Pc) (PostOf Qc mc ms free) (vx_Post XC mc ms free) := vx_callBack cw.1 hM hp.1
  obtain ⟨⟨-, -, -, -, -, -, hcode, hini, hy, hlen, hl⟩, hstt⟩ := cw
  obtain ⟨hx, hb, hml, ho, -⟩ := S
  intro T hT X
  rcases vx_callS X hx (bytes := bytes) (maxL := maxL) (ret := ret) ho hl hstt hini hcode hy hK hg (hsize.trans hml.symm) (argsL := As) (rest := rest) (fun sig h => hn.trans (hlen sig h)) hstack hW (by rw [hb]; exact hdg)
    (fun vm₁ hW₁ => ⟨hf.1, hf.2, hp.2 (T.setVm vm₁) hT hW₁⟩) with ⟨v, vm₁, ⟨U', l2, c2, s2⟩, hW₁, X', ⟨g', mk, t, L, e1, e2, hq, h1, hL, h2, h3⟩, st⟩ | ⟨q, vm₁, ⟨U', l2, c2, s2⟩, hW₁, X', ⟨g', mk, t, L, E, ce, e1, e2, hq, hce, hcv, hcl, h1, hL, h2, h3⟩, st⟩
  · dsimp only [Pt.U, Pt.locs, Pt.cells, Pt.slots] at X' e1 e2 h1 h2 h3 st
    subst h1; subst h2; subst h3
    exact Or.inl ⟨v, (T.setVm vm₁).calling g' mk As.toArray, t, U', L, hT, X', hL, e1, e2, hq, st⟩
  · dsimp only [Pt.U, Pt.locs, Pt.cells, Pt.slots] at X' e1 e2 h1 h2 h3 st hcl
    subst h1; subst h2; subst h3
    exact Or.inr ⟨q, (T.setVm vm₁).calling g' mk As.toArray, t, U', L, E, ce, hT, X', hL, e1, e2, hq, hce, hcv, vx_cls hW₁ hcl, st⟩
end Runs
section Rows
variable {p : Program} {l : Launch} {e : Env} {R : Room} {s : State} {m : MethodId} {args : Array Value} {below : List Frame} {meth : Method} {c : Code} {H : Heap} {locs : List Loc} {cells slots : Nat} {Q : State → Prop}
variable {mc ms : Nat} {free : Addr → Prop} {A0 A1 : Nat → Prop} {H0 : Heap} {a : Array Value} {pc : Nat} {ls : Array Slot} {st0 rest : List Value}
theorem vx_keep {st₀ t T' : State} {L : List Loc} (h0 : st₀.heap = H) (e1 : T'.heap = t.heap) (hS : va_S A0 H0 H locs) (hA : ∀ q, q < H.size → A1 q → A0 q) (hf : ∀ q, free q → A0 q) (hL : ∀ q ∈ L, free q.base) (hF : va_F A1 st₀ t) :
    H.size ≤ T'.heap.size ∧ (∀ q : Nat, q < H.size → ¬ A1 q → T'.heap[q]? = H[q]?) ∧ va_S A0 H0 T'.heap (locs ++ L) := by
  obtain ⟨hz, hk⟩ := hF
  rw [h0] at hz hk
  exact ⟨by rw [e1]; exact hz, fun q h1 h2 => by rw [e1]; exact hk q h1 h2,
    ⟨Nat.le_trans hS.1 (by rw [e1]; exact hz), fun q h1 h2 => by rw [e1, hk q (Nat.lt_of_lt_of_le h1 hS.1) (fun z => h2 (hA q (Nat.lt_of_lt_of_le h1 hS.1) z))]; exact hS.2.1 q h1 h2, fun q hq => by
      rcases List.mem_append.mp hq with h | h
      · exact hS.2.2 q h
      · exact hf _ (hL q h)⟩⟩
theorem vx_calli {S SX : Type} {post : Int32 → S → Prop} {px : SX → Prop} {B : S → State → Prop} {BX : String → SX → State → Prop} {AX : Nat → Prop} (hr : vx_Run p l e R s m args below meth c H locs cells slots mc ms (F0 m pc ls st0) rest (va_Qi post B A1 a) (vx_X px BX AX) free) (hS : va_S A0 H0 H locs) (hA : ∀ q, q < H.size → A1 q → A0 q) (hf : ∀ q, free q → A0 q) (hAX : ∀ q, q < H.size → AX q → A0 q)
    (kx : ∀ (E : String) (ce : Cell) (q9 : Addr) (u : SX) (t : State) (H1 : Heap) (locs1 : List Loc), t.heap = H1 → s.vm.Alike t.vm → px u → BX E u t → H.size ≤ H1.size → (∀ q : Nat, q < H.size → ¬ AX q → H1[q]? = H[q]?) → va_S A0 H0 H1 locs1 → H1[q9]? = some ce → ce.vm = .none → s.vm.findClass E = some ce.cls → vx_W p l e R s m args below meth c H1 locs1 (cells + mc) (slots + ms) Q (F0 m pc ls rest) q9)
    (kk : ∀ (r : Int32) (u : S) (t : State) (H1 : Heap) (locs1 : List Loc), t.heap = H1 → s.vm.Alike t.vm → post r u → B u t → H.size ≤ H1.size → (∀ q : Nat, q < H.size → ¬ A1 q → H1[q]? = H[q]?) → va_S A0 H0 H1 locs1 → W p l e R s m args below meth c H1 locs1 (cells + mc) (slots + ms) Q (F0 m (pc + 3) ls (.int r :: rest))) : W p l e R s m args below meth c H locs cells slots Q (F0 m pc ls st0) := by
  intro T hT X
  rcases hr T hT X with ⟨v, st₀, t, T', L, h0, X', hL, e1, e2, ⟨⟨r, u, hv, hp, hb⟩, hF⟩, st⟩ | ⟨q, st₀, t, T', L, E, ce, h0, X', hL, e1, e2, ⟨u, hp, hb, hF⟩, hce, hcv, hcl, st⟩
  · cases hv
    obtain ⟨k1, k2, k3⟩ := vx_keep h0 e1 hS hA hf hL hF
    obtain ⟨t2, a1, b1⟩ := kk r u t T'.heap (locs ++ L) e1.symm (by rw [← e2]; exact X'.warmed.alike) hp hb k1 k2 k3 T' rfl X'
    exact ⟨t2, st t2 a1, b1⟩
  · obtain ⟨k1, k2, k3⟩ := vx_keep h0 e1 hS hAX hf hL hF
    obtain ⟨t2, a1, b1⟩ := kx E ce q u t T'.heap (locs ++ L) e1.symm (by rw [← e2]; exact X'.warmed.alike) hp hb k1 k2 k3 (by rw [e1]; exact hce) hcv hcl T' rfl X'
    exact ⟨t2, st.trans a1, b1⟩
theorem vx_calll {S SX : Type} {post : Int64 → S → Prop} {px : SX → Prop} {B : S → State → Prop} {BX : String → SX → State → Prop} {AX : Nat → Prop} (hr : vx_Run p l e R s m args below meth c H locs cells slots mc ms (F0 m pc ls st0) rest (va_Ql post B A1 a) (vx_X px BX AX) free) (hS : va_S A0 H0 H locs) (hA : ∀ q, q < H.size → A1 q → A0 q) (hf : ∀ q, free q → A0 q) (hAX : ∀ q, q < H.size → AX q → A0 q)
    (kx : ∀ (E : String) (ce : Cell) (q9 : Addr) (u : SX) (t : State) (H1 : Heap) (locs1 : List Loc), t.heap = H1 → s.vm.Alike t.vm → px u → BX E u t → H.size ≤ H1.size → (∀ q : Nat, q < H.size → ¬ AX q → H1[q]? = H[q]?) → va_S A0 H0 H1 locs1 → H1[q9]? = some ce → ce.vm = .none → s.vm.findClass E = some ce.cls → vx_W p l e R s m args below meth c H1 locs1 (cells + mc) (slots + ms) Q (F0 m pc ls rest) q9)
    (kk : ∀ (r : Int64) (u : S) (t : State) (H1 : Heap) (locs1 : List Loc), t.heap = H1 → s.vm.Alike t.vm → post r u → B u t → H.size ≤ H1.size → (∀ q : Nat, q < H.size → ¬ A1 q → H1[q]? = H[q]?) → va_S A0 H0 H1 locs1 → W p l e R s m args below meth c H1 locs1 (cells + mc) (slots + ms) Q (F0 m (pc + 3) ls (.long r :: rest))) : W p l e R s m args below meth c H locs cells slots Q (F0 m pc ls st0) := by
  intro T hT X
  rcases hr T hT X with ⟨v, st₀, t, T', L, h0, X', hL, e1, e2, ⟨⟨r, u, hv, hp, hb⟩, hF⟩, st⟩ | ⟨q, st₀, t, T', L, E, ce, h0, X', hL, e1, e2, ⟨u, hp, hb, hF⟩, hce, hcv, hcl, st⟩
  · cases hv
    obtain ⟨k1, k2, k3⟩ := vx_keep h0 e1 hS hA hf hL hF
    obtain ⟨t2, a1, b1⟩ := kk r u t T'.heap (locs ++ L) e1.symm (by rw [← e2]; exact X'.warmed.alike) hp hb k1 k2 k3 T' rfl X'
    exact ⟨t2, st t2 a1, b1⟩
  · obtain ⟨k1, k2, k3⟩ := vx_keep h0 e1 hS hAX hf hL hF
    obtain ⟨t2, a1, b1⟩ := kx E ce q u t T'.heap (locs ++ L) e1.symm (by rw [← e2]; exact X'.warmed.alike) hp hb k1 k2 k3 (by rw [e1]; exact hce) hcv hcl T' rfl X'
    exact ⟨t2, st.trans a1, b1⟩
theorem vx_callf {S SX : Type} {post : UInt32 → S → Prop} {px : SX → Prop} {B : S → State → Prop} {BX : String → SX → State → Prop} {AX : Nat → Prop} (hr : vx_Run p l e R s m args below meth c H locs cells slots mc ms (F0 m pc ls st0) rest (va_Qf post B A1 a) (vx_X px BX AX) free) (hS : va_S A0 H0 H locs) (hA : ∀ q, q < H.size → A1 q → A0 q) (hf : ∀ q, free q → A0 q) (hAX : ∀ q, q < H.size → AX q → A0 q)
    (kx : ∀ (E : String) (ce : Cell) (q9 : Addr) (u : SX) (t : State) (H1 : Heap) (locs1 : List Loc), t.heap = H1 → s.vm.Alike t.vm → px u → BX E u t → H.size ≤ H1.size → (∀ q : Nat, q < H.size → ¬ AX q → H1[q]? = H[q]?) → va_S A0 H0 H1 locs1 → H1[q9]? = some ce → ce.vm = .none → s.vm.findClass E = some ce.cls → vx_W p l e R s m args below meth c H1 locs1 (cells + mc) (slots + ms) Q (F0 m pc ls rest) q9)
    (kk : ∀ (r : UInt32) (u : S) (t : State) (H1 : Heap) (locs1 : List Loc), t.heap = H1 → s.vm.Alike t.vm → post r u → B u t → H.size ≤ H1.size → (∀ q : Nat, q < H.size → ¬ A1 q → H1[q]? = H[q]?) → va_S A0 H0 H1 locs1 → W p l e R s m args below meth c H1 locs1 (cells + mc) (slots + ms) Q (F0 m (pc + 3) ls (.float r :: rest))) : W p l e R s m args below meth c H locs cells slots Q (F0 m pc ls st0) := by
  intro T hT X
  rcases hr T hT X with ⟨v, st₀, t, T', L, h0, X', hL, e1, e2, ⟨⟨r, u, hv, hp, hb⟩, hF⟩, st⟩ | ⟨q, st₀, t, T', L, E, ce, h0, X', hL, e1, e2, ⟨u, hp, hb, hF⟩, hce, hcv, hcl, st⟩
  · cases hv
    obtain ⟨k1, k2, k3⟩ := vx_keep h0 e1 hS hA hf hL hF
    obtain ⟨t2, a1, b1⟩ := kk r u t T'.heap (locs ++ L) e1.symm (by rw [← e2]; exact X'.warmed.alike) hp hb k1 k2 k3 T' rfl X'
    exact ⟨t2, st t2 a1, b1⟩
  · obtain ⟨k1, k2, k3⟩ := vx_keep h0 e1 hS hAX hf hL hF
    obtain ⟨t2, a1, b1⟩ := kx E ce q u t T'.heap (locs ++ L) e1.symm (by rw [← e2]; exact X'.warmed.alike) hp hb k1 k2 k3 (by rw [e1]; exact hce) hcv hcl T' rfl X'
    exact ⟨t2, st.trans a1, b1⟩
theorem vx_calld {S SX : Type} {post : UInt64 → S → Prop} {px : SX → Prop} {B : S → State → Prop} {BX : String → SX → State → Prop} {AX : Nat → Prop} (hr : vx_Run p l e R s m args below meth c H locs cells slots mc ms (F0 m pc ls st0) rest (va_Qd post B A1 a) (vx_X px BX AX) free) (hS : va_S A0 H0 H locs) (hA : ∀ q, q < H.size → A1 q → A0 q) (hf : ∀ q, free q → A0 q) (hAX : ∀ q, q < H.size → AX q → A0 q)
    (kx : ∀ (E : String) (ce : Cell) (q9 : Addr) (u : SX) (t : State) (H1 : Heap) (locs1 : List Loc), t.heap = H1 → s.vm.Alike t.vm → px u → BX E u t → H.size ≤ H1.size → (∀ q : Nat, q < H.size → ¬ AX q → H1[q]? = H[q]?) → va_S A0 H0 H1 locs1 → H1[q9]? = some ce → ce.vm = .none → s.vm.findClass E = some ce.cls → vx_W p l e R s m args below meth c H1 locs1 (cells + mc) (slots + ms) Q (F0 m pc ls rest) q9)
    (kk : ∀ (r : UInt64) (u : S) (t : State) (H1 : Heap) (locs1 : List Loc), t.heap = H1 → s.vm.Alike t.vm → post r u → B u t → H.size ≤ H1.size → (∀ q : Nat, q < H.size → ¬ A1 q → H1[q]? = H[q]?) → va_S A0 H0 H1 locs1 → W p l e R s m args below meth c H1 locs1 (cells + mc) (slots + ms) Q (F0 m (pc + 3) ls (.double r :: rest))) : W p l e R s m args below meth c H locs cells slots Q (F0 m pc ls st0) := by
  intro T hT X
  rcases hr T hT X with ⟨v, st₀, t, T', L, h0, X', hL, e1, e2, ⟨⟨r, u, hv, hp, hb⟩, hF⟩, st⟩ | ⟨q, st₀, t, T', L, E, ce, h0, X', hL, e1, e2, ⟨u, hp, hb, hF⟩, hce, hcv, hcl, st⟩
  · cases hv
    obtain ⟨k1, k2, k3⟩ := vx_keep h0 e1 hS hA hf hL hF
    obtain ⟨t2, a1, b1⟩ := kk r u t T'.heap (locs ++ L) e1.symm (by rw [← e2]; exact X'.warmed.alike) hp hb k1 k2 k3 T' rfl X'
    exact ⟨t2, st t2 a1, b1⟩
  · obtain ⟨k1, k2, k3⟩ := vx_keep h0 e1 hS hAX hf hL hF
    obtain ⟨t2, a1, b1⟩ := kx E ce q u t T'.heap (locs ++ L) e1.symm (by rw [← e2]; exact X'.warmed.alike) hp hb k1 k2 k3 (by rw [e1]; exact hce) hcv hcl T' rfl X'
    exact ⟨t2, st.trans a1, b1⟩
theorem vx_callv {S SX : Type} {post : S → Prop} {px : SX → Prop} {B : S → State → Prop} {BX : String → SX → State → Prop} {AX : Nat → Prop} (hr : vx_Run p l e R s m args below meth c H locs cells slots mc ms (F0 m pc ls st0) rest (va_Qv post B A1 a) (vx_X px BX AX) free) (hS : va_S A0 H0 H locs) (hA : ∀ q, q < H.size → A1 q → A0 q) (hf : ∀ q, free q → A0 q) (hAX : ∀ q, q < H.size → AX q → A0 q)
    (kx : ∀ (E : String) (ce : Cell) (q9 : Addr) (u : SX) (t : State) (H1 : Heap) (locs1 : List Loc), t.heap = H1 → s.vm.Alike t.vm → px u → BX E u t → H.size ≤ H1.size → (∀ q : Nat, q < H.size → ¬ AX q → H1[q]? = H[q]?) → va_S A0 H0 H1 locs1 → H1[q9]? = some ce → ce.vm = .none → s.vm.findClass E = some ce.cls → vx_W p l e R s m args below meth c H1 locs1 (cells + mc) (slots + ms) Q (F0 m pc ls rest) q9)
    (kk : ∀ (u : S) (t : State) (H1 : Heap) (locs1 : List Loc), t.heap = H1 → s.vm.Alike t.vm → post u → B u t → H.size ≤ H1.size → (∀ q : Nat, q < H.size → ¬ A1 q → H1[q]? = H[q]?) → va_S A0 H0 H1 locs1 → W p l e R s m args below meth c H1 locs1 (cells + mc) (slots + ms) Q (F0 m (pc + 3) ls (rest))) : W p l e R s m args below meth c H locs cells slots Q (F0 m pc ls st0) := by
  intro T hT X
  rcases hr T hT X with ⟨v, st₀, t, T', L, h0, X', hL, e1, e2, ⟨⟨u, hv, hp, hb⟩, hF⟩, st⟩ | ⟨q, st₀, t, T', L, E, ce, h0, X', hL, e1, e2, ⟨u, hp, hb, hF⟩, hce, hcv, hcl, st⟩
  · cases hv
    obtain ⟨k1, k2, k3⟩ := vx_keep h0 e1 hS hA hf hL hF
    obtain ⟨t2, a1, b1⟩ := kk u t T'.heap (locs ++ L) e1.symm (by rw [← e2]; exact X'.warmed.alike) hp hb k1 k2 k3 T' rfl X'
    exact ⟨t2, st t2 a1, b1⟩
  · obtain ⟨k1, k2, k3⟩ := vx_keep h0 e1 hS hAX hf hL hF
    obtain ⟨t2, a1, b1⟩ := kx E ce q u t T'.heap (locs ++ L) e1.symm (by rw [← e2]; exact X'.warmed.alike) hp hb k1 k2 k3 (by rw [e1]; exact hce) hcv hcl T' rfl X'
    exact ⟨t2, st.trans a1, b1⟩
end Rows
section Ends
variable {p : Program} {l : Launch} {e : Env} {R : Room} {s : State} {m : MethodId} {args : Array Value} {below : List Frame} {meth : Method} {c : Code} {H : Heap} {locs : List Loc} {cells slots : Nat} {Q : State → Prop}
variable {mc ms : Nat} {free : Addr → Prop} {A0 A1 : Nat → Prop} {H0 : Heap} {a : Array Value} {ls : Array Slot} {st0 rest : List Value}
variable {Qc : Array Value → State → Outcome → State → Prop} {XC : String → State → State → Prop}
/-- what a body that may throw owes at its end -/
def vx_MQ (below : List Frame) (Qc : Array Value → State → Outcome → State → Prop) (XC : String → State → State → Prop) (a : Array Value) (s : State) (mc ms : Nat) (free : Addr → Prop) : State → Prop := fun t =>
  ∃ o, t.status = .running ∧ Ended t below o ∧ vx_Q Qc XC mc ms free a s o t
theorem vx_ret {g : JFrame} {mc ms : Nat} (k : W p l e R s m args below meth c H locs cells slots (MQ below Qc args s mc ms free) g) : W p l e R s m args below meth c H locs cells slots (vx_MQ below Qc XC args s mc ms free) g := by
  intro T hT X
  obtain ⟨t, a1, o, b1, b2, b3, b4⟩ := k T hT X
  exact ⟨t, a1, o, b1, b2, Or.inl ⟨b3, b4⟩⟩
/-- not caught here: it goes on to the caller -/
theorem vx_widen {g : JFrame} {q : Addr} {k n : Nat} (h1 : cells ≤ k) (h2 : slots ≤ n) (kk : vx_W p l e R s m args below meth c H locs k n Q g q) : vx_W p l e R s m args below meth c H locs cells slots Q g q := fun T hT X => kk T hT (stand_widen X h1 h2)
theorem vx_out {pc : Nat} {E : String} {ce : Cell} {q : Addr} {mc ms : Nat} (hout : ∀ x ∈ c.exceptionTable.toList, covers x pc = false) (hlocks : meth.locks = false) (hcell : H[q]? = some ce) (hv : ce.vm = .none) (hcl : s.vm.findClass E = some ce.cls)
    (hx : ∀ t : State, t.heap = H → s.vm.Alike t.vm → XC E s t) (hf : ∀ z ∈ locs, free z.base) (hc : cells ≤ mc) (hs : slots ≤ ms) :
    vx_W p l e R s m args below meth c H locs cells slots (vx_MQ below Qc XC args s mc ms free) (F0 m pc ls rest) q := by
  intro T hT X
  obtain ⟨st1, hrun, hend, hW, hsm⟩ := X.leaveThrown q (g := F0 m pc ls rest) rfl rfl rfl hout hlocks
  have hcell9 : (T.setFrames (.throwing q :: below)).heap[q]? = some ce := by
    show T.heap[q]? = some ce
    rw [hT]; exact hcell
  exact ⟨_, st1, .threw q, hrun, hend, Or.inr ⟨q, rfl, E, ce, locs, hx _ hT hW.alike, hcell9, hv, hcl, hW, hsm.mono hc hs, hf⟩⟩
theorem vx_frame {U : State} {k n : Nat} (h : s.sameButNew ({ U with vm := s.vm } : State) locs k n) : s.heap.size ≤ U.heap.size ∧ ∀ q : Nat, q < s.heap.size → (∀ z ∈ locs, z.base ≠ q) → U.heap[q]? = s.heap[q]? := by
  obtain ⟨-, h2, -, -, -, h6⟩ := h
  refine ⟨h2, fun q hq hz => ?_⟩
  obtain ⟨c9, e1, e2, e3, e4⟩ := h6 q _ (Array.getElem?_eq_getElem hq)
  have hs : c9.slots = (s.heap[q]).slots := Array.ext_getElem? fun i => e4 i fun hm => hz _ hm rfl
  have h9 : c9 = s.heap[q] := by
    rw [hs] at e2
    exact e2
  have e5 : U.heap[q]? = some c9 := e1
  rw [e5, h9, Array.getElem?_eq_getElem hq]
/-- the words of a throw but the four that speak of the heap -/
def vx_no (w : Cond) : Bool := decide (w ≠ .isRef (.static Bundle.tN "UNASSIGNED_STACK" Bundle.steD)) && decide (w ≠ .isRef (.static Bundle.tN "SUPPRESSED_SENTINEL" Bundle.listD)) && decide (w ≠ .laysStatic Bundle.tN "UNASSIGNED_STACK" Bundle.steD) && decide (w ≠ .laysStatic Bundle.tN "SUPPRESSED_SENTINEL" Bundle.listD)
def vx_at0 (own : String) (ic : Nat) (X : String) (names : List String) : List Cond := (Bundle.ownAtoms0 own ic X names).filter vx_no
def vx_atS (own : String) (ic : Nat) (X : String) (names : List String) : List Cond := (Bundle.ownAtoms own ic X names).filter vx_no
/-- a word that the tables alone decide, or a good one -/
def vx_ot (w : Cond) : Bool := w.onTables || goodWord w
theorem vx_ot_at {args a' : Array Value} {s U : State} {w : Cond} (hW : s.WarmedH U.vm) (hvm : s.vm = U.vm) (hg : vx_ot w = true) (h : w.before args s = true) : w.before a' U = true := by
  simp only [vx_ot, Bool.or_eq_true] at hg
  rcases hg with hg | hg
  · exact va_tabs hg hvm h
  · exact word_at hW (good_of_word hg) h
/-- a list's words: the good ones out of the method's own list, the others by premises of their own -/
theorem vx_hat {args : Array Value} {s : State} {L B : List Cond} (h1 : ∀ w ∈ L.filter goodWord, w.before args s = true) (h2 : ∀ w ∈ L.filter (fun w => !goodWord w), w ∈ B) (h3 : ∀ w ∈ B, w.before args s = true) : ∀ w ∈ L, w.before args s = true := by
  intro w hw
  by_cases g : goodWord w = true
  · exact h1 w (List.mem_filter.mpr ⟨hw, g⟩)
  · refine h3 w (h2 w (List.mem_filter.mpr ⟨hw, ?_⟩))
    show (!goodWord w) = true
    cases hgw : goodWord w
    · rfl
    · exact absurd hgw g
theorem vx_c {args : Array Value} {s : State} {w : Cond} {B : List Cond} (h : w.before args s = true) (t : ∀ w ∈ B, w.before args s = true) : ∀ w' ∈ w :: B, w'.before args s = true := fun w' h' => (List.mem_cons.mp h').elim (fun e => by rw [e]; exact h) (t w')
theorem vx_n {args : Array Value} {s : State} : ∀ w ∈ ([] : List Cond), w.before args s = true := fun _ h => nomatch h
theorem vx_own {args : Array Value} {s : State} {L : List Cond} (h1 : ∀ w ∈ L.filter vx_no, w.before args s = true)
    (hU : (Cond.isRef (.static Bundle.tN "UNASSIGNED_STACK" Bundle.steD)).before args s = true) (hN : (Cond.isRef (.static Bundle.tN "SUPPRESSED_SENTINEL" Bundle.listD)).before args s = true)
    (lU : (Cond.laysStatic Bundle.tN "UNASSIGNED_STACK" Bundle.steD).before args s = true) (lN : (Cond.laysStatic Bundle.tN "SUPPRESSED_SENTINEL" Bundle.listD).before args s = true) : ∀ w ∈ L, w.before args s = true := by
  intro w hw
  by_cases e1 : w = .isRef (.static Bundle.tN "UNASSIGNED_STACK" Bundle.steD)
  · rw [e1]; exact hU
  · by_cases e2 : w = .isRef (.static Bundle.tN "SUPPRESSED_SENTINEL" Bundle.listD)
    · rw [e2]; exact hN
    · by_cases e3 : w = .laysStatic Bundle.tN "UNASSIGNED_STACK" Bundle.steD
      · rw [e3]; exact lU
      · by_cases e4 : w = .laysStatic Bundle.tN "SUPPRESSED_SENTINEL" Bundle.listD
        · rw [e4]; exact lN
        · exact h1 w (List.mem_filter.mpr ⟨hw, by unfold vx_no; rw [decide_eq_true e1, decide_eq_true e2, decide_eq_true e3, decide_eq_true e4]; rfl⟩)
/-- where a static field lies, its class's statics cell in H -/
def vx_L (C n d : String) (A : Nat → Prop) (U : State) (H : Heap) : Prop := ∃ (c : ClassId) (k : Class) (i : Nat) (f : Field) (a : Nat) (cell : Cell), U.vm.findClass C = some c ∧ U.fieldFound? C n d = some (c, k, i, f) ∧ f.isStatic = true ∧ k.statics = some a ∧ H[a]? = some cell ∧ cell.vm.isStatics = true ∧ cell.cls = c ∧ f.slot < cell.slots.size ∧ k.staticTypes[f.slot]? = some f.type ∧ ¬ A a
theorem vx_L.moved {C n d : String} {A : Nat → Prop} {u U : State} {H : Heap} (hvm : u.vm.Alike U.vm) (h : vx_L C n d A u H) : vx_L C n d A U H := by
  obtain ⟨c, k, i, f, a, cell, h1, h2, h3, h4, h5, h6, h7, h8, h9, h10⟩ := h
  obtain ⟨k', hi', he⟩ := State.fieldFound?_setVm hvm h2
  exact ⟨c, k', i, f, a, cell, by rw [hvm.findClass]; exact h1, hi', h3, by rw [he]; exact h4, h5, h6, h7, h8, by rw [he]; exact h9, h10⟩
theorem vx_L.kept {C n d : String} {A : Nat → Prop} {U : State} {H H1 : Heap} (h : vx_L C n d A U H) (hq : ∀ a : Nat, a < H.size → ¬ A a → H1[a]? = H[a]?) : vx_L C n d A U H1 := by
  obtain ⟨c, k, i, f, a, cell, h1, h2, h3, h4, h5, h6, h7, h8, h9, h10⟩ := h
  exact ⟨c, k, i, f, a, cell, h1, h2, h3, h4, by rw [hq a (Array.getElem?_eq_some_iff.mp h5).1 h10]; exact h5, h6, h7, h8, h9, h10⟩
theorem vx_L.narrow {C n d : String} {A B : Nat → Prop} {U : State} {H : Heap} (h : vx_L C n d A U H) (hAB : ∀ q, B q → A q) : vx_L C n d B U H := by
  obtain ⟨c, k, i, f, a, cell, h1, h2, h3, h4, h5, h6, h7, h8, h9, h10⟩ := h
  exact ⟨c, k, i, f, a, cell, h1, h2, h3, h4, h5, h6, h7, h8, h9, fun z => h10 (hAB _ z)⟩
theorem vx_L.word {C n d : String} {A : Nat → Prop} {s : State} {args : Array Value} (h : vx_L C n d A s s.heap) : (Cond.laysStatic C n d).before args s = true := by
  obtain ⟨c, k, i, f, a, cell, h1, h2, h3, h4, h5, h6, h7, h8, h9, -⟩ := h
  show (Cond.laysStatic C n d).holds args s none s [] = true
  exact Cond.laysStatic_of h1 h2 h3 h4 h5 h6 h7 h8 h9
/-- .. and what it holds: null or some reference -/
def vx_Zq (C n d : String) (A : Nat → Prop) (U : State) (H : Heap) : Prop := va_Zq C n d A U H ∧ vx_L C n d A U H
theorem vx_Zq.moved {C n d : String} {A : Nat → Prop} {u U : State} {H : Heap} (hvm : u.vm.Alike U.vm) (h : vx_Zq C n d A u H) : vx_Zq C n d A U H := ⟨va_Zq.moved hvm h.1, vx_L.moved hvm h.2⟩
theorem vx_Zq.kept {C n d : String} {A : Nat → Prop} {U : State} {H H1 : Heap} (h : vx_Zq C n d A U H) (hq : ∀ a : Nat, a < H.size → ¬ A a → H1[a]? = H[a]?) : vx_Zq C n d A U H1 := ⟨va_Zq.kept h.1 hq, vx_L.kept h.2 hq⟩
theorem vx_Zq.narrow {C n d : String} {A B : Nat → Prop} {U : State} {H : Heap} (h : vx_Zq C n d A U H) (hAB : ∀ q, B q → A q) : vx_Zq C n d B U H := ⟨va_Zq.narrow h.1 hAB, vx_L.narrow h.2 hAB⟩
theorem vx_Zqof {args : Array Value} {s : State} {C n d : String} {A : Nat → Prop} (hl : (Cond.laysStatic C n d).before args s = true) (hini : (Cond.initialized C).before args s = true) (h : (Cond.isRef (.static C n d)).before args s = true) (hA : ∀ a : Nat, a < s.heap.size → ¬ A a) : vx_Zq C n d A s s.heap := by
  refine ⟨va_Zqof hl hini h hA, ?_⟩
  obtain ⟨c, k, i, f, a, cell, h1, h2, h3, h4, h5, h6, h7, h8, h9⟩ := Cond.laysStatic_spec hl
  exact ⟨c, k, i, f, a, cell, h1, h2, h3, h4, h5, h6, h7, h8, h9, hA a (Array.getElem?_eq_some_iff.mp h5).1⟩
theorem vx_isRef {C n d : String} {v : Value} {A : Nat → Prop} {s : State} {args : Array Value} (h : va_Z C n d v A s s.heap) (hv : v.isRef = true) : (Cond.isRef (.static C n d)).before args s = true := by
  obtain ⟨cf, kf, fi, f, a, cell, h1, h2, h3, h4, h5, h6, h7, -⟩ := h
  have he : (Term.static C n d).eval args s none [] s = some v := by
    simp [Term.eval, State.fieldNamed?, h1, h2, h4, h5, h6, h7]
  simp only [Cond.before, Cond.holds, Cond.value, he]
  cases v <;> simp_all [Value.isRef]
theorem vx_isRefq {C n d : String} {A : Nat → Prop} {s : State} {args : Array Value} (h : va_Zq C n d A s s.heap) : (Cond.isRef (.static C n d)).before args s = true := by
  rcases h with h | ⟨t, h⟩
  · exact vx_isRef h rfl
  · exact vx_isRef h rfl
/-- the same frame, seen from here: as if the method were called anew in this heap -/
theorem vx_rebase {T : State} (X : Stand p l e R s m args below meth c T locs cells slots) {R' : Room} (hf : R'.frames ≤ R.frames) (hl : R'.locals ≤ R.locals) (hc : cells + R'.cells ≤ R.cells) (hs : slots + R'.slots ≤ R.slots) :
    Stand p l e R' ((T.setVm s.vm).setFrames (.invoking m args :: below)) m args below meth c T [] 0 0 := by
  have htop : (T.setVm s.vm).topJava?.isSome := X.here.top
  have hF : ((T.setVm s.vm).setFrames (.invoking m args :: below)).frames = .invoking m args :: below := State.frames_setFrames _ (State.cur_lt_of_top htop)
  obtain ⟨g₀, hg0⟩ := Option.isSome_iff_exists.mp htop
  obtain ⟨r, hr⟩ := State.topJava?_eq_some.mp hg0
  have hl9 : e.platform.stackLimits (T.setVm s.vm).me = e.platform.stackLimits s.me := X.limits
  have hb9 : (T.setVm s.vm).me.stackBytes = s.me.stackBytes := X.bytes
  refine ⟨X.admits, X.cas, X.clock, hF, ?_, X.hears, X.method, X.code, X.here, X.tail, X.warmed, ?_, ?_, ?_⟩
  · have h := X.room
    have hU : ((T.setVm s.vm).setFrames (.invoking m args :: below)).localsInUse = s.localsInUse := by
      rw [State.localsInUse_invoking hF (meth := meth) (c := c) X.method X.code, State.localsInUse_invoking X.frames X.method X.code]
    simp only [State.hasRoom, Bool.and_eq_true, decide_eq_true_eq] at h ⊢
    obtain ⟨⟨⟨⟨h1, h2, h3, h4, h5, h6⟩, h7⟩, h8⟩, h9⟩ := h
    rw [X.frames, List.length_cons] at h2 h3
    have q1 := X.heapSize
    have q2 := X.used
    simp only [hF, hU, List.length_cons, State.stackLimits_setFrames, State.stackBytes_setFrames, hl9, hb9]
    refine ⟨⟨⟨⟨by omega, by omega, by omega, by omega, by omega, h6⟩, ?_⟩, ?_⟩, X.book⟩
    · show T.heap.size + R'.cells ≤ e.platform.maxCells
      omega
    · show T.slotsUsed + R'.slots ≤ e.platform.maxSlots
      omega
  · rw [State.stackLimits_setFrames]; rfl
  · rw [State.stackBytes_setFrames]; rfl
  · refine ⟨?_, Nat.le_refl _, Nat.le_refl _, ?_, ?_, fun a c9 h9 => ⟨c9, h9, rfl, rfl, fun _ _ => rfl⟩⟩
    · obtain ⟨t, ht, -⟩ := State.frames_cons hr
      show T.setVm s.vm = { ((T.setVm s.vm).setFrames (.invoking m args :: below)).setFrames (T.setVm s.vm).frames with heap := T.heap, slotsUsed := T.slotsUsed }
      rw [State.setFrames_setFrames, State.setFrames_self ht]
      rfl
    · show T.slotsUsed = T.slotsUsed + ((T.heap.toList.drop T.heap.size).map (·.slots.size)).sum
      rw [List.drop_eq_nil_of_le (Nat.le_of_eq Array.length_toList)]
      rfl
    · show ((T.heap.toList.drop T.heap.size).map (·.slots.size)).sum ≤ 0
      rw [List.drop_eq_nil_of_le (Nat.le_of_eq Array.length_toList)]
      exact Nat.le_refl _
/-- 'throw new E()': new; dup; invokespecial; athrow -/
theorem vx_throw0 {cc : ByteArray} {pc : Nat} (hexec : p.tables.exec = Jvm.exec) (hb : c.code = cc) (hl : l.stackTraces = false) {own cls : String} {names : List String} {ik ic mc ms : Nat} {A : Nat → Prop}
    (hown : s.vm.findClass own = some m.cls) (hcls : Bundle.fit cls = true) (hnames : ∀ n ∈ names, Bundle.fit n = true)
    (hk : (Cond.classLink own ik cls).before args s = true) (hini : (Cond.initialized cls).before args s = true) (hat : ∀ w ∈ vx_at0 own ic cls names, w.before args s = true)
    (hgood : ∀ w ∈ Cond.classLink own ik cls :: Cond.initialized cls :: vx_at0 own ic cls names, vx_ot w = true)
    (hU : vx_Zq Bundle.tN "UNASSIGNED_STACK" Bundle.steD A s s.heap) (hN : vx_Zq Bundle.tN "SUPPRESSED_SENTINEL" Bundle.listD A s s.heap) (hS : va_S A s.heap H locs) (hsize : ls.size = c.maxLocals)
    (d0 : decode cc pc = .ok (.new ik, 3)) (d3 : decode cc (pc + 3) = .ok (.dup, 1)) (d4 : decode cc (pc + 4) = .ok (.invokespecial ic, 3)) (d7 : decode cc (pc + 7) = .ok (.athrow, 1))
    (hout : ∀ x ∈ c.exceptionTable.toList, covers x (pc + 7) = false)
    (hRframes : names.length + 3 < R.frames) (hRlocals : (rest.map fun v => v.category).sum + (13 * (names.length + 1) + 42) ≤ R.locals) (hRcells : cells + 1 ≤ R.cells) (hRslots : slots + 6 ≤ R.slots) (hlocks : meth.locks = false)
    (hx : ∀ t : State, s.vm.Alike t.vm → H.size ≤ t.heap.size → (∀ q : Nat, q < H.size → t.heap[q]? = H[q]?) → XC cls s t)
    (hf : ∀ z ∈ locs, free z.base) (hc : cells + 1 ≤ mc) (hs : slots + 6 ≤ ms) :
    W p l e R s m args below meth c H locs cells slots (vx_MQ below Qc XC args s mc ms free) (F0 m pc ls rest) := by
  intro T hT X
  have htr : e.platform.stackTraces = false := (show e.platform.stackTraces = l.stackTraces by rw [X.admits.platform]).trans hl
  have Y := vx_rebase X (R' := { frames := R.frames, locals := R.locals, cells := 1, slots := 6 }) (Nat.le_refl _) (Nat.le_refl _) hRcells hRslots
  obtain ⟨s', hA⟩ : ∃ z, z = (T.setVm s.vm).setFrames (.invoking m args :: below) := ⟨_, rfl⟩
  rw [← hA] at Y
  have hvm : s'.vm = s.vm := by rw [hA]; rfl
  have hhp : s'.heap = H := by rw [hA]; exact hT
  have hW0 : s.WarmedH s'.vm := by rw [hvm]; exact State.WarmedH.refl s
  have hat' : ∀ w ∈ vx_at0 own ic cls names, w.before args s' = true := fun w hw => vx_ot_at hW0 hvm.symm (hgood w (List.mem_cons_of_mem _ (List.mem_cons_of_mem _ hw))) (hat w hw)
  have hk' : (Cond.classLink own ik cls).before args s' = true := vx_ot_at hW0 hvm.symm (hgood _ List.mem_cons_self) hk
  have hini' : (Cond.initialized cls).before args s' = true := vx_ot_at hW0 hvm.symm (hgood _ (List.mem_cons_of_mem _ List.mem_cons_self)) hini
  have hU' : vx_Zq Bundle.tN "UNASSIGNED_STACK" Bundle.steD A s' s'.heap := by rw [hhp]; exact vx_Zq.moved hW0.alike (hU.kept hS.2.1)
  have hN' : vx_Zq Bundle.tN "SUPPRESSED_SENTINEL" Bundle.listD A s' s'.heap := by rw [hhp]; exact vx_Zq.moved hW0.alike (hN.kept hS.2.1)
  have h : ∀ w ∈ Bundle.ownAtoms0 own ic cls names, w.before args s' = true := vx_own hat' (vx_isRefq hU'.1) (vx_isRefq hN'.1) hU'.2.word hN'.2.word
  have hown' : s'.vm.findClass own = some m.cls := by rw [hvm]; exact hown
  have hins : (Cond.instantiable cls 6).before args s' = true := h _ (by simp [Bundle.ownAtoms0])
  obtain ⟨vm₁, cX, kX, hfX, hkX, -, -, X₁, st1⟩ := Y.newCold hexec (own := own) (C := cls) (index := ik) (n := 6) hown' hk' hins hini'
    (g := F0 m pc ls rest) rfl (by rw [hb]; exact d0) (Nat.le_refl _) (Nat.le_refl _)
  generalize hT1 : (T.setVm vm₁).pushCell { cls := cX, slots := kX.instanceTypes.map defaultValue, vm := .none } = T1 at X₁ st1
  have hcat : (Value.ref T.heap.size).category = 1 := rfl
  have hcellA : T1.heap[T.heap.size]? = some (freshCell cX kX) := by rw [← hT1]; exact State.heap_pushCell_size _ _
  have d3' : decode c.code (pc + 3) = .ok (.dup, 1) := by rw [hb]; exact d3
  obtain ⟨U, hsteps, hrun, hend, hW, hsame, ce, hce, hO⟩ := X₁.ctorThrow0 hexec htr (own := own) (cls := cls) (names := names) (ic := ic) hown' hcls hnames h (fun x hx => nomatch hx) hfX hkX hcellA (by rw [hhp, hT]; exact Nat.le_refl _)
    (g := { method := m, pc := pc + 4, locals := ls, stack := .ref T.heap.size :: .ref T.heap.size :: rest, locked := none }) rfl hsize rfl rfl (rest := rest) rfl
    (by rw [hb]; exact d4) (by rw [hb]; exact d7) hout hRframes (by simp only [List.map_cons, List.sum_cons, hcat]; omega) hlocks
  obtain ⟨f1, f2⟩ := vx_frame hsame
  rw [hhp] at f1 f2
  have hWs : s.WarmedH U.vm := State.WarmedH.trans hW0 hW
  have hcl : s.vm.findClass cls = some ce.cls := by
    have h9 := hO.cls
    rw [hvm] at h9
    exact h9
  have hall : s.sameButNew ({ U with vm := s.vm } : State) locs mc ms := by
    subst hA
    obtain ⟨e1, e2⟩ := hsame
    rw [State.setFrames_setFrames] at e1
    have h2 : (T.setVm s.vm).sameButNew ({ U with vm := s.vm } : State) [] (0 + 1) (0 + 6) := ⟨e1, e2⟩
    have h3 := X.same.trans h2
    rw [List.append_nil] at h3
    exact h3.mono hc hs
  refine ⟨U, ?_, .threw T.heap.size, hrun, hend, Or.inr ⟨T.heap.size, rfl, cls, ce, locs, hx U hWs.alike f1 (fun q hq => f2 q hq (fun z hz => nomatch hz)), hce, hO.vm, hcl, hWs, hall, hf⟩⟩
  refine st1 _ ?_
  show Steps p.tables e below (T1.setTop { method := m, pc := pc + 3, locals := ls, stack := .ref T.heap.size :: rest, locked := none }) _
  jvm_step X₁.here [X₁.here.top, hexec, d3', Value.category]
  exact hsteps
/-- 'throw new E("text")': new; dup; ldc; invokespecial; athrow -/
theorem vx_throwS {cc : ByteArray} {pc : Nat} (hexec : p.tables.exec = Jvm.exec) (hb : c.code = cc) (hl : l.stackTraces = false) {own cls text : String} {names : List String} {ik is ic mc ms sa : Nat} {A : Nat → Prop}
    (hown : s.vm.findClass own = some m.cls) (hcls : Bundle.fit cls = true) (hnames : ∀ n ∈ names, Bundle.fit n = true)
    (hk : (Cond.classLink own ik cls).before args s = true) (hini : (Cond.initialized cls).before args s = true) (hstr : vk_R own is text sa s) (hat : ∀ w ∈ vx_atS own ic cls names, w.before args s = true)
    (hgood : ∀ w ∈ Cond.classLink own ik cls :: Cond.initialized cls :: vx_atS own ic cls names, vx_ot w = true)
    (hU : vx_Zq Bundle.tN "UNASSIGNED_STACK" Bundle.steD A s s.heap) (hN : vx_Zq Bundle.tN "SUPPRESSED_SENTINEL" Bundle.listD A s s.heap) (hS : va_S A s.heap H locs) (hsize : ls.size = c.maxLocals)
    (d0 : decode cc pc = .ok (.new ik, 3)) (d3 : decode cc (pc + 3) = .ok (.dup, 1)) (d4 : decode cc (pc + 4) = .ok (.ldc is, 2)) (d6 : decode cc (pc + 6) = .ok (.invokespecial ic, 3)) (d9 : decode cc (pc + 9) = .ok (.athrow, 1))
    (hout : ∀ x ∈ c.exceptionTable.toList, covers x (pc + 9) = false)
    (hRframes : names.length + 3 < R.frames) (hRlocals : (rest.map fun v => v.category).sum + (13 * (names.length + 1) + 43) ≤ R.locals) (hRcells : cells + 1 ≤ R.cells) (hRslots : slots + 6 ≤ R.slots) (hlocks : meth.locks = false)
    (hx : ∀ t : State, s.vm.Alike t.vm → H.size ≤ t.heap.size → (∀ q : Nat, q < H.size → t.heap[q]? = H[q]?) → XC cls s t)
    (hf : ∀ z ∈ locs, free z.base) (hc : cells + 1 ≤ mc) (hs : slots + 6 ≤ ms) :
    W p l e R s m args below meth c H locs cells slots (vx_MQ below Qc XC args s mc ms free) (F0 m pc ls rest) := by
  intro T hT X
  have htr : e.platform.stackTraces = false := (show e.platform.stackTraces = l.stackTraces by rw [X.admits.platform]).trans hl
  have Y := vx_rebase X (R' := { frames := R.frames, locals := R.locals, cells := 1, slots := 6 }) (Nat.le_refl _) (Nat.le_refl _) hRcells hRslots
  obtain ⟨s', hA⟩ : ∃ z, z = (T.setVm s.vm).setFrames (.invoking m args :: below) := ⟨_, rfl⟩
  rw [← hA] at Y
  have hvm : s'.vm = s.vm := by rw [hA]; rfl
  have hhp : s'.heap = H := by rw [hA]; exact hT
  have hW0 : s.WarmedH s'.vm := by rw [hvm]; exact State.WarmedH.refl s
  have hat' : ∀ w ∈ vx_atS own ic cls names, w.before args s' = true := fun w hw => vx_ot_at hW0 hvm.symm (hgood w (List.mem_cons_of_mem _ (List.mem_cons_of_mem _ hw))) (hat w hw)
  have hk' : (Cond.classLink own ik cls).before args s' = true := vx_ot_at hW0 hvm.symm (hgood _ List.mem_cons_self) hk
  have hini' : (Cond.initialized cls).before args s' = true := vx_ot_at hW0 hvm.symm (hgood _ (List.mem_cons_of_mem _ List.mem_cons_self)) hini
  have hU' : vx_Zq Bundle.tN "UNASSIGNED_STACK" Bundle.steD A s' s'.heap := by rw [hhp]; exact vx_Zq.moved hW0.alike (hU.kept hS.2.1)
  have hN' : vx_Zq Bundle.tN "SUPPRESSED_SENTINEL" Bundle.listD A s' s'.heap := by rw [hhp]; exact vx_Zq.moved hW0.alike (hN.kept hS.2.1)
  have h : ∀ w ∈ Bundle.ownAtoms own ic cls names, w.before args s' = true := vx_own hat' (vx_isRefq hU'.1) (vx_isRefq hN'.1) hU'.2.word hN'.2.word
  have hown' : s'.vm.findClass own = some m.cls := by rw [hvm]; exact hown
  have hins : (Cond.instantiable cls 6).before args s' = true := h _ (by simp [Bundle.ownAtoms])
  obtain ⟨vm₁, cX, kX, hfX, hkX, -, -, X₁, st1⟩ := Y.newCold hexec (own := own) (C := cls) (index := ik) (n := 6) hown' hk' hins hini'
    (g := F0 m pc ls rest) rfl (by rw [hb]; exact d0) (Nat.le_refl _) (Nat.le_refl _)
  generalize hT1 : (T.setVm vm₁).pushCell { cls := cX, slots := kX.instanceTypes.map defaultValue, vm := .none } = T1 at X₁ st1
  have hcat : (Value.ref T.heap.size).category = 1 := rfl
  have hcellA : T1.heap[T.heap.size]? = some (freshCell cX kX) := by rw [← hT1]; exact State.heap_pushCell_size _ _
  have d3' : decode c.code (pc + 3) = .ok (.dup, 1) := by rw [hb]; exact d3
  have d4' : decode c.code (pc + 4) = .ok (.ldc is, 2) := by rw [hb]; exact d4
  have hstr' : vk_R own is text sa s' := vk_R.warm hW0 hstr
  obtain ⟨U, hsteps, hrun, hend, hW, hsame, ce, hce, hO⟩ := X₁.ctorThrowS hexec htr (own := own) (cls := cls) (names := names) (ic := ic) hown' hcls hnames h (fun x hx => nomatch hx) hfX hkX hcellA (by rw [hhp, hT]; exact Nat.le_refl _) (msg := .ref sa) rfl
    (g := { method := m, pc := pc + 6, locals := ls, stack := .ref sa :: .ref T.heap.size :: .ref T.heap.size :: rest, locked := none }) rfl hsize rfl rfl (rest := rest) rfl
    (by rw [hb]; exact d6) (by rw [hb]; exact d9) hout hRframes (by simp only [List.map_cons, List.sum_cons, hcat]; omega) hlocks
  obtain ⟨f1, f2⟩ := vx_frame hsame
  rw [hhp] at f1 f2
  have hWs : s.WarmedH U.vm := State.WarmedH.trans hW0 hW
  have hcl : s.vm.findClass cls = some ce.cls := by
    have h9 := hO.cls
    rw [hvm] at h9
    exact h9
  have hall : s.sameButNew ({ U with vm := s.vm } : State) locs mc ms := by
    subst hA
    obtain ⟨e1, e2⟩ := hsame
    rw [State.setFrames_setFrames] at e1
    have h2 : (T.setVm s.vm).sameButNew ({ U with vm := s.vm } : State) [] (0 + 1) (0 + 6) := ⟨e1, e2⟩
    have h3 := X.same.trans h2
    rw [List.append_nil] at h3
    exact h3.mono hc hs
  refine ⟨U, ?_, .threw T.heap.size, hrun, hend, Or.inr ⟨T.heap.size, rfl, cls, ce, locs, hx U hWs.alike f1 (fun q hq => f2 q hq (fun z hz => nomatch hz)), hce, hO.vm, hcl, hWs, hall, hf⟩⟩
  refine st1 _ ?_
  show Steps p.tables e below (T1.setTop { method := m, pc := pc + 3, locals := ls, stack := .ref T.heap.size :: rest, locked := none }) _
  jvm_step X₁.here [X₁.here.top, hexec, d3', Value.category]
  exact X₁.ldcString hexec (own := own) (text := text) (index := is) (a := sa) hown' hstr'.1 hstr'.2
    (g := { method := m, pc := pc + 4, locals := ls, stack := .ref T.heap.size :: .ref T.heap.size :: rest, locked := none }) rfl d4' _ hsteps
/-- 'throw new E("text")', the text by a wide index -/
theorem vx_throwSW {cc : ByteArray} {pc : Nat} (hexec : p.tables.exec = Jvm.exec) (hb : c.code = cc) (hl : l.stackTraces = false) {own cls text : String} {names : List String} {ik is ic mc ms sa : Nat} {A : Nat → Prop}
    (hown : s.vm.findClass own = some m.cls) (hcls : Bundle.fit cls = true) (hnames : ∀ n ∈ names, Bundle.fit n = true)
    (hk : (Cond.classLink own ik cls).before args s = true) (hini : (Cond.initialized cls).before args s = true) (hstr : vk_R own is text sa s) (hat : ∀ w ∈ vx_atS own ic cls names, w.before args s = true)
    (hgood : ∀ w ∈ Cond.classLink own ik cls :: Cond.initialized cls :: vx_atS own ic cls names, vx_ot w = true)
    (hU : vx_Zq Bundle.tN "UNASSIGNED_STACK" Bundle.steD A s s.heap) (hN : vx_Zq Bundle.tN "SUPPRESSED_SENTINEL" Bundle.listD A s s.heap) (hS : va_S A s.heap H locs) (hsize : ls.size = c.maxLocals)
    (d0 : decode cc pc = .ok (.new ik, 3)) (d3 : decode cc (pc + 3) = .ok (.dup, 1)) (d4 : decode cc (pc + 4) = .ok (.ldc_w is, 3)) (d7 : decode cc (pc + 7) = .ok (.invokespecial ic, 3)) (d10 : decode cc (pc + 10) = .ok (.athrow, 1))
    (hout : ∀ x ∈ c.exceptionTable.toList, covers x (pc + 10) = false)
    (hRframes : names.length + 3 < R.frames) (hRlocals : (rest.map fun v => v.category).sum + (13 * (names.length + 1) + 43) ≤ R.locals) (hRcells : cells + 1 ≤ R.cells) (hRslots : slots + 6 ≤ R.slots) (hlocks : meth.locks = false)
    (hx : ∀ t : State, s.vm.Alike t.vm → H.size ≤ t.heap.size → (∀ q : Nat, q < H.size → t.heap[q]? = H[q]?) → XC cls s t)
    (hf : ∀ z ∈ locs, free z.base) (hc : cells + 1 ≤ mc) (hs : slots + 6 ≤ ms) :
    W p l e R s m args below meth c H locs cells slots (vx_MQ below Qc XC args s mc ms free) (F0 m pc ls rest) := by
  intro T hT X
  have htr : e.platform.stackTraces = false := (show e.platform.stackTraces = l.stackTraces by rw [X.admits.platform]).trans hl
  have Y := vx_rebase X (R' := { frames := R.frames, locals := R.locals, cells := 1, slots := 6 }) (Nat.le_refl _) (Nat.le_refl _) hRcells hRslots
  obtain ⟨s', hA⟩ : ∃ z, z = (T.setVm s.vm).setFrames (.invoking m args :: below) := ⟨_, rfl⟩
  rw [← hA] at Y
  have hvm : s'.vm = s.vm := by rw [hA]; rfl
  have hhp : s'.heap = H := by rw [hA]; exact hT
  have hW0 : s.WarmedH s'.vm := by rw [hvm]; exact State.WarmedH.refl s
  have hat' : ∀ w ∈ vx_atS own ic cls names, w.before args s' = true := fun w hw => vx_ot_at hW0 hvm.symm (hgood w (List.mem_cons_of_mem _ (List.mem_cons_of_mem _ hw))) (hat w hw)
  have hk' : (Cond.classLink own ik cls).before args s' = true := vx_ot_at hW0 hvm.symm (hgood _ List.mem_cons_self) hk
  have hini' : (Cond.initialized cls).before args s' = true := vx_ot_at hW0 hvm.symm (hgood _ (List.mem_cons_of_mem _ List.mem_cons_self)) hini
  have hU' : vx_Zq Bundle.tN "UNASSIGNED_STACK" Bundle.steD A s' s'.heap := by rw [hhp]; exact vx_Zq.moved hW0.alike (hU.kept hS.2.1)
  have hN' : vx_Zq Bundle.tN "SUPPRESSED_SENTINEL" Bundle.listD A s' s'.heap := by rw [hhp]; exact vx_Zq.moved hW0.alike (hN.kept hS.2.1)
  have h : ∀ w ∈ Bundle.ownAtoms own ic cls names, w.before args s' = true := vx_own hat' (vx_isRefq hU'.1) (vx_isRefq hN'.1) hU'.2.word hN'.2.word
  have hown' : s'.vm.findClass own = some m.cls := by rw [hvm]; exact hown
  have hins : (Cond.instantiable cls 6).before args s' = true := h _ (by simp [Bundle.ownAtoms])
  obtain ⟨vm₁, cX, kX, hfX, hkX, -, -, X₁, st1⟩ := Y.newCold hexec (own := own) (C := cls) (index := ik) (n := 6) hown' hk' hins hini'
    (g := F0 m pc ls rest) rfl (by rw [hb]; exact d0) (Nat.le_refl _) (Nat.le_refl _)
  generalize hT1 : (T.setVm vm₁).pushCell { cls := cX, slots := kX.instanceTypes.map defaultValue, vm := .none } = T1 at X₁ st1
  have hcat : (Value.ref T.heap.size).category = 1 := rfl
  have hcellA : T1.heap[T.heap.size]? = some (freshCell cX kX) := by rw [← hT1]; exact State.heap_pushCell_size _ _
  have d3' : decode c.code (pc + 3) = .ok (.dup, 1) := by rw [hb]; exact d3
  have d4' : decode c.code (pc + 4) = .ok (.ldc_w is, 3) := by rw [hb]; exact d4
  have hstr' : vk_R own is text sa s' := vk_R.warm hW0 hstr
  obtain ⟨U, hsteps, hrun, hend, hW, hsame, ce, hce, hO⟩ := X₁.ctorThrowS hexec htr (own := own) (cls := cls) (names := names) (ic := ic) hown' hcls hnames h (fun x hx => nomatch hx) hfX hkX hcellA (by rw [hhp, hT]; exact Nat.le_refl _) (msg := .ref sa) rfl
    (g := { method := m, pc := pc + 7, locals := ls, stack := .ref sa :: .ref T.heap.size :: .ref T.heap.size :: rest, locked := none }) rfl hsize rfl rfl (rest := rest) rfl
    (by rw [hb]; exact d7) (by rw [hb]; exact d10) hout hRframes (by simp only [List.map_cons, List.sum_cons, hcat]; omega) hlocks
  obtain ⟨f1, f2⟩ := vx_frame hsame
  rw [hhp] at f1 f2
  have hWs : s.WarmedH U.vm := State.WarmedH.trans hW0 hW
  have hcl : s.vm.findClass cls = some ce.cls := by
    have h9 := hO.cls
    rw [hvm] at h9
    exact h9
  have hall : s.sameButNew ({ U with vm := s.vm } : State) locs mc ms := by
    subst hA
    obtain ⟨e1, e2⟩ := hsame
    rw [State.setFrames_setFrames] at e1
    have h2 : (T.setVm s.vm).sameButNew ({ U with vm := s.vm } : State) [] (0 + 1) (0 + 6) := ⟨e1, e2⟩
    have h3 := X.same.trans h2
    rw [List.append_nil] at h3
    exact h3.mono hc hs
  refine ⟨U, ?_, .threw T.heap.size, hrun, hend, Or.inr ⟨T.heap.size, rfl, cls, ce, locs, hx U hWs.alike f1 (fun q hq => f2 q hq (fun z hz => nomatch hz)), hce, hO.vm, hcl, hWs, hall, hf⟩⟩
  refine st1 _ ?_
  show Steps p.tables e below (T1.setTop { method := m, pc := pc + 3, locals := ls, stack := .ref T.heap.size :: rest, locked := none }) _
  jvm_step X₁.here [X₁.here.top, hexec, d3', Value.category]
  exact X₁.ldcStringW hexec (own := own) (text := text) (index := is) (a := sa) hown' hstr'.1 hstr'.2
    (g := { method := m, pc := pc + 4, locals := ls, stack := .ref T.heap.size :: .ref T.heap.size :: rest, locked := none }) rfl d4' _ hsteps
end Ends
section Bodies
variable {l : Launch}
theorem vx_ofW {y : MethodName} {ws ws' : List Cond} {rm : Room} {Pc : Array Value → State → Prop} {Qc : Array Value → State → Outcome → State → Prop} {XC : String → State → State → Prop} {mc ms : Nat} {free : Addr → Prop} {cc : ByteArray} {maxL : Nat} {ret : Option FieldType}
    (hy : plainName y.cls = true) (hw : ws = Cond.code y cc maxL ret :: ws')
    (body : ∀ p e s m args below meth c s₁, BodyLoose p l y (headSpec ws rm) cc maxL ret e s m args below meth c s₁ → c.maxLocals = maxL → (∀ x ∈ c.exceptionTable.toList, False) → Pc args s →
      W p l e (headSpec ws rm).room s m args below meth c s.heap [] 0 0 (vx_MQ below Qc XC args s mc ms free) (entryFrame m args maxL)) : vx_Met l y ws rm Pc Qc XC mc ms free := by
  refine MetFree.of_bodyS (code := cc) (maxLocals := maxL) (ret := ret) hy ?_ ?_
  · intro args s m h hn
    obtain ⟨meth, c, h1, h2, h3, h4, h5, h6, -, -⟩ := Cond.code_spec hn (atoms_spec (ws := ws) h _ (by rw [hw]; exact List.mem_cons_self))
    exact ⟨meth, c, h1, h2, h3, h4, h5, h6⟩
  · intro p e s m args below meth c s₁ B hml hP _
    have hh0 : s₁.heap = s.heap := by rw [B.state]; rfl
    have ht : ∀ x ∈ c.exceptionTable.toList, False := by
      obtain ⟨meth9, c9, h1, h2, -, -, -, -, h7, -⟩ := Cond.code_spec B.named (atoms_spec (ws := ws) B.pre _ (by rw [hw]; exact List.mem_cons_self))
      cases Option.some.inj (h1.symm.trans B.method)
      cases Option.some.inj (h2.symm.trans (Stand.of_body B).code)
      intro x hx
      rw [Array.isEmpty_iff.mp h7] at hx
      cases hx
    obtain ⟨t, a1, o, b1, b2, b3⟩ := body p e s m args below meth c s₁ B hml ht hP s₁ hh0 (Stand.of_body B)
    exact ⟨t, o, a1, b1, b2, b3⟩
/-- the table of a body with handlers -/
theorem vx_table {p : Program} {x y : MethodName} {S : Spec} {cc bytes : ByteArray} {maxL maxL' : Nat} {ret ret' : Option FieldType} {e : Env} {s s₁ : State} {m : MethodId} {args : Array Value} {below : List Frame} {meth : Method} {c : Code} {hh : List (Nat × Nat × Nat × Nat)}
    (B : BodyLoose p l y S cc maxL ret e s m args below meth c s₁) (h : (Cond.codeWith y bytes maxL' ret' hh).before args s = true) : c.exceptionTable.toList = tableOf hh := by
  obtain ⟨m9, meth9, c9, hn9, h1, h2, -, -, h6, -⟩ := Cond.codeWith_spec h
  cases Option.some.inj (hn9.symm.trans B.named)
  cases Option.some.inj (h1.symm.trans B.method)
  cases Option.some.inj (h2.symm.trans (Stand.of_body B).code)
  rw [← h6, table_eq]
end Bodies
end VXA
section VXS
variable {p : Program} {l : Launch} {e : Env} {R : Room} {s : State} {m : MethodId} {args : Array Value} {below : List Frame} {meth : Method} {c : Code} {T : State} {H : Heap} {locs : List Loc} {cells slots : Nat}
abbrev vx_CSW (R : Room) (s : State) (args : Array Value) (own : String) (index : Nat) (y : MethodName) (bytes : ByteArray) (maxL : Nat) (ret : Option FieldType) (hh : List (Nat × Nat × Nat × Nat)) (ws : List Cond) (rm : Room) (mc ms n : Nat) : Prop :=
  (rm.cells = mc ∧ rm.slots = ms ∧ rm.frames + 1 ≤ R.frames ∧ 8 + (maxL + 11) + rm.locals ≤ R.locals ∧ (∀ w ∈ ws, ∀ (a' : Array Value) (U : State), s.WarmedH U.vm → w.before a' U = true) ∧ Cond.codeWith y bytes maxL ret hh ∈ ws) ∧
  (Cond.codeWith y bytes maxL ret hh).before args s = true ∧ (Cond.initialized y.cls).before args s = true ∧ (y.cls ≠ "java/lang/invoke/MethodHandle" ∧ y.cls ≠ "java/lang/invoke/VarHandle") ∧
  (∀ sig, parseMethodDescriptor y.desc = some sig → n = sig.parameters.length) ∧ (Cond.methodLink own index y).before args s = true ∧ (Cond.static y).before args s = true
theorem vx_cwSW {own : String} {index maxL mc ms : Nat} {y : MethodName} {bytes : ByteArray} {ret : Option FieldType} {hh : List (Nat × Nat × Nat × Nat)} {Ts ws ws' : List Cond} {rm : Room} (n : Nat) (ht : ∀ w ∈ Ts, w.before args s = true) (hT : GoodIn Ts (va_wsS own index y ws)) (hw : ws = Cond.codeWith y bytes maxL ret hh :: ws') (hrc : rm.cells = mc) (hrs : rm.slots = ms)
    (hd : y.cls ≠ "java/lang/invoke/MethodHandle" ∧ y.cls ≠ "java/lang/invoke/VarHandle" ∧ (parseMethodDescriptor y.desc).map (fun d => d.parameters.length) = some n) (hR : rm.frames + 1 ≤ R.frames ∧ 8 + (maxL + 11) + rm.locals ≤ R.locals) :
    vx_CSW R s args own index y bytes maxL ret hh ws rm mc ms n := by
  have ok : ∀ w ∈ va_wsS own index y ws, w.before args s = true := fun w h => ht w (hT w h).1
  have hG : GoodIn Ts ws := fun w h => hT w (by unfold va_wsS; exact List.mem_append_right _ h)
  have hc : Cond.codeWith y bytes maxL ret hh ∈ ws := by rw [hw]; exact List.mem_cons_self
  refine ⟨⟨hrc, hrs, hR.1, hR.2, pay_in ht hG, hc⟩, ht _ (hG _ hc).1, ok _ (by simp [va_wsS]), ⟨hd.1, hd.2.1⟩, fun sig h => ?_, ok _ (by simp [va_wsS]), ok _ (by simp [va_wsS])⟩
  have h2 := hd.2.2
  rw [h] at h2
  exact (Option.some.inj h2).symm
theorem vx_callSW (X : Stand p l e R s m args below meth c T locs cells slots) (hexec : p.tables.exec = Jvm.exec) {own : String} {index : Nat} {y : MethodName} {bytes : ByteArray} {maxL : Nat} {ret : Option FieldType} {hh : List (Nat × Nat × Nat × Nat)}
    (hown : s.vm.findClass own = some m.cls) (hlink : (Cond.methodLink own index y).before args s = true) (hstat : (Cond.static y).before args s = true) (hinit : (Cond.initialized y.cls).before args s = true)
    (hcode : (Cond.codeWith y bytes maxL ret hh).before args s = true) (hy : y.cls ≠ "java/lang/invoke/MethodHandle" ∧ y.cls ≠ "java/lang/invoke/VarHandle")
    {W9 : Nat} {Pre : Pt → Array Value → Prop} {Post : Pt → Array Value → Option Value → Pt → Prop} (hK : Back l R p e below s args y 3 W9 Pre Post)
    {g : JFrame} (hg : g.method = m) (hsize : g.locals.size = c.maxLocals) {argsL rest : List Value} (hlen : ∀ sig, parseMethodDescriptor y.desc = some sig → argsL.length = sig.parameters.length)
    (hstack : g.stack = argsL.reverse ++ rest) (hW : 2 * g.monitorRoom + (rest.map fun v => v.category).sum ≤ W9) (hdg : decode c.code g.pc = .ok (.invokestatic index, 3))
    (hpre : ∀ vm₁, s.WarmedH vm₁ → Pre ⟨T.setVm vm₁, locs, cells, slots⟩ argsL.toArray) :
    ∃ (v : Option Value) (vm₁ : Vm) (B : Pt), s.WarmedH vm₁ ∧ Stand p l e R s m args below meth c B.U B.locs B.cells B.slots ∧ Post ⟨T.setVm vm₁, locs, cells, slots⟩ argsL.toArray v B ∧
      ∀ target, Steps p.tables e below (B.U.setTop { g with pc := g.pc + 3, stack := v.toList ++ rest }) target → Steps p.tables e below (T.setTop g) target := by
  obtain ⟨mk, methM, cM, hnamed, hmethM, -, -, -, -, -, -, hsigM⟩ := Cond.codeWith_spec hcode
  have hstatic : methM.isStatic = true := Cond.static_spec hnamed hmethM hstat
  obtain ⟨kP, hkP, -⟩ := className_of_methodNamed hnamed
  have hinitP : kP.init = .initialized := Cond.initialized_spec (findClass_of_methodNamed hnamed) hkP hinit
  obtain ⟨vm₁, X₁, hstep₁⟩ := X.invokestatic hexec hown hlink hnamed hmethM hstatic hkP hinitP hy (g := g) hg (argsL := argsL) (rest := rest) (hlen _ hsigM) hstack hdg
  obtain ⟨v, B, X', hpost, hsteps⟩ := hK m meth c ⟨T.setVm vm₁, locs, cells, slots⟩ { g with stack := rest } (.invokestatic index) mk argsL.toArray X₁ hg hsize hdg hW (X₁.named hnamed) (hpre vm₁ X₁.warmed)
  exact ⟨v, vm₁, B, X₁.warmed, X', hpost, fun target h => hstep₁ _ fun acts => by rw [doInvoke_state]; exact hsteps.trans h⟩
theorem vx_runSW {y : MethodName} {bytes cc : ByteArray} {maxL nL mc ms n index : Nat} {ret : Option FieldType} {hh : List (Nat × Nat × Nat × Nat)} {ws : List Cond} {rm : Room} {Pc : Array Value → State → Prop} {Qc : Array Value → State → Outcome → State → Prop} {free : Addr → Prop} {Ts : List Cond} {own : String} {As rest : List Value} {g : JFrame}
    (S : CallFix p m c cc nL s args Ts own) (hM : Met l y ws rm Pc Qc mc ms free) (cw : vx_CSW R s args own index y bytes maxL ret hh ws rm mc ms n) (hp : PreS s H Pc As)
    (hg : g.method = m) (hn : As.length = n) (hsize : g.locals.size = nL) (hstack : g.stack = As.reverse ++ rest) (hW : 2 * g.monitorRoom + (rest.map fun v => v.category).sum ≤ 8) (hdg : decode cc g.pc = .ok (.invokestatic index, 3)) (hf : cells + mc ≤ R.cells ∧ slots + ms ≤ R.slots) :
    va_Run p l e R s m args below meth c H locs cells slots mc ms g rest (Qc As.toArray) (free) := by
  obtain ⟨⟨hrc, hrs, hfr, hlo, hws, hcw⟩, hcode, hini, hy, hlen, hl, hstt⟩ := cw
  have hK : Back l R p e below s args y 3 8 (PreOf R mc ms Pc) (PostOf Qc mc ms free) := va_backW (hh := hh) (bytes := bytes) (maxL := maxL) (ret := ret) hM hp.1 hrc hrs hfr hlo hws hcw (fun a' U hW => word_at hW (Or.inl (by first | rfl | simp [Cond.onTables, Cond.keeps, Cond.steady])) hini)
  obtain ⟨hx, hb, hml, ho, -⟩ := S
  intro T hT X
  obtain ⟨v, vm₁, ⟨U', l2, c2, s2⟩, hW₁, X', ⟨g', mk, t, L, e1, e2, hq, h1, hL, h2, h3⟩, st⟩ := vx_callSW X hx (hh := hh) (bytes := bytes) (maxL := maxL) (ret := ret) ho hl hstt hini hcode hy hK hg (hsize.trans hml.symm) (argsL := As) (rest := rest) (fun sig h => hn.trans (hlen sig h)) hstack hW (by rw [hb]; exact hdg)
    (fun vm₁ hW₁ => ⟨hf.1, hf.2, hp.2 (T.setVm vm₁) hT hW₁⟩)
  dsimp only [Pt.U, Pt.locs, Pt.cells, Pt.slots] at X' e1 e2 h1 h2 h3 st
  subst h1; subst h2; subst h3
  exact ⟨v, (T.setVm vm₁).calling g' mk As.toArray, t, U', L, hT, X', hL, e1, e2, hq, st⟩
/-- a thing of a world lies in the heap -/
theorem vx_lt {D : va_G} {cl : List vw_C} {ws : va_W} {H1 : Heap} (h : va_P D cl ws H1) {k : Nat} {q : Nat × va_E} (hk : ws[k]? = some q) : q.1 < H1.size := (h k q hk).lt
end VXS
end MH69rxs11x10
section MH69rxs11x11
section MG85pxx0
/-! runs that stop at given places -/
section PX
variable {T : pm_Tab} {stop : Nat → Bool} {k fr lo : Nat} {st st' : pm_St}
def px_run (T : pm_Tab) (stop : Nat → Bool) : Nat → Nat → Nat → Nat → pm_St → Option (pm_Rs ⊕ pm_St)
  | 0, _, _, _, _ => none
  | n + 1, fr, lo, k, st => cond (stop st.1) (some (.inr st)) (match pm_end T k st with
    | some r => some (.inl r)
    | none => match pm_step T (fun fr lo t as h sz sl => pm_run T n fr lo t (0, pm_l0 as (pm_max T t), [], h, sz, sl)) fr lo k st with
      | some st' => px_run T stop n fr lo k st'
      | none => none)
def px_sz (o : pm_Rs ⊕ pm_St) : Nat × Nat := match o with
  | .inl r => r.2.2
  | .inr st => st.2.2.2.2
theorem px_mono : ∀ (n fr lo k : Nat) (st : pm_St) (o : pm_Rs ⊕ pm_St), px_run T stop n fr lo k st = some o → st.2.2.2.2.1 ≤ (px_sz o).1 ∧ st.2.2.2.2.2 ≤ (px_sz o).2
  | 0, _, _, _, _, _, h => by cases h
  | n + 1, fr, lo, k, st, o, h => by
    unfold px_run at h
    cases hs : stop st.1 with
    | true =>
      rw [hs] at h
      cases h
      exact ⟨Nat.le_refl _, Nat.le_refl _⟩
    | false =>
      rw [hs] at h
      dsimp only [cond] at h
      split at h
      · rename_i r' e1
        cases h
        unfold pm_end at e1
        split at e1
        · cases e1
        · split at e1
          · split at e1
            · cases e1; exact ⟨Nat.le_refl _, Nat.le_refl _⟩
            · cases e1
          · cases e1
      · split at h
        · rename_i st' e2
          have ih := px_mono n fr lo k st' o h
          have h2 := pm_step_mono (fun fr lo t as h sz sl r q => pm_mono n _ _ _ _ _ q) e2
          omega
        · cases h
/-- from st the method ends with Q, or comes to a place of stop, with X -/
def pw_X (T : pm_Tab) (stop : Nat → Bool) (fr lo k : Nat) (st : pm_St) (Q : pm_Rs → Prop) (X : pm_St → Prop) : Prop := ∃ n o, px_run T stop n fr lo k st = some o ∧ (match o with
  | .inl r => Q r
  | .inr st' => stop st'.1 = true ∧ X st')
variable {Q Q' : pm_Rs → Prop} {X X' : pm_St → Prop}
theorem pw_mono (h : pw_X T stop fr lo k st Q X) (hq : ∀ r, Q r → Q' r) (hx : ∀ s, X s → X' s) : pw_X T stop fr lo k st Q' X' := by
  obtain ⟨n, o, h1, h2⟩ := h
  refine ⟨n, o, h1, ?_⟩
  cases o with
  | inl r => exact hq r h2
  | inr s => exact ⟨h2.1, hx s h2.2⟩
theorem px_run_succ : ∀ (n fr lo k : Nat) (st : pm_St) (o : pm_Rs ⊕ pm_St), px_run T stop n fr lo k st = some o → px_run T stop (n + 1) fr lo k st = some o
  | 0, _, _, _, _, _, h => by cases h
  | n + 1, fr, lo, k, st, o, h => by
    unfold px_run at h
    unfold px_run
    cases hs : stop st.1 with
    | true => rw [hs] at h; exact h
    | false =>
      rw [hs] at h
      dsimp only [cond] at h ⊢
      cases e1 : pm_end T k st with
      | some r' => rw [e1] at h; exact h
      | none =>
        rw [e1] at h
        dsimp only at h ⊢
        cases e2 : pm_step T (fun fr lo t as h sz sl => pm_run T n fr lo t (0, pm_l0 as (pm_max T t), [], h, sz, sl)) fr lo k st with
        | none => rw [e2] at h; cases h
        | some st' =>
          rw [e2] at h
          rw [pm_step_go (fun fr lo t as h sz sl r q => pm_run_succ n _ _ _ _ _ q) e2]
          exact px_run_succ n _ _ _ _ _ h
theorem px_run_le {n n' : Nat} {o : pm_Rs ⊕ pm_St} (hn : n ≤ n') (h : px_run T stop n fr lo k st = some o) : px_run T stop n' fr lo k st = some o := by
  induction hn with
  | refl => exact h
  | step _ ih => exact px_run_succ _ _ _ _ _ _ ih
theorem pw_stop (hs : stop st.1 = true) (hx : X st) : pw_X T stop fr lo k st Q X := ⟨1, .inr st, by unfold px_run; rw [hs]; rfl, hs, hx⟩
theorem pw_step (hs : stop st.1 = false) (h : pm_step T pm_go0 fr lo k st = some st') (kk : pw_X T stop fr lo k st' Q X) : pw_X T stop fr lo k st Q X := by
  obtain ⟨n, o, h1, h2⟩ := kk
  refine ⟨n + 1, o, ?_, h2⟩
  unfold px_run
  rw [hs, pm_end_no h, pm_step_go (go' := fun fr lo t as h sz sl => pm_run T n fr lo t (0, pm_l0 as (pm_max T t), [], h, sz, sl)) (fun _ _ _ _ _ _ _ _ q => by cases q) h]
  exact h1
theorem pw_end {r : pm_Rs} (hs : stop st.1 = false) (h : pm_end T k st = some r) (hq : Q r) : pw_X T stop fr lo k st Q X := ⟨1, .inl r, by unfold px_run; rw [hs, h]; rfl, hq⟩
theorem pm_cd_step {n t : Nat} {As rest : List Value} {r : pm_Rs} (h : pm_cd T k st = some (t, As, rest)) (hf : 1 ≤ fr) (hl : 19 + pm_max T t ≤ lo) (hr : pm_run T n (fr - 1) (lo - (19 + pm_max T t)) t (0, pm_l0 As (pm_max T t), [], st.2.2.2) = some r) : pm_step T (fun fr lo t as h sz sl => pm_run T n fr lo t (0, pm_l0 as (pm_max T t), [], h, sz, sl)) fr lo k st = some (st.1 + 3, st.2.1, r.1.toList ++ rest, r.2) := by
  unfold pm_cd at h
  unfold pm_step
  cases e1 : pm_ins T k st.1 with
  | none => rw [e1] at h; cases h
  | some il =>
    obtain ⟨i, len⟩ := il
    rw [e1] at h
    dsimp only at h ⊢
    by_cases e2 : pm_lenOk i len = true
    · rw [if_pos e2] at h ⊢
      cases e3 : pm_callee T k i with
      | none => rw [e3] at h; cases h
      | some wt =>
        obtain ⟨w, t'⟩ := wt
        rw [e3] at h
        dsimp only at h ⊢
        split at h
        · rename_i e4
          cases h
          rw [if_pos ⟨e4.1, e4.2.1, e4.2.2.1, hf, hl, e4.2.2.2⟩]
          have e5 : pm_run T n (fr - 1) (lo - (19 + pm_max T t)) t (0, pm_l0 (st.2.2.1.take (pm_na T t)).reverse (pm_max T t), [], st.2.2.2.1, st.2.2.2.2.1, st.2.2.2.2.2) = some r := hr
          rw [e5]
        · cases h
    · rw [if_neg e2] at h; cases h
theorem pw_call {t : Nat} {As rest : List Value} (hs : stop st.1 = false) (h : pm_cd T k st = some (t, As, rest)) (hf : 1 ≤ fr) (hl : 19 + pm_max T t ≤ lo)
    (kk : pm_WP T (fr - 1) (lo - (19 + pm_max T t)) t (0, pm_l0 As (pm_max T t), [], st.2.2.2) (fun r => pw_X T stop fr lo k (st.1 + 3, st.2.1, r.1.toList ++ rest, r.2) Q X)) : pw_X T stop fr lo k st Q X := by
  obtain ⟨n, r, h1, n2, o, h2, h3⟩ := kk
  have a1 := pm_run_le (Nat.le_max_left n n2) h1
  have a2 := px_run_le (Nat.le_max_right n n2) h2
  refine ⟨max n n2 + 1, o, ?_, h3⟩
  have hst := pm_cd_step h hf hl a1
  unfold px_run
  rw [hs, pm_end_no hst, hst]
  exact a2
end PX
section PXV
variable {p : Program} {l : Launch} {e : Env} {R : Room} {s : State} {m : MethodId} {args : Array Value} {below : List Frame} {meth : Method} {c : Code} {Q : State → Prop}
variable {T : pm_Tab} {G Ns : List Cond} {D : va_G} {aC : Nat → ClassId} {b g k fr lo sz0 sl0 : Nat} {stop : Nat → Bool}
/-- such a run, in any method that stands -/
theorem px_V (OK : pm_ok T G Ns) (hC : pm_C T G Ns D aC b k p s m args meth c) (hfr : R.frames = fr) (hlo : R.locals = lo) (hs0 : s.heap.size = b + sz0 + g) {o : pm_Rs ⊕ pm_St} (ho : px_sz o = (sz0, sl0))
    (hq : ∀ r st1, o = .inl r → pm_end T k st1 = some r → st1.2.2.2.2 = (sz0, sl0) → pm_V p l e R s m args below meth c Q T D aC b k sz0 sl0 st1) (hx : ∀ st1, o = .inr st1 → pm_V p l e R s m args below meth c Q T D aC b k sz0 sl0 st1) :
    ∀ (n : Nat) (st : pm_St), sz0 ≤ st.2.2.2.2.1 → sl0 ≤ st.2.2.2.2.2 → px_run T stop n fr lo k st = some o → pm_V p l e R s m args below meth c Q T D aC b k sz0 sl0 st
  | 0, _, _, _, h => by cases h
  | n + 1, st, h0, h1, h => by
    have hm := px_mono _ _ _ _ _ _ h
    rw [ho] at hm
    dsimp only at hm
    unfold px_run at h
    cases hs : stop st.1 with
    | true =>
      rw [hs] at h
      cases h
      exact hx st rfl
    | false =>
      rw [hs] at h
      dsimp only [cond] at h
      split at h
      · rename_i r' e1
        cases h
        exact hq r' st rfl e1 (by
          have a : st.2.2.2.2.1 = sz0 := by omega
          have b : st.2.2.2.2.2 = sl0 := by omega
          rw [← a, ← b])
      · split at h
        · rename_i st' e2
          have hm1 := px_mono _ _ _ _ _ _ h
          rw [ho] at hm1
          dsimp only at hm1
          have hm2 := pm_step_mono (fun fr lo t as h sz sl r q => pm_mono n _ _ _ _ _ q) e2
          refine pm_step_ok OK hC hfr hlo hs0 (by omega) h0 h1 (by omega) (by omega) (fun fr lo t as h sz sl r q1 q2 q3 => ?_) e2 (px_V OK hC hfr hlo hs0 ho hq hx n st' (by omega) (by omega) h)
          have hm3 := pm_mono _ _ _ _ _ _ q3
          exact ⟨hm3.1, hm3.2, fun hg => pm_sound OK n fr lo t as h sz sl r q1 hg q2 q3⟩
        · cases h
end PXV
end MG85pxx0
section MG85pxx1
/-! contracts of methods that may stop at given places -/
section SXR
variable {T : pm_Tab} {B : Nat → ac} {sz sl : Nat}
theorem sx_step_ok {F F0 : fr_F} {PP : pm_H → Prop} (hF0 : ∀ h h', fm F0 h h' → fm F h h') (hPP : pp_ok F0 PP) {go : Nat → Nat → Nat → List av → ah → Option (List ar)} {fr lo k : Nat} {s : ast} {ss : List ast} {st : pm_St} {Q : pm_Rs → Prop} {X : pm_St → Prop} {stop : Nat → Bool} (hs0 : stop st.1 = false) (hgo : ∀ fr lo t as o Rc, go fr lo t as o = some Rc → ∀ As h, as_ok As as → ah_ok B sz o h → PP h → pm_WP T fr lo t (0, pm_l0 As (pm_max T t), [], h, sz, sl) (fun x => (∃ r, r ∈ Rc ∧ ar_ok B sz sl r x) ∧ fm F h x.2.1 ∧ PP x.2.1)) (es : aa_stepF T B sz F0 go fr lo k s = some ss) (hok : ast_ok B sz sl s st) (hp : PP st.2.2.2.1) (kk : ∀ st', (∃ t, t ∈ ss ∧ ast_ok B sz sl t st') → fm F st.2.2.2.1 st'.2.2.2.1 → PP st'.2.2.2.1 → pw_X T stop fr lo k st' Q X) : pw_X T stop fr lo k st Q X := by
  unfold aa_stepF at es
  cases ec : aa_cd T B sz k s with
  | some tar =>
    obtain ⟨t, as, rest⟩ := tar
    rw [ec] at es
    dsimp only at es
    split at es
    · rename_i hfl
      split at es
      · rename_i Rc ego
        cases es
        obtain ⟨As, Rest, c1, c2, c3⟩ := aa_cd_ok ec hok
        have hsz := hok.2.2.2.2
        obtain ⟨pc, L, S, h, sz', sl'⟩ := st
        dsimp only at hsz hp kk
        obtain ⟨rfl, rfl⟩ := hsz
        refine pw_call hs0 c1 hfl.1 hfl.2 (wp_mono (hgo _ _ t as _ Rc ego As h c2 hok.2.2.2.1 hp) ?_)
        rintro ⟨rv, h1, sz1, sl1⟩ ⟨⟨r, hr, q1, q2, q3, q4⟩, q5, q6⟩
        refine kk _ ⟨_, List.mem_map_of_mem hr, ?_⟩ q5 q6
        refine ⟨by show pc + 3 = s.1 + 3; rw [← hok.1], hok.2.1, ?_, q2, q3, q4⟩
        obtain ⟨r1, r2⟩ := r
        dsimp only at q1 ⊢
        cases rv with
        | none =>
          cases r1 with
          | none => exact c3
          | some a => exact q1.elim
        | some v =>
          cases r1 with
          | none => exact q1.elim
          | some a => exact ⟨q1, c3⟩
      · cases es
    · cases es
  | none =>
    rw [ec] at es
    dsimp only at es
    cases ei : pm_ins T k s.1 with
    | none => rw [ei] at es; cases es
    | some il =>
      obtain ⟨i, len⟩ := il
      rw [ei] at es
      dsimp only at es
      cases ew : wr T F0 k i s.2.2.1 with
      | false => rw [ew] at es; cases es
      | true =>
        rw [ew] at es
        dsimp only [cond] at es
        split at es
        · rename_i hq
          obtain ⟨h1, hL, hS, hH, h5, h6⟩ := hok
          obtain ⟨pc, L, S, h, sz', sl'⟩ := st
          dsimp only at h1 hL hS hH h5 h6 hp kk
          subst h1 h5 h6
          obtain ⟨st', g1, s2, g2, g3⟩ := aa_simple_ok (pc := s.1) es hL hS hH
          have hfm := wr_ok ew hS g1
          refine pw_step hs0 (st' := st') ?_ (kk _ ⟨s2, g2, g3⟩ (hF0 _ _ hfm) (hPP _ _ hfm hp))
          unfold pm_step
          dsimp only
          rw [ei]
          dsimp only
          rw [if_pos hq.1, hq.2]
          exact g1
        · cases es
/-- runs that stop at the states of Z; nothing is done at a stop -/
def sx_run (stop : Nat → Bool) (Z : List ast) (K : kn) (T : pm_Tab) (B : Nat → ac) (sz : Nat) (F : fr_F) (J : Nat → ast → ast → Bool) (jo : Nat → ar → ar → Bool) (P : Nat → Nat → List sp) : Nat → Nat → Nat → Nat → List ast → List ar → Option (List ar)
  | 0, _, _, _, _, _ => none
  | n + 1, fr, lo, k, W, R => match W with
    | [] => some R
    | s :: W => cond (stop s.1) (cond (Z.any (fun z => ast_le B s z)) (sx_run stop Z K T B sz F J jo P n fr lo k W R) none) (match cx_each (cx_one T B sz F (fun fr lo t as o => match K t as o with
        | some (Rc, Fr, Lo) => if Fr ≤ fr ∧ Lo ≤ lo then some Rc else none
        | none => cx_run K T B sz F J jo P n fr lo t [(0, aa_l0 as (pm_max T t), [], o)] []) fr lo k) (sp_all B sz (P k s.1) [s]) with
      | some (A, ss) => sx_run stop Z K T B sz F J jo P n fr lo k (cx_all B (J k) ss W) (cx_outs B (jo k) A R)
      | none => none)
theorem sx_run_ok {stop : Nat → Bool} {Z : List ast} {F F0 : fr_F} {PP : pm_H → Prop} (hF0 : ∀ h h', fm F0 h h' → fm F h h') (hPP : pp_ok F0 PP) {K : kn} (hK : kn_ok K T B sz F PP) {J : Nat → ast → ast → Bool} {jo : Nat → ar → ar → Bool} {P : Nat → Nat → List sp} : ∀ (n fr lo k : Nat) (W : List ast) (R R' : List ar), sx_run stop Z K T B sz F0 J jo P n fr lo k W R = some R' → (∀ x, (∃ r, r ∈ R ∧ ar_ok B sz sl r x) → ∃ r, r ∈ R' ∧ ar_ok B sz sl r x) ∧ ∀ st, (∃ s, s ∈ W ∧ ast_ok B sz sl s st) → PP st.2.2.2.1 → ∀ (Q : pm_Rs → Prop) (X : pm_St → Prop), (∀ x, (∃ r, r ∈ R' ∧ ar_ok B sz sl r x) → fm F st.2.2.2.1 x.2.1 → PP x.2.1 → Q x) → (∀ st', (∃ z, z ∈ Z ∧ ast_ok B sz sl z st') → fm F st.2.2.2.1 st'.2.2.2.1 → PP st'.2.2.2.1 → X st') → pw_X T stop fr lo k st Q X
  | 0, _, _, _, _, _, _, e => by cases e
  | n + 1, fr, lo, k, W, R, R', e => by
    unfold sx_run at e
    match W, e with
    | [], e =>
      cases (Option.some.inj e : R = R')
      exact ⟨fun x h => h, fun st h => by obtain ⟨s, hs, _⟩ := h; cases hs⟩
    | s :: W, e =>
      dsimp only at e
      cases hst : stop s.1 with
      | true =>
        rw [hst] at e
        dsimp only [cond] at e
        cases hz : Z.any (fun z => ast_le B s z) with
        | false => rw [hz] at e; cases e
        | true =>
        rw [hz] at e
        dsimp only [cond] at e
        obtain ⟨i1, i2⟩ := sx_run_ok hF0 hPP hK n fr lo k _ _ R' e
        refine ⟨i1, fun st h hp Q X hQ hS => ?_⟩
        obtain ⟨s', hs', hok⟩ := h
        rcases List.mem_cons.mp hs' with rfl | hs'
        · obtain ⟨z, hzm, hzl⟩ := List.any_eq_true.mp hz
          exact pw_stop (by rw [hok.1]; exact hst) (hS st ⟨z, hzm, ast_le_ok hzl hok⟩ (fm_rf _) hp)
        · exact i2 st ⟨s', hs', hok⟩ hp Q X hQ hS
      | false =>
        rw [hst] at e
        dsimp only [cond] at e
        split at e
        · rename_i A ss es
          obtain ⟨i1, i2⟩ := sx_run_ok hF0 hPP hK n fr lo k _ _ R' e
          refine ⟨fun x h => i1 x (cx_outs_ok (Or.inr h)), fun st h hp Q X hQ hS => ?_⟩
          obtain ⟨s', hs', hok⟩ := h
          rcases List.mem_cons.mp hs' with rfl | hs'
          · obtain ⟨t, ht, htok⟩ := sp_all_ok (P k s'.1) [s'] ⟨s', List.mem_singleton_self _, hok⟩
            rcases cx_each_mem es t ht with ⟨a, h1, h2⟩ | ⟨st2, h1, h2⟩
            · unfold cx_one at h1
              split at h1
              · rename_i r ee
                cases h1
                obtain ⟨q, e1, e2⟩ := aE_end_ok ee htok
                have hh : q.2.1 = st.2.2.2.1 := by
                  unfold pm_end at e1
                  split at e1
                  · cases e1
                  · split at e1
                    · split at e1
                      · cases e1; rfl
                      · cases e1
                    · cases e1
                refine pw_end (by rw [hok.1]; exact hst) e1 (hQ q (i1 q (cx_outs_ok (Or.inl ⟨_, h2, e2⟩))) ?_ ?_)
                · rw [hh]; exact fm_rf _
                · rw [hh]; exact hp
              · split at h1
                · cases h1
                · cases h1
            · unfold cx_one at h1
              split at h1
              · cases h1
              · split at h1
                · rename_i ss2 ee
                  cases h1
                  refine sx_step_ok hF0 hPP (by rw [hok.1]; exact hst) ?_ ee htok hp (fun st' hst' hf' hp' => ?_)
                  · intro fr lo t as o Rc ego As h hAs hh hph
                    split at ego
                    · rename_i Rc' Fr Lo ek
                      split at ego
                      · rename_i hfl
                        cases ego
                        exact hK t as o Rc Fr Lo ek As h fr lo sl hAs hh hph hfl.1 hfl.2
                      · cases ego
                    · exact (cx_run_ok hF0 hPP hK n fr lo t _ [] Rc ego).2 _ ⟨_, List.mem_singleton_self _, rfl, al_l0 hAs _, trivial, hh, rfl, rfl⟩ hph
                  · obtain ⟨u, hu, huok⟩ := hst'
                    exact i2 st' (cx_all_ok (Or.inl ⟨u, h2 u hu, huok⟩)) hp' Q X (fun x hx hfx => hQ x hx (fm_tr hf' hfx)) (fun st2 hz2 hf2 => hS st2 hz2 (fm_tr hf' hf2))
                · cases h1
          · exact i2 st (cx_all_ok (Or.inr ⟨s', hs', hok⟩)) hp Q X hQ hS
        · cases e
end SXR
end MG85pxx1
section MG85pxx2
/-! the class's four that may throw: they end, or come to a 'new' -/
section THR
def tx_stop (t pc : Nat) : Bool := match pm_ins PT t pc, pm_ins PT t (pc + 3), pm_ins PT t (pc + 4), pm_ins PT t (pc + 7) with
  | some (.new 129, 3), some (.dup, 1), some (.invokespecial 131, 3), some (.athrow, 1) => true
  | _, _, _, _ => false
/-- nothing is joined in court, between, gift -/
def cxJt (k : Nat) (s t : ast) : Bool := cond (Nat.ble 91 k && Nat.ble k 93) false (cxJ k s t)
def sx_chk (Z : List ast) (K : kn) (ps : List sp) (n fr lo k : Nat) (as : List av) (ans : List (Option av)) : Bool := match sx_run (tx_stop k) Z K PT bB 198 cxF cxJt cxjo cxP2 n fr lo k (sp_all bB 198 ps [(0, aa_l0 as (pm_max PT k), [], [])]) [] with
  | some R => R.all (fun r => ans.any (fun a => ao_le r.1 a) && ah_le bB r.2 [])
  | none => false
theorem sx_con {Z : List ast} {K : kn} (hK : kn_ok K PT bB 198 cxF cxQ) {ps : List sp} {n fr lo k : Nat} {as : List av} {ans : List (Option av)} (hZ : ∀ z, z ∈ Z → z.2.2 = ([], [])) (e : sx_chk Z K ps n fr lo k as ans = true) {As : List Value} {h : pm_H} {sl : Nat} (hAs : as_ok As as) (hh : ah_ok bB 198 [] h) : pw_X PT (tx_stop k) fr lo k (0, pm_l0 As (pm_max PT k), [], h, 198, sl) (fun x => (∃ a, a ∈ ans ∧ ao_ok x.1 a) ∧ x.2.2 = (198, sl) ∧ fm cxF h x.2.1 ∧ ah_ok bB 198 [] x.2.1) (fun st => st.2.2.1 = [] ∧ st.2.2.2.2 = (198, sl) ∧ fm cxF h st.2.2.2.1 ∧ ah_ok bB 198 [] st.2.2.2.1) := by
  unfold sx_chk at e
  split at e
  · rename_i R eR
    obtain ⟨t, ht, htok⟩ := sp_all_ok (B := bB) (sz := 198) (sl := sl) (st := (0, pm_l0 As (pm_max PT k), [], h, 198, sl)) ps [(0, aa_l0 as (pm_max PT k), [], [])] ⟨_, List.mem_singleton_self _, rfl, al_l0 hAs _, trivial, hh, rfl, rfl⟩
    refine (sx_run_ok (sl := sl) (fun _ _ q => q) cxpp hK n fr lo k _ [] R eR).2 _ ⟨t, ht, htok⟩ trivial _ _ (fun x hx hf _ => ?_) (fun st' hz hf _ => ?_)
    · obtain ⟨r, hr, q1, q2, q3, q4⟩ := hx
      have er := List.all_eq_true.mp e r hr
      rw [Bool.and_eq_true] at er
      obtain ⟨a, ha, hle⟩ := List.any_eq_true.mp er.1
      obtain ⟨xv, xh, xs, xl⟩ := x
      dsimp only at q3 q4
      subst q3 q4
      exact ⟨⟨a, ha, ao_le_ok hle q1⟩, rfl, hf, ah_le_ok er.2 q2⟩
    · obtain ⟨z, hz1, hz2⟩ := hz
      have e2 := hZ z hz1
      obtain ⟨q1, q2, q3, q4, q5, q6⟩ := hz2
      obtain ⟨pc, L, S, h', s', l'⟩ := st'
      obtain ⟨zp, zL, zS, zo⟩ := z
      cases e2
      dsimp only at q3 q4 q5 q6
      subst q5 q6
      refine ⟨?_, rfl, hf, q4⟩
      cases S with
      | nil => rfl
      | cons v S => exact q3.elim
  · cases e
def zt (n pc : Nat) : ast := (pc, List.replicate n none, [], [])
def cxKt : kn := kl bB cxF [cxt139, cxt91, cxt144, cxt2]
theorem cxKt_ok : kn_ok cxKt PT bB 198 cxF cxQ := kl_ok (List.forall_mem_cons.mpr ⟨cxo139, List.forall_mem_cons.mpr ⟨cxo91, List.forall_mem_cons.mpr ⟨cxo144, List.forall_mem_cons.mpr ⟨cxo2, fun _ h => (by cases h)⟩⟩⟩⟩)
theorem zt_ok {n pc : Nat} : (zt n pc).2.2 = ([], []) := rfl
theorem th_court : sx_chk [zt 3 11, zt 3 156] cxKt [(0, 1, 0, 0, [-1, 5])] 1000 2046 83954 91 [(2, 0, 1), ai_top, ai_top] [some ai_top] = true := by decide +kernel
theorem th_between : sx_chk [zt 5 12, zt 5 106] cxKt [(0, 1, 0, 0, [-1, 5]), (0, 2, 0, 0, [-1, 5])] 1000 2046 83951 92 [(2, 0, 1), ai_top, ai_top, ai_top] [some ai_top] = true := by decide +kernel
theorem th_gift : sx_chk [zt 3 11, zt 3 127] cxKt [(0, 1, 0, 0, [-1, 7])] 1000 2046 83954 93 [(2, 0, 1), ai_top, ai_top] [some ai_top] = true := by decide +kernel
theorem th_row : sx_chk [zt 2 15] cxKt [] 1000 2046 83956 128 [(2, 0, 1), ai_top] [some al_top] = true := by decide +kernel
end THR
end MG85pxx2
section MG85pxx3
/-! the class's court, between, gift, row write nothing on their way -/
section XNW
def px_H (o : pm_Rs ⊕ pm_St) : pm_H := match o with
  | .inl r => r.2.1
  | .inr st => st.2.2.2.1
def nwx_ok (stop : Nat → Bool) (k : Nat) : Prop := ∀ pc i len, stop pc = false → pm_ins PT k pc = some (i, len) → nw_i i = true ∧ (∀ w t, pm_callee PT k i = some (w, t) → nw_K t = true) ∧ ∀ j w x, (i = .invokestatic j ∨ i = .invokespecial j) → pm_mlk PT (pm_o PT k) j = some (w, x) → w ≠ 9
theorem px_run_nw {stop : Nat → Bool} {k : Nat} (hK : nwx_ok stop k) : ∀ (n fr lo : Nat) (st : pm_St) (o : pm_Rs ⊕ pm_St), px_run PT stop n fr lo k st = some o → px_H o = st.2.2.2.1
  | 0, _, _, _, _, h => by cases h
  | n + 1, fr, lo, st, o, h => by
    unfold px_run at h
    cases hs : stop st.1 with
    | true =>
      rw [hs] at h
      cases h
      rfl
    | false =>
      rw [hs] at h
      dsimp only [cond] at h
      split at h
      · rename_i r' e1
        cases h
        unfold pm_end at e1
        split at e1
        · cases e1
        · split at e1
          · split at e1
            · cases e1; rfl
            · cases e1
          · cases e1
      · split at h
        · rename_i st' e2
          rw [px_run_nw hK n fr lo st' o h]
          unfold pm_step at e2
          split at e2
          · cases e2
          · rename_i i len ei
            obtain ⟨n1, n2, n3⟩ := hK _ i len hs ei
            split at e2
            · split at e2
              · rename_i w t ec
                split at e2
                · split at e2
                  · rename_i rv h1 sz1 sl1 e3
                    cases e2
                    have := pm_run_nw nw_class n _ _ t _ (rv, h1, sz1, sl1) (n2 w t ec) e3
                    exact congrArg (fun q : pm_H × Nat × Nat => q.1) this
                  · cases e2
                · cases e2
              · exact congrArg (fun q : pm_H × Nat × Nat => q.1) (pm_simple_nw n1 n3 e2)
            · cases e2
        · cases h
def nwx_b (stop : Nat → Bool) (k : Nat) : Bool := match pd_a2 k with
  | some e => e.2.all (fun c => c.all (fun x => stop x.1 || nw_c k x.2.1))
  | none => true
theorem nwx_of {stop : Nat → Bool} {k : Nat} (hb : nwx_b stop k = true) : nwx_ok stop k := by
  intro pc i len hs hi
  have hi : pd_ins k pc = some (i, len) := hi
  unfold pd_ins at hi
  unfold nwx_b at hb
  split at hi
  · rename_i e ee
    rw [ee] at hb
    dsimp only at hb
    unfold pm_ch at hi
    split at hi
    · rename_i c ec
      have h1 := List.all_eq_true.mp (List.all_eq_true.mp hb c (pm_nth_mem ec)) _ (pm_fd_mem hi)
      rw [hs, Bool.false_or] at h1
      unfold nw_c at h1
      rw [Bool.and_eq_true, Bool.and_eq_true] at h1
      obtain ⟨a1, a2, a3⟩ := h1
      dsimp only at a1 a2 a3
      refine ⟨a1, fun w t ht => ?_, fun j w y hj hm => ?_⟩
      · rw [ht] at a2
        exact a2
      · rcases hj with rfl | rfl
        · dsimp only at a3
          rw [hm] at a3
          dsimp only at a3
          intro h9
          subst h9
          cases a3
        · dsimp only at a3
          rw [hm] at a3
          dsimp only at a3
          intro h9
          subst h9
          cases a3
    · cases hi
  · cases hi
theorem nwx_91 : nwx_ok (tx_stop 91) 91 := nwx_of (by decide +kernel)
theorem nwx_92 : nwx_ok (tx_stop 92) 92 := nwx_of (by decide +kernel)
theorem nwx_93 : nwx_ok (tx_stop 93) 93 := nwx_of (by decide +kernel)
theorem nwx_128 : nwx_ok (tx_stop 128) 128 := nwx_of (by decide +kernel)
end XNW
end MG85pxx3
section MG85pxx4
/-! a callee's throw, caught by the one handler of this method's table; its class may not have been looked up yet -/
section TXC
variable {p : Program} {l : Launch} {e : Env} {R : Room} {s : State} {m : MethodId} {args : Array Value} {below : List Frame} {meth : Method} {c : Code} {T : State} {H : Heap} {locs : List Loc} {cells slots : Nat} {Q : State → Prop}
theorem tx_find {g : JFrame} {a : Addr} {S : State} {x : ExceptionTableEntry} {cT : ClassId} {cell : Cell} (hm : S.vm.method? g.method = some meth) (hc : meth.code = some c) (htab : c.exceptionTable.toList = [x]) (hx : covers x g.pc = true) (h0 : x.catchType ≠ 0)
    (hl : S.vm.ClassLinks e.platform g.method.cls x.catchType cT) (hcell : S.heap[a]? = some cell) (hobj : ∀ k, cell.vm ≠ .statics k) (hk : ∃ k, S.vm.classes[cell.cls]? = some k) (hk2 : ∃ k, S.vm.classes[cT]? = some k) (hfit : S.vm.assignable cell.cls cT = true) (Q : Handler → Pre) (E : CtlPost) (d : Bool) (acts : List Action) :
    wp (findHandler g a) Q E e d acts S ↔ Q (.found x.handlerPc) d acts (S.setVm (S.vm.noted g.method.cls x.catchType (.cls cT))) := by
  rw [W.findHandler_eq hm hc, htab]
  simp only [covers] at hx
  obtain ⟨r1, r2⟩ := (resolveClass_links e.toSetting hl).op (op := VmOp.resolveClass g.method.cls x.catchType) rfl
  have al : S.vm.Alike (S.vm.noted g.method.cls x.catchType (.cls cT)) := (Vm.Alike.refl S.vm).noted _ _ _
  obtain ⟨k1, hk1⟩ := hk
  obtain ⟨k2, hk2⟩ := hk2
  obtain ⟨k1', hk1', -⟩ := al.2.2 _ _ hk1
  obtain ⟨k2', hk2', -⟩ := al.2.2 _ _ hk2
  have hfit' : (S.vm.noted g.method.cls x.catchType (.cls cT)).assignable cell.cls cT = true := by rw [al.assignable]; exact hfit
  simp [findHandler.go, hx, h0, r1, r2, hcell, hobj, hk1', hk2', hfit', VmOp.dirties, VmOp.acts]
theorem tx_step {g : JFrame} {a : Addr} {S : State} {r : List Frame} {pc : Nat} {vm' : Vm} (hf : ∀ (Q : Handler → Pre) (E : CtlPost) (d : Bool) (acts : List Action), wp (findHandler g a) Q E e d acts S ↔ Q (.found pc) d acts (S.setVm vm')) : (stepThrowing e S a (.java g :: r)).1 = (S.setVm vm').setFrames (.java { g with pc := pc, stack := [.ref a] } :: r) := by
  simp only [stepThrowing, searchFrame, vmDo]
  generalize hr : Sem.go _ e false [] S = res
  obtain ⟨as, rfl, ha⟩ := Sem.eq_ok_of hr (a := Handler.found pc) (s' := S.setVm vm') (acts' := []) (by simp [hf _ _ _ _])
  rfl
theorem tx_catch {own name E : String} {ce : Cell} {q : Addr} {x : ExceptionTableEntry} {pc : Nat} {ls : Array Slot} {rest : List Value} (hown : s.vm.findClass own = some m.cls) (htab : c.exceptionTable.toList = [x]) (hx : covers x pc = true) (h0 : x.catchType ≠ 0)
    (hlink : (Cond.classLink own x.catchType name).before args s = true) (hcast : (Cond.castable E name).before args s = true) (hcell : H[q]? = some ce) (hv : ce.vm = .none) (hcl : s.vm.findClass E = some ce.cls)
    (kk : W p l e R s m args below meth c H locs cells slots Q (F0 m x.handlerPc ls [.ref q])) : vx_W p l e R s m args below meth c H locs cells slots Q (F0 m pc ls rest) q := by
  intro T hT X
  have hpl : e.platform.magicAccessors = ({} : Platform).magicAccessors := by rw [X.admits.platform]
  obtain ⟨c3, c4, hc3, hc4, hasg⟩ := Cond.castable_spec hcast
  cases Option.some.inj (hc3.symm.trans hcl)
  obtain ⟨c5, hc5, hcl5⟩ := Cond.classLink_spec hown hlink e.platform hpl
  cases Option.some.inj (hc4.symm.trans hc5)
  obtain ⟨dk, _, _, kt, hd, _, _, _, _, hkt, _, hopen⟩ := hcl5.here
  have hW' : s.WarmedH (T.vm.noted m.cls x.catchType (.cls c4)) := X.warmed.noted hd hopen (State.rightAt_cls hcl5)
  have hal := X.warmed.alike
  obtain ⟨kt', hkt', -⟩ := hal.2.2 _ _ hkt
  have hfit' : T.vm.assignable ce.cls c4 = true := by rw [hal.assignable]; exact hasg
  have hcell' : T.heap[q]? = some ce := by rw [hT]; exact hcell
  obtain ⟨t, a1, b1⟩ := kk (T.setVm (T.vm.noted m.cls x.catchType (.cls c4))) hT (X.noted hW')
  refine ⟨t, ?_, b1⟩
  have hf := tx_find (e := e) (g := F0 m pc ls rest) (a := q) (S := (T.setTop (F0 m pc ls rest)).pushFrame (.throwing q)) (meth := meth) (c := c) (x := x) (cT := c4) (cell := ce) X.method' X.code htab hx h0 (X.warmed.classLinks hcl5) hcell' (VmData.ne_statics_of (by rw [hv]; rfl)) (Vm.classAt_of_assignable hfit' ⟨kt', hkt'⟩) ⟨kt', hkt'⟩ hfit'
  obtain ⟨hgo, hw⟩ := X.here.throwing q (g := F0 m pc ls rest)
  refine Steps.head hgo hw ?_
  rw [stepThread_throwing (frames_entered X.here.top _), tx_step hf]
  obtain ⟨g₀, hg⟩ := Option.isSome_iff_exists.mp X.here.top
  obtain ⟨r, hr⟩ := State.topJava?_eq_some.mp hg
  have hr' : (T.setVm (T.vm.noted m.cls x.catchType (.cls c4))).frames = .java g₀ :: r := hr
  rw [State.setTop_of_frames _ hr'] at a1
  have key : ∀ (u : State) (v : Vm) (F G : List Frame), ((u.setFrames F).setVm v).setFrames G = (u.setVm v).setFrames G := by
    intro u v F G
    have h1 : (u.setFrames F).setVm v = (u.setVm v).setFrames F := rfl
    rw [h1, State.setFrames_setFrames]
  rw [hr, List.tail_cons, State.pushFrame, key, State.setTop_of_frames _ hr, key]
  exact a1
end TXC
end MG85pxx4
end MH69rxs11x11
