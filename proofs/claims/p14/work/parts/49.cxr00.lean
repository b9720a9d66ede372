section MG49cxr00x0
/-! the calls themselves -/
def cxPL2 : List (List (Nat × List (Nat × List sp))) := [[(1, [(0, [(1, 0, 0, 0, [11])])]), (2, [(32, [(0, 1, 0, 0, [(-1)])]), (36, [(0, 1, 0, 0, [4])]), (47, [(0, 1, 0, 0, [0])]), (52, [(0, 1, 0, 0, [99])]), (64, [(0, 1, 0, 0, [(-1)])]), (68, [(0, 1, 0, 0, [5])]), (80, [(0, 1, 0, 0, [(-1), 0])]), (84, [(0, 1, 0, 0, [0, 1])])]), (3, [(4, [(0, 3, 0, 0, [(-1), 7])]), (18, [(3, 1, 0, 0, [])])]), (4, [(2, [(0, 3, 0, 0, [(-1), 11])]), (25, [(3, 3, 0, 0, [])])]), (5, [(72, [(3, 2, 0, 0, [])]), (78, [(3, 1, 0, 0, [])]), (81, [(0, 4, 0, 0, [0, 1])])]), (7, [(5, [(0, 4, 0, 0, [(-1), 5])])]), (8, [(5, [(0, 4, 0, 0, [(-1), 5])])]), (9, [(4, [(0, 3, 0, 0, [(-1), 5])]), (19, [(3, 1, 0, 0, [])])]), (10, [(4, [(0, 3, 0, 0, [(-1), 5])]), (18, [(3, 1, 0, 0, [])]), (24, [(3, 1, 0, 0, [])]), (30, [(0, 4, 0, 0, [(-1), 0])])]), (11, [(89, [(0, 4, 0, 0, [(-1), 0])])]), (12, [(2, [(0, 2, 0, 0, [0, 6])]), (15, [(0, 3, 0, 0, [(-1), 5])]), (40, [(3, 3, 0, 0, [])])]), (13, [(63, [(0, 6, 0, 0, [(-1), 5])]), (121, [(3, 3, 0, 0, [])])]), (14, [(7, [(0, 4, 0, 0, [(-1), 0, 1, 2, 3, 4, 5]), (0, 2, 0, 0, [0, 1, 2, 3, 4, 5])]), (24, [(0, 2, 0, 0, [1, 2, 3, 4, 5])])])], [(16, [(14, [(3, 1, 0, 0, []), (3, 0, 0, 0, [])])]), (17, [(0, [(1, 0, 2, 0, [14])])]), (18, [(2, [(3, 0, 0, 0, [])])]), (19, [(0, [(1, 0, 2, 0, [(-1), 0])]), (33, [(3, 1, 0, 0, []), (3, 0, 0, 0, [])])]), (23, [(4, [(0, 1, 0, 0, [(-1), 5])])]), (24, [(16, [(0, 1, 0, 0, [(-1), 5])])]), (25, [(4, [(0, 1, 0, 0, [(-1), 7])])]), (29, [(5, [(0, 4, 0, 0, [(-1), 7])])]), (30, [(5, [(0, 4, 0, 0, [(-1), 7])]), (18, [(3, 2, 0, 0, [])])]), (31, [(5, [(0, 4, 0, 0, [(-1), 5])]), (53, [(0, 4, 0, 0, [(-1), 0, 1, 2, 3, 5]), (0, 2, 0, 0, [(-1), 0, 1, 2, 3, 4])]), (59, [(0, 5, 0, 0, [(-1), 0])])])], [(32, [(5, [(0, 4, 0, 0, [(-1), 5])]), (49, [(0, 4, 0, 0, [(-1), 0, 1, 2, 3, 5]), (0, 2, 0, 0, [(-1), 0, 1, 2, 3, 4])]), (55, [(0, 5, 0, 0, [(-1), 0])])]), (33, [(4, [(0, 3, 0, 0, [(-1), 5])]), (16, [(3, 1, 0, 0, [])])]), (34, [(4, [(0, 3, 0, 0, [(-1), 5])]), (16, [(3, 1, 0, 0, [])])]), (35, [(4, [(0, 2, 0, 0, [(-1), 5])]), (16, [(0, 3, 0, 0, [(-1), 5])])]), (36, [(4, [(0, 3, 0, 0, [(-1), 5])])]), (37, [(5, [(0, 4, 0, 0, [(-1), 5])]), (14, [(0, 4, 0, 0, [(-1), 0, 1, 2, 3, 5]), (0, 2, 0, 0, [(-1), 0, 1, 2, 3, 4])])]), (38, [(4, [(0, 3, 0, 0, [(-1), 5])]), (16, [(3, 1, 0, 0, [])])]), (39, [(95, [(3, 1, 0, 0, [])]), (112, [(3, 0, 0, 0, []), (3, 1, 0, 0, [])])]), (40, [(36, [(3, 4, 0, 0, [])]), (66, [(3, 2, 0, 0, [])])]), (41, [(22, [(3, 1, 0, 0, [])])]), (42, [(2, [(0, 2, 0, 0, [(-1), 5])]), (13, [(3, 1, 0, 0, [])])]), (43, [(25, [(0, 4, 0, 0, [(-1), 7])]), (49, [(3, 1, 0, 0, [])])]), (44, [(18, [(3, 1, 0, 0, [])])]), (46, [(2, [(0, 3, 0, 0, [(-1), 5])]), (18, [(0, 3, 0, 0, [(-1), 0, 1, 2, 3, 5]), (0, 2, 0, 0, [(-1), 0, 1, 2, 3, 4])]), (39, [(0, 3, 0, 0, [(-1), 5])]), (53, [(0, 4, 0, 0, [(-1), 5])])]), (47, [(2, [(0, 2, 0, 0, [(-1), 5])]), (27, [(0, 3, 0, 0, [0])])])], [(49, [(2, [(0, 2, 0, 0, [(-1), 5])]), (27, [(0, 3, 0, 0, [0])])]), (50, [(66, [(0, 6, 0, 0, [(-1), 5])]), (86, [(3, 3, 0, 0, [90, 91, 92, 93, 94, 95, 96, 97, 98])])]), (51, [(13, [(0, 5, 0, 0, [(-1)])]), (22, [(0, 6, 0, 0, [(-1), 5])]), (50, [(0, 7, 0, 0, [0])]), (55, [(0, 7, 0, 0, [0, 1, 2, 3, 4, 5, 6, 7, 8])])]), (54, [(0, [(1, 0, 1, 0, [7])])]), (58, [(0, [(2, 0, 4, 1, [(-1), 0])]), (11, [(3, 0, 0, 0, [])]), (29, [(3, 2, 0, 0, [])]), (55, [(0, 1, 0, 0, [(-1), 0])])]), (59, [(8, [(3, 1, 0, 0, [])]), (14, [(3, 1, 0, 0, [])]), (20, [(3, 1, 0, 0, [])]), (25, [(3, 1, 0, 0, [])]), (31, [(3, 1, 0, 0, [])])]), (60, [(0, [(1, 0, 1, 0, [39])])]), (62, [(7, [(3, 1, 0, 0, [])]), (16, [(3, 2, 0, 0, [])]), (45, [(3, 0, 0, 0, [])]), (56, [(3, 0, 0, 0, [])]), (76, [(3, 2, 0, 0, [])]), (88, [(3, 1, 0, 0, [])])])], [(64, [(11, [(3, 0, 0, 0, [])]), (47, [(3, 1, 0, 0, [])]), (55, [(0, 2, 0, 0, [(-1), 0])]), (62, [(3, 1, 0, 0, [])])]), (65, [(1, [(3, 0, 0, 0, [])]), (5, [(0, 2, 0, 0, [47])]), (11, [(0, 2, 0, 0, [57])]), (18, [(3, 0, 0, 0, [])]), (33, [(3, 1, 0, 0, [])]), (48, [(0, 2, 0, 0, [39, 40])]), (76, [(3, 2, 0, 0, [])]), (83, [(3, 0, 0, 0, [])])]), (66, [(23, [(0, 2, 0, 0, [(-1)])]), (66, [(3, 1, 0, 0, [])])]), (68, [(7, [(0, 2, 0, 0, [(-1), 39])]), (42, [(3, 1, 0, 0, [])]), (48, [(0, 3, 0, 0, [(-1)])]), (62, [(3, 1, 0, 0, [])]), (81, [(3, 0, 0, 0, [])]), (85, [(3, 1, 0, 0, [])]), (92, [(3, 0, 0, 0, [])]), (98, [(3, 0, 0, 0, [])]), (118, [(3, 1, 0, 0, [])]), (128, [(3, 0, 0, 0, [])])]), (69, [(0, [(1, 0, 3, 0, [39])])]), (70, [(0, [(1, 0, 3, 0, [0])])]), (71, [(60, [(0, 1, 0, 0, [(-2147483649), 2147483646])]), (71, [(0, 1, 0, 0, [(-2147483648), 2147483647])]), (82, [(0, 1, 0, 0, [(-2147483649), 2147483647])]), (105, [(0, 2, 0, 0, [(-1), 0])])]), (76, [(3, [(3, 2, 0, 0, [])]), (11, [(3, 1, 0, 0, [])])]), (77, [(3, [(3, 2, 0, 0, [])]), (14, [(3, 1, 0, 0, [])]), (23, [(0, 3, 0, 0, [0])])]), (79, [(0, [(1, 0, 1, 0, [76])])])], [(80, [(0, [(0, 1, 0, 0, [(-1)])]), (4, [(0, 1, 0, 0, [(-1), 79])]), (12, [(0, 1, 0, 0, [39, 59])])]), (81, [(7, [(0, 3, 0, 0, [47])]), (13, [(0, 3, 0, 0, [57])])]), (83, [(14, [(3, 1, 0, 0, [])]), (22, [(0, 5, 0, 0, [(-1), 7])]), (52, [(3, 3, 0, 0, []), (3, 2, 0, 0, [])]), (116, [(1, 0, 7, 0, [(-1)])])]), (84, [(0, [(0, 1, 0, 0, [(-1), 3])]), (13, [(1, 0, 7, 0, [(-1)])]), (20, [(0, 5, 0, 0, [(-2), (-1), 510])]), (36, [(0, 3, 0, 0, [14])]), (42, [(0, 6, 0, 0, [(-1), 0])]), (71, [(0, 6, 0, 0, [(-1), 7])]), (120, [(3, 4, 0, 0, [])]), (141, [(3, 2, 0, 0, [])])]), (87, [(0, [(0, 1, 0, 0, [(-1)])]), (4, [(0, 1, 0, 0, [0, 80])])]), (88, [(13, [(0, 1, 0, 0, [0])]), (19, [(0, 2, 0, 0, [(-44), 0, 1, 2, 3, 4, 5]), (0, 1, 0, 0, [0, 1, 2, 3, 4, 5])])]), (89, [(13, [(0, 1, 0, 0, [0])])]), (90, [(4, [(3, 0, 0, 0, [])]), (16, [(0, 1, 0, 0, [(-1)])])]), (91, [(19, [(0, 2, 0, 0, [9])]), (25, [(0, 2, 0, 0, [14])]), (113, [(3, 1, 0, 0, [])]), (126, [(3, 1, 0, 0, [])]), (139, [(3, 1, 0, 0, [])]), (152, [(3, 1, 0, 0, [])])]), (93, [(115, [(3, 1, 0, 0, [])])]), (94, [(12, [(0, 3, 0, 0, [(-1)])]), (16, [(0, 3, 0, 0, [9])])]), (95, [(0, [(0, 1, 0, 0, [(-1)])]), (4, [(0, 1, 0, 0, [3])]), (9, [(0, 2, 0, 0, [6])]), (17, [(0, 1, 0, 0, [2, 3])]), (29, [(0, 5, 0, 0, [(-1), 0])]), (34, [(0, 2, 0, 0, [(-1)])]), (44, [(0, 6, 0, 0, [(-1), 5])]), (56, [(0, 5, 0, 0, [(-1), 0])]), (61, [(0, 6, 0, 0, [(-2147483649), 0, 1, 2, 3, 4, 2147483646]), (0, 2, 0, 0, [0, 1, 2, 3, 4, 5])]), (83, [(0, 7, 0, 0, [(-1), 0])]), (116, [(0, 5, 0, 0, [(-1), 0])]), (134, [(3, 0, 0, 0, [])])])], [(96, [(7, [(0, 3, 0, 0, [(-1)])]), (21, [(3, 0, 0, 0, [])]), (49, [(3, 3, 0, 0, []), (3, 2, 0, 0, [])]), (60, [(3, 2, 0, 0, [])]), (85, [(3, 3, 0, 0, [])])]), (97, [(0, [(0, 1, 0, 0, [(-1)])]), (4, [(0, 1, 0, 0, [60])]), (20, [(3, 0, 0, 0, [])]), (62, [(3, 0, 0, 0, [])])]), (98, [(20, [(3, 0, 0, 0, [])])]), (99, [(7, [(0, 3, 0, 0, [(-1)])]), (21, [(3, 0, 0, 0, [])])]), (100, [(5, [(0, 1, 0, 0, [(-1)])]), (29, [(3, 0, 0, 0, [])]), (49, [(0, 4, 0, 0, [(-1), 79])]), (61, [(0, 3, 0, 0, [(-1), 0])]), (115, [(0, 2, 0, 0, [0])]), (130, [(0, 3, 0, 0, [(-1), 0])])]), (101, [(8, [(3, 0, 0, 0, [])])]), (102, [(38, [(3, 3, 0, 0, []), (3, 2, 0, 0, [])])]), (103, [(26, [(0, 5, 0, 0, [(-1), 5])]), (67, [(3, 3, 0, 0, []), (3, 2, 0, 0, [])]), (72, [(0, 6, 0, 0, [(-1), 999])]), (99, [(0, 2, 0, 0, [(-1)])])]), (104, [(56, [(0, 8, 0, 0, [(-1), 7])]), (97, [(3, 3, 0, 0, []), (3, 2, 0, 0, [])]), (114, [(3, 4, 0, 0, [])]), (125, [(0, 5, 0, 0, [(-1)])]), (130, [(0, 10, 0, 0, [(-2), 20])]), (167, [(0, 10, 0, 0, [(-1), 20])]), (174, [(0, 11, 0, 0, [(-1), 0])]), (197, [(0, 5, 0, 0, [(-1)])])]), (105, [(24, [(3, 2, 0, 0, [])]), (28, [(0, 3, 0, 0, [(-1)])]), (42, [(0, 4, 0, 0, [(-3), 0, 1, 2, 3]), (0, 3, 0, 0, [0, 1, 2, 3])])]), (106, [(42, [(0, 4, 0, 0, [(-1), 5])]), (64, [(3, 1, 0, 0, [])]), (86, [(3, 2, 0, 0, [])]), (92, [(0, 5, 0, 0, [(-1), 0])])]), (107, [(13, [(0, 3, 0, 0, [(-1), 7])]), (29, [(0, 4, 0, 0, [(-1), 7])]), (50, [(0, 5, 0, 0, [0])]), (58, [(0, 5, 0, 0, [0, 1998])])]), (108, [(34, [(0, 3, 0, 0, [(-1)])]), (50, [(3, 0, 0, 0, [])])]), (109, [(0, [(0, 3, 0, 0, [(-1)])]), (4, [(0, 3, 0, 0, [9])]), (10, [(0, 4, 0, 0, [(-1)])]), (15, [(0, 4, 0, 0, [99])]), (29, [(0, 5, 0, 0, [(-1), 0])])]), (110, [(12, [(0, 3, 0, 0, [(-1)])]), (16, [(0, 3, 0, 0, [10])]), (35, [(0, 4, 0, 0, [(-1)])]), (40, [(0, 4, 0, 0, [12])])]), (111, [(21, [(3, 1, 0, 0, []), (3, 0, 0, 0, [])]), (33, [(3, 1, 0, 0, [])]), (37, [(0, 2, 0, 0, [99])])])], [(112, [(24, [(0, 5, 0, 0, [(-1), 7])]), (60, [(3, 1, 0, 0, [])]), (74, [(3, 1, 0, 0, []), (3, 0, 0, 0, [])]), (97, [(3, 1, 0, 0, [])]), (102, [(0, 6, 0, 0, [0, 99])]), (122, [(0, 3, 0, 0, [(-1)])])]), (113, [(24, [(3, 1, 0, 0, [])]), (37, [(3, 1, 0, 0, [])])]), (114, [(8, [(3, 0, 0, 0, [])]), (26, [(3, 0, 0, 0, [0, 1, 2, 3, 4, 5])])]), (115, [(8, [(3, 0, 0, 0, [])]), (12, [(0, 1, 0, 0, [(-1)])]), (28, [(0, 2, 0, 0, [(-2), 0, 1, 2, 3, 4, 5]), (0, 1, 0, 0, [0, 1, 2, 3, 4, 5])]), (75, [(3, 1, 0, 0, [])])]), (116, [(6, [(0, 1, 0, 0, [(-1)])]), (24, [(0, 3, 0, 0, [(-1), 5])]), (42, [(0, 4, 0, 0, [(-1)])]), (83, [(3, 1, 0, 0, [])])]), (120, [(8, [(3, 0, 0, 0, [])]), (16, [(0, 3, 0, 0, [(-1), 7])])]), (121, [(8, [(3, 0, 0, 0, [])]), (12, [(0, 1, 0, 0, [(-1), 0])]), (28, [(0, 4, 0, 0, [(-1), 5])]), (51, [(3, 1, 0, 0, [])]), (74, [(0, 6, 0, 0, [(-1), 8, 2147483646])]), (92, [(0, 2, 0, 0, [(-1)])])]), (122, [(4, [(3, 0, 0, 0, [])]), (16, [(0, 1, 0, 0, [(-1)])]), (31, [(3, 0, 0, 0, [])]), (40, [(3, 0, 0, 0, [])])]), (123, [(0, [(0, 1, 0, 0, [(-1)])]), (4, [(0, 1, 0, 0, [20])]), (59, [(0, 2, 0, 0, [(-1), 0])])]), (124, [(0, [(0, 2, 0, 0, [0])]), (5, [(0, 2, 0, 0, [60])]), (21, [(3, 1, 0, 0, []), (3, 0, 0, 0, [])]), (32, [(0, 5, 0, 0, [(-2147483649), 0, 1, 2, 3, 4, 5, 6, 7, 8, 9, 10, 11, 12, 13, 14, 15, 16, 17, 18, 19, 20, 59, 2147483646]), (0, 2, 0, 0, [0, 1, 2, 3, 4, 5, 6, 7, 8, 9, 10, 11, 12, 13, 14, 15, 16, 17, 18, 19, 20, 21, 22, 23])]), (59, [(3, 0, 0, 0, [])]), (65, [(2, 0, 2, 1, [0])]), (161, [(3, 0, 0, 0, [])])]), (125, [(21, [(3, 1, 0, 0, []), (3, 0, 0, 0, [])])]), (126, [(32, [(3, 1, 0, 0, []), (3, 0, 0, 0, [])])]), (127, [(100, [(3, 0, 0, 0, [])]), (120, [(3, 0, 0, 0, [])]), (132, [(3, 0, 0, 0, [])]), (144, [(3, 0, 0, 0, [])])])], [(128, [(0, [(0, 1, 0, 0, [(-1)])]), (4, [(0, 1, 0, 0, [(-1), 7])])]), (129, [(0, [(2, 0, 0, 1, [(-1), 0])]), (64, [(0, 5, 0, 0, [(-1)])]), (74, [(0, 5, 0, 0, [(-1), 0])]), (104, [(0, 1, 0, 0, [0, 80])])]), (130, [(0, [(2, 0, 0, 1, [(-1), 0])]), (49, [(0, 1, 0, 0, [(-1)])]), (55, [(0, 1, 0, 0, [(-1), 0, 80])])]), (131, [(11, [(0, 3, 0, 0, [(-1)])]), (15, [(0, 3, 0, 0, [4])]), (42, [(0, 5, 0, 0, [(-1)])]), (67, [(0, 6, 0, 0, [(-1)])]), (85, [(0, 5, 0, 0, [(-1), 0])]), (135, [(0, 7, 0, 0, [(-1)])]), (161, [(0, 8, 0, 0, [(-1), 5])])]), (134, [(10, [(0, 1, 0, 0, [(-1), 80])]), (35, [(0, 3, 0, 0, [(-1), 0])]), (44, [(0, 4, 0, 0, [(-1), 1, 2, 3]), (0, 3, 0, 0, [1, 2, 3])]), (65, [(0, 5, 0, 0, [(-1)])]), (76, [(0, 5, 0, 0, [(-1), 0])])]), (137, [(12, [(0, 3, 0, 0, [(-10)])]), (18, [(0, 3, 0, 0, [9])]), (24, [(0, 3, 0, 0, [(-1), 0])])]), (140, [(2, [(0, 2, 0, 0, [(-2), 0, 1, 2, 3, 4, 5, 6, 7, 8, 9, 10, 11, 12, 13, 14, 15, 16, 17, 18, 19, 20, 21, 59]), (0, 1, 0, 0, [0, 1, 2, 3, 4, 5, 6, 7, 8, 9, 10, 11, 12, 13, 14, 15, 16, 17, 18, 19, 20, 21, 22, 23])]), (15, [(3, 0, 0, 0, [])])]), (141, [(123, [(3, 1, 0, 0, [(-1), 7]), (3, 0, 0, 0, [(-1), 5])]), (137, [(3, 1, 0, 0, [(-1), 5]), (3, 0, 0, 0, [(-1), 5])]), (146, [(3, 2, 0, 0, [(-1), 5]), (3, 1, 0, 0, [(-1), 5])]), (156, [(3, 2, 0, 0, [(-1), 5]), (3, 1, 0, 0, [(-1), 5])])]), (142, [(35, [(3, 3, 0, 0, []), (3, 2, 0, 0, [])]), (38, [(3, 3, 0, 0, [])])])], [(145, [(39, [(3, 3, 0, 0, []), (3, 2, 0, 0, [])]), (42, [(3, 3, 0, 0, [])])]), (146, [(21, [(0, 3, 0, 0, [(-1), 5])]), (43, [(3, 3, 0, 0, []), (3, 2, 0, 0, [])]), (60, [(3, 3, 0, 0, []), (3, 2, 0, 0, [])]), (81, [(3, 3, 0, 0, []), (3, 2, 0, 0, [])]), (99, [(3, 3, 0, 0, []), (3, 2, 0, 0, [])]), (105, [(0, 5, 0, 0, [0])]), (110, [(0, 6, 0, 0, [0])])]), (147, [(7, [(0, 4, 0, 0, [(-1), 5])]), (29, [(3, 1, 0, 0, [])]), (43, [(0, 5, 0, 0, [(-1), 127])])]), (148, [(2, [(0, 2, 0, 0, [(-1), 5])]), (39, [(3, 1, 0, 0, [])])]), (149, [(4, [(0, 3, 0, 0, [(-1), 7])]), (35, [(3, 3, 0, 0, []), (3, 2, 0, 0, [])])]), (150, [(7, [(0, 5, 0, 0, [(-1), 0])])]), (151, [(16, [(0, 6, 0, 0, [(-1), 0])])]), (152, [(5, [(0, 4, 0, 0, [(-1), 0, 1, 2, 3, 4, 5, 6, 7, 8, 9, 10, 11]), (0, 1, 0, 0, [0, 1, 2, 3, 4, 5, 6, 7, 8, 9, 10, 11])])]), (154, [(0, [(0, 0, 0, 0, [0, 9])]), (9, [(0, 0, 0, 0, [(-1), 9])])]), (156, [(0, [(0, 1, 0, 0, [0])])])]]
abbrev cxP2 : Nat → Nat → List sp := spT cxPL2
def cxr_sign : con := (86, [(2, 0, 1), (0, -2147483648, 2147483647)], [], [some (0, -2147483648, 2147483647)], [], 10, 800, false)
theorem cxq_sign : con_chkS (kl bB cxF [cxt248]) PT bB 198 cxF cxJ cxjo cxP2 [] 411 cxr_sign = true := fq_chkS1 (fq_jn_eq _) rfl (by decide +kernel)   -- 11
theorem cxw_sign : con_ok PT bB 198 cxF cxQ cxr_sign := con_chkS_ok (fun _ _ h => h) cxpp (kl_ok (List.forall_mem_cons.mpr ⟨cxo248, fun _ h => (by cases h)⟩)) nw_class (fun h => by cases h) cxq_sign
def cxr_end : con := (87, [(2, 0, 1), (0, -2147483648, 2147483647)], [], [some (0, 0, 1)], [], 5, 400, false)
theorem cxq_end : con_chkS (kl bB cxF []) PT bB 198 cxF cxJ cxjo cxP2 [] 427 cxr_end = true := fq_chkS1 (fq_jn_eq _) rfl (by decide +kernel)   -- 27
theorem cxw_end : con_ok PT bB 198 cxF cxQ cxr_end := con_chkS_ok (fun _ _ h => h) cxpp (kl_ok (fun _ h => (by cases h))) nw_class (fun h => by cases h) cxq_end
end MG49cxr00x0
section MG49cxr00x1
/-! the calls themselves -/
def cxr_courts : con := (88, [(2, 0, 1)], [], [some (0, -2147483648, 2147483647)], [], 15, 1200, false)
theorem cxq_courts : con_chkS (kl bB cxF [cxt33, cxt34]) PT bB 198 cxF cxJ cxjo cxP2 [(2, 0, 2, 0, [0, 1, 2, 3, 4, 5])] 9978 cxr_courts = true := fq_chkS1 (fq_jn_eq _) rfl (by decide +kernel)   -- 9578
theorem cxw_courts : con_ok PT bB 198 cxF cxQ cxr_courts := con_chkS_ok (fun _ _ h => h) cxpp (kl_ok (List.forall_mem_cons.mpr ⟨cxo33, List.forall_mem_cons.mpr ⟨cxo34, fun _ h => (by cases h)⟩⟩)) nw_class (fun h => by cases h) cxq_courts
end MG49cxr00x1
section MG49cxr00x2
/-! the calls themselves -/
def cxr_gifts : con := (89, [(2, 0, 1)], [], [some (0, -2147483648, 2147483647)], [], 15, 1200, false)
theorem cxq_gifts : con_chkS (kl bB cxF [cxt33, cxt34]) PT bB 198 cxF cxJ cxjo cxP2 [(2, 0, 2, 1, [0, 1, 2, 3, 4, 5, 6, 7])] 9288 cxr_gifts = true := fq_chkS1 (fq_jn_eq _) rfl (by decide +kernel)   -- 8888
theorem cxw_gifts : con_ok PT bB 198 cxF cxQ cxr_gifts := con_chkS_ok (fun _ _ h => h) cxpp (kl_ok (List.forall_mem_cons.mpr ⟨cxo33, List.forall_mem_cons.mpr ⟨cxo34, fun _ h => (by cases h)⟩⟩)) nw_class (fun h => by cases h) cxq_gifts
end MG49cxr00x2
section MG49cxr00x3
/-! the calls themselves -/
def cxr_rule : con := (90, [(2, 0, 1)], [], [some (0, -2147483648, 2147483647)], [], 175, 14000, false)
theorem cxq_rule : con_chkS (kl bB cxF [cxt205, cxt240]) PT bB 198 cxF cxJ cxjo cxP2 [] 428 cxr_rule = true := fq_chkS1 (fq_jn_eq _) rfl (by decide +kernel)   -- 28
theorem cxw_rule : con_ok PT bB 198 cxF cxQ cxr_rule := con_chkS_ok (fun _ _ h => h) cxpp (kl_ok (List.forall_mem_cons.mpr ⟨cxo205, List.forall_mem_cons.mpr ⟨cxo240, fun _ h => (by cases h)⟩⟩)) nw_class (fun h => by cases h) cxq_rule
def cxr_road : con := (94, [(2, 0, 1), (0, -2147483648, 2147483647), (0, -2147483648, 2147483647), (0, -2147483648, 2147483647)], [], [some (0, -2147483648, 2147483647)], [], 5, 400, false)
theorem cxq_road : con_chkS (kl bB cxF []) PT bB 198 cxF cxJ cxjo cxP2 [(0, 1, 0, 0, [(-1), 5]), (0, 2, 0, 0, [(-1), 5])] 685 cxr_road = true := fq_chkS1 (fq_jn_eq _) rfl (by decide +kernel)   -- 285
theorem cxw_road : con_ok PT bB 198 cxF cxQ cxr_road := con_chkS_ok (fun _ _ h => h) cxpp (kl_ok (fun _ h => (by cases h))) nw_class (fun h => by cases h) cxq_road
def cxr_sheet : con := (95, [(2, 0, 1), (0, -2147483648, 2147483647), (0, -2147483648, 2147483647), (0, -2147483648, 2147483647), (0, -2147483648, 2147483647)], [], [some (0, -2147483648, 2147483647)], [], 10, 800, false)
theorem cxq_sheet : con_chkS (kl bB cxF [cxt148]) PT bB 198 cxF cxJ cxjo cxP2 [] 889 cxr_sheet = true := fq_chkS1 (fq_jn_eq _) rfl (by decide +kernel)   -- 489
theorem cxw_sheet : con_ok PT bB 198 cxF cxQ cxr_sheet := con_chkS_ok (fun _ _ h => h) cxpp (kl_ok (List.forall_mem_cons.mpr ⟨cxo148, fun _ h => (by cases h)⟩)) nw_class (fun h => by cases h) cxq_sheet
def cxr_send : con := (96, [(2, 0, 1), (0, -2147483648, 2147483647), (0, -2147483648, 2147483647)], [], [some (0, -2147483648, 2147483647)], [], 20, 1600, false)
theorem cxq_send : con_chkS (kl bB cxF [cxt48, cxt52, cxt54, cxt97, cxt121]) PT bB 198 cxF cxJ cxjo cxP2 [(0, 1, 0, 0, [(-1), 7]), (0, 2, 0, 0, [(-1), 5])] 733 cxr_send = true := fq_chkS1 (fq_jn_eq _) rfl (by decide +kernel)   -- 333
theorem cxw_send : con_ok PT bB 198 cxF cxQ cxr_send := con_chkS_ok (fun _ _ h => h) cxpp (kl_ok (List.forall_mem_cons.mpr ⟨cxo48, List.forall_mem_cons.mpr ⟨cxo52, List.forall_mem_cons.mpr ⟨cxo54, List.forall_mem_cons.mpr ⟨cxo97, List.forall_mem_cons.mpr ⟨cxo121, fun _ h => (by cases h)⟩⟩⟩⟩⟩)) nw_class (fun h => by cases h) cxq_send
def cxr_months : con := (97, [(2, 0, 1), (0, -2147483648, 2147483647)], [], [some (0, -2147483648, 2147483647)], [], 25, 2000, false)
theorem cxq_months : con_chkS (kl bB cxF [cxt41, cxt42, cxt97, cxt121, cxt148]) PT bB 198 cxF cxJ cxjo cxP2 [] 446 cxr_months = true := fq_chkS1 (fq_jn_eq _) rfl (by decide +kernel)   -- 46
theorem cxw_months : con_ok PT bB 198 cxF cxQ cxr_months := con_chkS_ok (fun _ _ h => h) cxpp (kl_ok (List.forall_mem_cons.mpr ⟨cxo41, List.forall_mem_cons.mpr ⟨cxo42, List.forall_mem_cons.mpr ⟨cxo97, List.forall_mem_cons.mpr ⟨cxo121, List.forall_mem_cons.mpr ⟨cxo148, fun _ h => (by cases h)⟩⟩⟩⟩⟩)) nw_class (fun h => by cases h) cxq_months
def cxr_envoy : con := (98, [(2, 0, 1), (0, -2147483648, 2147483647), (0, -2147483648, 2147483647), (0, -2147483648, 2147483647)], [], [some (0, -2147483648, 2147483647)], [], 20, 1600, false)
theorem cxq_envoy : con_chkS (kl bB cxF [cxt36, cxt121]) PT bB 198 cxF cxJ cxjo cxP2 [(0, 1, 0, 0, [(-1), 5]), (0, 2, 0, 0, [(-1), 5])] 755 cxr_envoy = true := fq_chkS1 (fq_jn_eq _) rfl (by decide +kernel)   -- 355
theorem cxw_envoy : con_ok PT bB 198 cxF cxQ cxr_envoy := con_chkS_ok (fun _ _ h => h) cxpp (kl_ok (List.forall_mem_cons.mpr ⟨cxo36, List.forall_mem_cons.mpr ⟨cxo121, fun _ h => (by cases h)⟩⟩)) nw_class (fun h => by cases h) cxq_envoy
def cxr_forgive : con := (99, [(2, 0, 1), (0, -2147483648, 2147483647), (0, -2147483648, 2147483647)], [], [some (0, -2147483648, 2147483647)], [], 20, 1600, false)
theorem cxq_forgive : con_chkS (kl bB cxF [cxt121]) PT bB 198 cxF cxJ cxjo cxP2 [(0, 1, 0, 0, [(-1), 5]), (0, 2, 0, 0, [(-1), 5])] 767 cxr_forgive = true := fq_chkS1 (fq_jn_eq _) rfl (by decide +kernel)   -- 367
theorem cxw_forgive : con_ok PT bB 198 cxF cxQ cxr_forgive := con_chkS_ok (fun _ _ h => h) cxpp (kl_ok (List.forall_mem_cons.mpr ⟨cxo121, fun _ h => (by cases h)⟩)) nw_class (fun h => by cases h) cxq_forgive
def cxr_year : con := (100, [(2, 0, 1)], [], [some (0, -2147483648, 2147483647)], [], 30, 2400, false)
theorem cxq_year : con_chkS (kl bB cxF [cxt33, cxt35, cxt42, cxt82, cxt97, cxt119, cxt120]) PT bB 198 cxF cxJ cxjo cxP2 [] 3117 cxr_year = true := fq_chkS1 (fq_jn_eq _) rfl (by decide +kernel)   -- 2717
theorem cxw_year : con_ok PT bB 198 cxF cxQ cxr_year := con_chkS_ok (fun _ _ h => h) cxpp (kl_ok (List.forall_mem_cons.mpr ⟨cxo33, List.forall_mem_cons.mpr ⟨cxo35, List.forall_mem_cons.mpr ⟨cxo42, List.forall_mem_cons.mpr ⟨cxo82, List.forall_mem_cons.mpr ⟨cxo97, List.forall_mem_cons.mpr ⟨cxo119, List.forall_mem_cons.mpr ⟨cxo120, fun _ h => (by cases h)⟩⟩⟩⟩⟩⟩⟩)) nw_class (fun h => by cases h) cxq_year
def cxr_undo : con := (101, [(2, 0, 1)], [], [some (0, -2147483648, 2147483647)], [], 15, 1200, false)
theorem cxq_undo : con_chkS (kl bB cxF [cxt138]) PT bB 198 cxF cxJ cxjo cxP2 [] 412 cxr_undo = true := fq_chkS1 (fq_jn_eq _) rfl (by decide +kernel)   -- 12
theorem cxw_undo : con_ok PT bB 198 cxF cxQ cxr_undo := con_chkS_ok (fun _ _ h => h) cxpp (kl_ok (List.forall_mem_cons.mpr ⟨cxo138, fun _ h => (by cases h)⟩)) nw_class (fun h => by cases h) cxq_undo
def cxr_value : con := (102, [(2, 0, 1), (0, -2147483648, 2147483647), (0, -2147483648, 2147483647)], [], [some (0, -2147483648, 2147483647)], [], 20, 1600, false)
theorem cxq_value : con_chkS (kl bB cxF [cxt48, cxt52]) PT bB 198 cxF cxJ cxjo cxP2 [(0, 1, 0, 0, [(-1), 7]), (0, 2, 0, 0, [(-1), 5])] 576 cxr_value = true := fq_chkS1 (fq_jn_eq _) rfl (by decide +kernel)   -- 176
theorem cxw_value : con_ok PT bB 198 cxF cxQ cxr_value := con_chkS_ok (fun _ _ h => h) cxpp (kl_ok (List.forall_mem_cons.mpr ⟨cxo48, List.forall_mem_cons.mpr ⟨cxo52, fun _ h => (by cases h)⟩⟩)) nw_class (fun h => by cases h) cxq_value
def cxr_where : con := (103, [(2, 0, 1), (0, -2147483648, 2147483647)], [], [some (0, -2147483648, 2147483647)], [], 20, 1600, false)
theorem cxq_where : con_chkS (kl bB cxF [cxt48, cxt52, cxt97]) PT bB 198 cxF cxJ cxjo cxP2 [(0, 1, 0, 0, [(-1), 7])] 679 cxr_where = true := fq_chkS1 (fq_jn_eq _) rfl (by decide +kernel)   -- 279
theorem cxw_where : con_ok PT bB 198 cxF cxQ cxr_where := con_chkS_ok (fun _ _ h => h) cxpp (kl_ok (List.forall_mem_cons.mpr ⟨cxo48, List.forall_mem_cons.mpr ⟨cxo52, List.forall_mem_cons.mpr ⟨cxo97, fun _ h => (by cases h)⟩⟩⟩)) nw_class (fun h => by cases h) cxq_where
def cxr_answer : con := (104, [(2, 0, 1), (0, -2147483648, 2147483647), (0, -2147483648, 2147483647)], [], [some (0, -2147483648, 2147483647)], [], 20, 1600, false)
theorem cxq_answer : con_chkS (kl bB cxF [cxt48, cxt52, cxt53, cxt97]) PT bB 198 cxF cxJ cxjo cxP2 [(0, 1, 0, 0, [(-1), 5]), (0, 2, 0, 0, [(-1), 5])] 1279 cxr_answer = true := fq_chkS1 (fq_jn_eq _) rfl (by decide +kernel)   -- 879
theorem cxw_answer : con_ok PT bB 198 cxF cxQ cxr_answer := con_chkS_ok (fun _ _ h => h) cxpp (kl_ok (List.forall_mem_cons.mpr ⟨cxo48, List.forall_mem_cons.mpr ⟨cxo52, List.forall_mem_cons.mpr ⟨cxo53, List.forall_mem_cons.mpr ⟨cxo97, fun _ h => (by cases h)⟩⟩⟩⟩)) nw_class (fun h => by cases h) cxq_answer
def cxr_wins : con := (105, [(2, 0, 1), (0, -2147483648, 2147483647), (0, -2147483648, 2147483647)], [], [some (0, -2147483648, 2147483647)], [], 35, 2800, false)
theorem cxq_wins : con_chkS (kl bB cxF [cxt96, cxt254, cxt255]) PT bB 198 cxF cxJ cxjo cxP2 [(0, 1, 0, 0, [(-1), 5]), (0, 2, 0, 0, [(-1), 5])] 755 cxr_wins = true := fq_chkS1 (fq_jn_eq _) rfl (by decide +kernel)   -- 355
theorem cxw_wins : con_ok PT bB 198 cxF cxQ cxr_wins := con_chkS_ok (fun _ _ h => h) cxpp (kl_ok (List.forall_mem_cons.mpr ⟨cxo96, List.forall_mem_cons.mpr ⟨cxo254, List.forall_mem_cons.mpr ⟨cxo255, fun _ h => (by cases h)⟩⟩⟩)) nw_class (fun h => by cases h) cxq_wins
def cxr_unseen : con := (106, [(2, 0, 1), (0, -2147483648, 2147483647)], [], [some (0, -2147483648, 2147483647)], [], 15, 1200, false)
theorem cxq_unseen : con_chkS (kl bB cxF [cxt42, cxt91, cxt170]) PT bB 198 cxF cxJ cxjo cxP2 [(0, 1, 0, 0, [(-1), 7])] 770 cxr_unseen = true := fq_chkS1 (fq_jn_eq _) rfl (by decide +kernel)   -- 370
theorem cxw_unseen : con_ok PT bB 198 cxF cxQ cxr_unseen := con_chkS_ok (fun _ _ h => h) cxpp (kl_ok (List.forall_mem_cons.mpr ⟨cxo42, List.forall_mem_cons.mpr ⟨cxo91, List.forall_mem_cons.mpr ⟨cxo170, fun _ h => (by cases h)⟩⟩⟩)) nw_class (fun h => by cases h) cxq_unseen
end MG49cxr00x3
section MG49cxr00x4
/-! the calls themselves -/
def cxr_swaps : con := (107, [(2, 0, 1)], [], [some (0, -2147483648, 2147483647)], [], 25, 2000, false)
theorem cxq_swaps : con_chkS (kl bB cxF [cxt88, cxt96, cxt97]) PT bB 198 cxF cxJ cxjo cxP2 [] 1584 cxr_swaps = true := fq_chkS1 (fq_jn_eq _) rfl (by decide +kernel)   -- 1184
theorem cxw_swaps : con_ok PT bB 198 cxF cxQ cxr_swaps := con_chkS_ok (fun _ _ h => h) cxpp (kl_ok (List.forall_mem_cons.mpr ⟨cxo88, List.forall_mem_cons.mpr ⟨cxo96, List.forall_mem_cons.mpr ⟨cxo97, fun _ h => (by cases h)⟩⟩⟩)) nw_class (fun h => by cases h) cxq_swaps
def cxr_way : con := (108, [(2, 0, 1), (0, -2147483648, 2147483647), (0, -2147483648, 2147483647)], [], [some (0, -2147483648, 2147483647)], [], 15, 1200, false)
theorem cxq_way : con_chkS (kl bB cxF [cxt156, cxt158]) PT bB 198 cxF cxJ cxjo cxP2 [(0, 1, 0, 0, [(-1), 5]), (0, 2, 0, 0, [(-1), 5])] 586 cxr_way = true := fq_chkS1 (fq_jn_eq _) rfl (by decide +kernel)   -- 186
theorem cxw_way : con_ok PT bB 198 cxF cxQ cxr_way := con_chkS_ok (fun _ _ h => h) cxpp (kl_ok (List.forall_mem_cons.mpr ⟨cxo156, List.forall_mem_cons.mpr ⟨cxo158, fun _ h => (by cases h)⟩⟩)) nw_class (fun h => by cases h) cxq_way
def cxr_walks : con := (109, [(2, 0, 1), (0, -2147483648, 2147483647), (0, -2147483648, 2147483647), (0, -2147483648, 2147483647), (0, -2147483648, 2147483647)], [], [some (0, -2147483648, 2147483647)], [], 15, 1200, false)
theorem cxq_walks : con_chkS (kl bB cxF [cxt169]) PT bB 198 cxF cxJ cxjo cxP2 [(0, 1, 0, 0, [(-1), 5]), (0, 2, 0, 0, [(-1), 5])] 826 cxr_walks = true := fq_chkS1 (fq_jn_eq _) rfl (by decide +kernel)   -- 426
theorem cxw_walks : con_ok PT bB 198 cxF cxQ cxr_walks := con_chkS_ok (fun _ _ h => h) cxpp (kl_ok (List.forall_mem_cons.mpr ⟨cxo169, fun _ h => (by cases h)⟩)) nw_class (fun h => by cases h) cxq_walks
def cxr_alive : con := (110, [(2, 0, 1), (0, -2147483648, 2147483647), (0, -2147483648, 2147483647), (0, -2147483648, 2147483647)], [], [some (0, -2147483648, 2147483647)], [], 20, 1600, false)
theorem cxq_alive : con_chkS (kl bB cxF [cxt98, cxt99, cxt156]) PT bB 198 cxF cxJ cxjo cxP2 [(0, 1, 0, 0, [(-1), 5]), (0, 2, 0, 0, [(-1), 5])] 671 cxr_alive = true := fq_chkS1 (fq_jn_eq _) rfl (by decide +kernel)   -- 271
theorem cxw_alive : con_ok PT bB 198 cxF cxQ cxr_alive := con_chkS_ok (fun _ _ h => h) cxpp (kl_ok (List.forall_mem_cons.mpr ⟨cxo98, List.forall_mem_cons.mpr ⟨cxo99, List.forall_mem_cons.mpr ⟨cxo156, fun _ h => (by cases h)⟩⟩⟩)) nw_class (fun h => by cases h) cxq_alive
def cxr_feeds : con := (111, [(2, 0, 1), (0, -2147483648, 2147483647)], [], [some (0, -2147483648, 2147483647)], [], 20, 1600, false)
theorem cxq_feeds : con_chkS (kl bB cxF [cxt97, cxt102, cxt154, cxt247]) PT bB 198 cxF cxJ cxjo cxP2 [(0, 1, 0, 0, [(-1), 5])] 485 cxr_feeds = true := fq_chkS1 (fq_jn_eq _) rfl (by decide +kernel)   -- 85
theorem cxw_feeds : con_ok PT bB 198 cxF cxQ cxr_feeds := con_chkS_ok (fun _ _ h => h) cxpp (kl_ok (List.forall_mem_cons.mpr ⟨cxo97, List.forall_mem_cons.mpr ⟨cxo102, List.forall_mem_cons.mpr ⟨cxo154, List.forall_mem_cons.mpr ⟨cxo247, fun _ h => (by cases h)⟩⟩⟩⟩)) nw_class (fun h => by cases h) cxq_feeds
def cxr_starves : con := (112, [(2, 0, 1), (0, -2147483648, 2147483647), (0, -2147483648, 2147483647)], [], [some (0, -2147483648, 2147483647)], [], 20, 1600, false)
theorem cxq_starves : con_chkS (kl bB cxF [cxt38, cxt154, cxt170, cxt247]) PT bB 198 cxF cxJ cxjo cxP2 [(0, 1, 0, 0, [(-1), 5]), (0, 2, 0, 0, [(-1), 5])] 1045 cxr_starves = true := fq_chkS1 (fq_jn_eq _) rfl (by decide +kernel)   -- 645
theorem cxw_starves : con_ok PT bB 198 cxF cxQ cxr_starves := con_chkS_ok (fun _ _ h => h) cxpp (kl_ok (List.forall_mem_cons.mpr ⟨cxo38, List.forall_mem_cons.mpr ⟨cxo154, List.forall_mem_cons.mpr ⟨cxo170, List.forall_mem_cons.mpr ⟨cxo247, fun _ h => (by cases h)⟩⟩⟩⟩)) nw_class (fun h => by cases h) cxq_starves
def cxr_net : con := (113, [(2, 0, 1), (0, -2147483648, 2147483647)], [], [some (0, -2147483648, 2147483647)], [], 15, 1200, false)
theorem cxq_net : con_chkS (kl bB cxF [cxt2, cxt3, cxt97]) PT bB 198 cxF cxJ cxjo cxP2 [(0, 1, 0, 0, [(-1), 5])] 468 cxr_net = true := fq_chkS1 (fq_jn_eq _) rfl (by decide +kernel)   -- 68
theorem cxw_net : con_ok PT bB 198 cxF cxQ cxr_net := con_chkS_ok (fun _ _ h => h) cxpp (kl_ok (List.forall_mem_cons.mpr ⟨cxo2, List.forall_mem_cons.mpr ⟨cxo3, List.forall_mem_cons.mpr ⟨cxo97, fun _ h => (by cases h)⟩⟩⟩)) nw_class (fun h => by cases h) cxq_net
def cxr_settle : con := (114, [(2, 0, 1)], [], [some (0, -2147483648, 2147483647)], [], 15, 1200, false)
theorem cxq_settle : con_chkS (kl bB cxF [cxt4, cxt5, cxt6, cxt7, cxt8, cxt9, cxt10, cxt11, cxt170]) PT bB 198 cxF cxJ cxjo cxP2 [] 416 cxr_settle = true := fq_chkS1 (fq_jn_eq _) rfl (by decide +kernel)   -- 16
theorem cxw_settle : con_ok PT bB 198 cxF cxQ cxr_settle := con_chkS_ok (fun _ _ h => h) cxpp (kl_ok (List.forall_mem_cons.mpr ⟨cxo4, List.forall_mem_cons.mpr ⟨cxo5, List.forall_mem_cons.mpr ⟨cxo6, List.forall_mem_cons.mpr ⟨cxo7, List.forall_mem_cons.mpr ⟨cxo8, List.forall_mem_cons.mpr ⟨cxo9, List.forall_mem_cons.mpr ⟨cxo10, List.forall_mem_cons.mpr ⟨cxo11, List.forall_mem_cons.mpr ⟨cxo170, fun _ h => (by cases h)⟩⟩⟩⟩⟩⟩⟩⟩⟩)) nw_class (fun h => by cases h) cxq_settle
def cxr_ring : con := (115, [(2, 0, 1)], [], [some (0, -2147483648, 2147483647)], [], 40, 3200, false)
theorem cxq_ring : con_chkS (kl bB cxF [cxt32, cxt37, cxt96]) PT bB 198 cxF cxJ cxjo cxP2 [] 601 cxr_ring = true := fq_chkS1 (fq_jn_eq _) rfl (by decide +kernel)   -- 201
theorem cxw_ring : con_ok PT bB 198 cxF cxQ cxr_ring := con_chkS_ok (fun _ _ h => h) cxpp (kl_ok (List.forall_mem_cons.mpr ⟨cxo32, List.forall_mem_cons.mpr ⟨cxo37, List.forall_mem_cons.mpr ⟨cxo96, fun _ h => (by cases h)⟩⟩⟩)) nw_class (fun h => by cases h) cxq_ring
def cxr_ranks : con := (116, [(2, 0, 1)], [], [some (0, -2147483648, 2147483647)], [], 15, 1200, false)
theorem cxq_ranks : con_chkS (kl bB cxF [cxt89, cxt90, cxt96]) PT bB 198 cxF cxJ cxjo cxP2 [] 594 cxr_ranks = true := fq_chkS1 (fq_jn_eq _) rfl (by decide +kernel)   -- 194
theorem cxw_ranks : con_ok PT bB 198 cxF cxQ cxr_ranks := con_chkS_ok (fun _ _ h => h) cxpp (kl_ok (List.forall_mem_cons.mpr ⟨cxo89, List.forall_mem_cons.mpr ⟨cxo90, List.forall_mem_cons.mpr ⟨cxo96, fun _ h => (by cases h)⟩⟩⟩)) nw_class (fun h => by cases h) cxq_ranks
def cxr_league : con := (117, [(2, 0, 1)], [], [some (0, -2147483648, 2147483647)], [], 15, 1200, false)
theorem cxq_league : con_chkS (kl bB cxF [cxt42, cxt92, cxt170]) PT bB 198 cxF cxJ cxjo cxP2 [] 1679 cxr_league = true := fq_chkS1 (fq_jn_eq _) rfl (by decide +kernel)   -- 1279
theorem cxw_league : con_ok PT bB 198 cxF cxQ cxr_league := con_chkS_ok (fun _ _ h => h) cxpp (kl_ok (List.forall_mem_cons.mpr ⟨cxo42, List.forall_mem_cons.mpr ⟨cxo92, List.forall_mem_cons.mpr ⟨cxo170, fun _ h => (by cases h)⟩⟩⟩)) nw_class (fun h => by cases h) cxq_league
def cxr_heard : con := (118, [(2, 0, 1), (0, -2147483648, 2147483647), (0, -2147483648, 2147483647)], [], [some (0, -2147483648, 2147483647)], [], 15, 1200, false)
theorem cxq_heard : con_chkS (kl bB cxF [cxt1]) PT bB 198 cxF cxJ cxjo cxP2 [] 412 cxr_heard = true := fq_chkS1 (fq_jn_eq _) rfl (by decide +kernel)   -- 12
theorem cxw_heard : con_ok PT bB 198 cxF cxQ cxr_heard := con_chkS_ok (fun _ _ h => h) cxpp (kl_ok (List.forall_mem_cons.mpr ⟨cxo1, fun _ h => (by cases h)⟩)) nw_class (fun h => by cases h) cxq_heard
def cxr_forget : con := (119, [(2, 0, 1)], [], [some (0, -2147483648, 2147483647)], [], 5, 400, false)
theorem cxq_forget : con_chkS (kl bB cxF []) PT bB 198 cxF cxJ cxjo cxP2 [] 410 cxr_forget = true := fq_chkS1 (fq_jn_eq _) rfl (by decide +kernel)   -- 10
theorem cxw_forget : con_ok PT bB 198 cxF cxQ cxr_forget := con_chkS_ok (fun _ _ h => h) cxpp (kl_ok (fun _ h => (by cases h))) nw_class (fun h => by cases h) cxq_forget
def cxr_fits : con := (120, [(2, 0, 1)], [], [some (0, -2147483648, 2147483647)], [], 20, 1600, false)
theorem cxq_fits : con_chkS (kl bB cxF [cxt42, cxt97, cxt142]) PT bB 198 cxF cxJ cxjo cxP2 [] 593 cxr_fits = true := fq_chkS1 (fq_jn_eq _) rfl (by decide +kernel)   -- 193
theorem cxw_fits : con_ok PT bB 198 cxF cxQ cxr_fits := con_chkS_ok (fun _ _ h => h) cxpp (kl_ok (List.forall_mem_cons.mpr ⟨cxo42, List.forall_mem_cons.mpr ⟨cxo97, List.forall_mem_cons.mpr ⟨cxo142, fun _ h => (by cases h)⟩⟩⟩)) nw_class (fun h => by cases h) cxq_fits
def cxr_ask : con := (121, [(2, 0, 1)], [], [some (0, -2147483648, 2147483647)], [], 20, 1600, false)
theorem cxq_ask : con_chkS (kl bB cxF [cxt42, cxt142, cxt143, cxt170]) PT bB 198 cxF cxJ cxjo cxP2 [] 656 cxr_ask = true := fq_chkS1 (fq_jn_eq _) rfl (by decide +kernel)   -- 256
theorem cxw_ask : con_ok PT bB 198 cxF cxQ cxr_ask := con_chkS_ok (fun _ _ h => h) cxpp (kl_ok (List.forall_mem_cons.mpr ⟨cxo42, List.forall_mem_cons.mpr ⟨cxo142, List.forall_mem_cons.mpr ⟨cxo143, List.forall_mem_cons.mpr ⟨cxo170, fun _ h => (by cases h)⟩⟩⟩⟩)) nw_class (fun h => by cases h) cxq_ask
def cxr_law : con := (122, [(2, 0, 1)], [], [some (0, -2147483648, 2147483647)], [], 175, 14000, false)
theorem cxq_law : con_chkS (kl bB cxF [cxt93, cxt94, cxt97, cxt205, cxt240]) PT bB 198 cxF cxJ cxjo cxP2 [] 437 cxr_law = true := fq_chkS1 (fq_jn_eq _) rfl (by decide +kernel)   -- 37
theorem cxw_law : con_ok PT bB 198 cxF cxQ cxr_law := con_chkS_ok (fun _ _ h => h) cxpp (kl_ok (List.forall_mem_cons.mpr ⟨cxo93, List.forall_mem_cons.mpr ⟨cxo94, List.forall_mem_cons.mpr ⟨cxo97, List.forall_mem_cons.mpr ⟨cxo205, List.forall_mem_cons.mpr ⟨cxo240, fun _ h => (by cases h)⟩⟩⟩⟩⟩)) nw_class (fun h => by cases h) cxq_law
end MG49cxr00x4
section MG49cxr00x5
/-! the calls themselves -/
def cxr_rests : con := (123, [(2, 0, 1), (0, -2147483648, 2147483647)], [], [some (0, -2147483648, 2147483647)], [], 15, 1200, false)
theorem cxq_rests : con_chkS (kl bB cxF [cxt97, cxt101]) PT bB 198 cxF cxJ cxjo cxP2 [] 3226 cxr_rests = true := fq_chkS1 (fq_jn_eq _) rfl (by decide +kernel)   -- 2826
theorem cxw_rests : con_ok PT bB 198 cxF cxQ cxr_rests := con_chkS_ok (fun _ _ h => h) cxpp (kl_ok (List.forall_mem_cons.mpr ⟨cxo97, List.forall_mem_cons.mpr ⟨cxo101, fun _ h => (by cases h)⟩⟩)) nw_class (fun h => by cases h) cxq_rests
end MG49cxr00x5
section MG49cxr00x6
/-! the calls themselves -/
def cxr_years : con := (124, [(2, 0, 1), (0, -2147483648, 2147483647), (0, -2147483648, 2147483647)], [], [some (0, -2147483648, 2147483647)], [], 25, 2000, false)
theorem cxq_years : con_chkS (kl bB cxF [cxt42, cxt87, cxt97, cxt150, cxt153, cxt247]) PT bB 198 cxF cxJ cxjo cxP2 [] 7521 cxr_years = true := fq_chkS1 (fq_jn_eq _) rfl (by decide +kernel)   -- 7121
theorem cxw_years : con_ok PT bB 198 cxF cxQ cxr_years := con_chkS_ok (fun _ _ h => h) cxpp (kl_ok (List.forall_mem_cons.mpr ⟨cxo42, List.forall_mem_cons.mpr ⟨cxo87, List.forall_mem_cons.mpr ⟨cxo97, List.forall_mem_cons.mpr ⟨cxo150, List.forall_mem_cons.mpr ⟨cxo153, List.forall_mem_cons.mpr ⟨cxo247, fun _ h => (by cases h)⟩⟩⟩⟩⟩⟩)) nw_class (fun h => by cases h) cxq_years
end MG49cxr00x6
section MG49cxr00x7
/-! the calls themselves -/
def cxr_keep : con := (125, [(2, 0, 1), (0, -2147483648, 2147483647)], [], [some (0, 0, 1)], [], 10, 800, false)
theorem cxq_keep : con_chkS (kl bB cxF [cxt241, cxt245, cxt246]) PT bB 198 cxF cxJ cxjo cxP2 [(0, 1, 0, 0, [(-1), 0, 1, 2])] 477 cxr_keep = true := fq_chkS1 (fq_jn_eq _) rfl (by decide +kernel)   -- 77
theorem cxw_keep : con_ok PT bB 198 cxF cxQ cxr_keep := con_chkS_ok (fun _ _ h => h) cxpp (kl_ok (List.forall_mem_cons.mpr ⟨cxo241, List.forall_mem_cons.mpr ⟨cxo245, List.forall_mem_cons.mpr ⟨cxo246, fun _ h => (by cases h)⟩⟩⟩)) nw_class (fun h => by cases h) cxq_keep
def cxr_again : con := (126, [(2, 0, 1), (0, -2147483648, 2147483647)], [], [some (0, 0, 1)], [], 10, 800, false)
theorem cxq_again : con_chkS (kl bB cxF [cxt242, cxt243, cxt244]) PT bB 198 cxF cxJ cxjo cxP2 [(0, 1, 0, 0, [(-1), 0, 1, 2])] 501 cxr_again = true := fq_chkS1 (fq_jn_eq _) rfl (by decide +kernel)   -- 101
theorem cxw_again : con_ok PT bB 198 cxF cxQ cxr_again := con_chkS_ok (fun _ _ h => h) cxpp (kl_ok (List.forall_mem_cons.mpr ⟨cxo242, List.forall_mem_cons.mpr ⟨cxo243, List.forall_mem_cons.mpr ⟨cxo244, fun _ h => (by cases h)⟩⟩⟩)) nw_class (fun h => by cases h) cxq_again
def cxr_count : con := (127, [(2, 0, 1), (0, -2147483648, 2147483647)], [], [some (0, -2147483648, 2147483647)], [], 15, 1200, false)
theorem cxq_count : con_chkS (kl bB cxF [cxt145, cxt146, cxt147, cxt148, cxt256]) PT bB 198 cxF cxJ cxjo cxP2 [] 464 cxr_count = true := fq_chkS1 (fq_jn_eq _) rfl (by decide +kernel)   -- 64
theorem cxw_count : con_ok PT bB 198 cxF cxQ cxr_count := con_chkS_ok (fun _ _ h => h) cxpp (kl_ok (List.forall_mem_cons.mpr ⟨cxo145, List.forall_mem_cons.mpr ⟨cxo146, List.forall_mem_cons.mpr ⟨cxo147, List.forall_mem_cons.mpr ⟨cxo148, List.forall_mem_cons.mpr ⟨cxo256, fun _ h => (by cases h)⟩⟩⟩⟩⟩)) nw_class (fun h => by cases h) cxq_count
end MG49cxr00x7
section MG49cxr00x8
/-! by hand: the model's object (cell 162, class 11), its fields and arrays -/
section HND
variable {k fr lo pc sl : Nat} {L : pm_L} {S r : List Value} {h : pm_H} {Q : pm_Rs → Prop}
theorem ls_of {T : pm_Tab} {sz : Nat} {go : Nat → Nat → Nat → List Value → pm_H → Nat → Nat → Option pm_Rs} {ins : Instr} {len : Nat} (hi : pm_ins T k pc = some (ins, len)) (hl : pm_lenOk ins len = true) (hc : pm_callee T k ins = none) : pm_step T go fr lo k (pc, L, S, h, sz, sl) = pm_simple T fr lo k ins pc L S h sz sl := by
  unfold pm_step
  dsimp only
  rw [hi]
  dsimp only
  rw [if_pos hl, hc]
theorem wp_i {T : pm_Tab} {sz : Nat} {ins : Instr} {len : Nat} {st' : pm_St} (hi : pm_ins T k pc = some (ins, len)) (hl : pm_lenOk ins len = true) (hc : pm_callee T k ins = none) (hs : pm_simple T fr lo k ins pc L S h sz sl = some st') (kk : pm_WP T fr lo k st' Q) : pm_WP T fr lo k (pc, L, S, h, sz, sl) Q := wp_step ((ls_of hi hl hc).trans hs) kk
def mF (h : pm_H) (f : Nat) (v : Value) : Prop := ∃ fs, h 162 = .inr (11, fs) ∧ fs[f]? = some v
def mset (h : pm_H) (f : Nat) (v : Value) : pm_H := match h 162 with
  | .inr (ci, fs) => va_up h 162 (.inr (ci, fs.set f v))
  | _ => h
def aset (h : pm_H) (a n : Nat) (f : Nat → Int32) : pm_H := va_up h a (.inl (0, n, .inl f))
theorem mF_obj {f : Nat} {v : Value} (q : mF h f v) : ∃ fs, h 162 = .inr (11, fs) := by
  obtain ⟨fs, e, -⟩ := q
  exact ⟨fs, e⟩
theorem mF_inj {f : Nat} {v w : Value} (q : mF h f v) (q' : mF h f w) : v = w := by
  obtain ⟨fs, e, e1⟩ := q
  obtain ⟨fs', e', e1'⟩ := q'
  rw [e] at e'
  cases e'
  rw [e1] at e1'
  exact Option.some.inj e1'
theorem mset_of {f : Nat} {v : Value} {fs : List Value} (e : h 162 = .inr (11, fs)) : mset h f v = va_up h 162 (.inr (11, fs.set f v)) := by
  unfold mset
  rw [e]
theorem mF_self {f : Nat} {v w : Value} (q : mF h f w) : mF (mset h f v) f v := by
  obtain ⟨fs, e, e1⟩ := q
  refine ⟨fs.set f v, by rw [mset_of e]; simp [va_up], ?_⟩
  exact List.getElem?_set_self (List.getElem?_eq_some_iff.mp e1).1
theorem mF_ne {f g : Nat} {v w : Value} (hn : f ≠ g) (q : mF h g w) : mF (mset h f v) g w := by
  obtain ⟨fs, e, e1⟩ := q
  exact ⟨fs.set f v, by rw [mset_of e]; simp [va_up], by rw [List.getElem?_set_ne hn]; exact e1⟩
theorem mF_as {a n g : Nat} {f : Nat → Int32} {w : Value} (hn : 162 ≠ a) (q : mF h g w) : mF (aset h a n f) g w := by
  obtain ⟨fs, e, e1⟩ := q
  exact ⟨fs, by unfold aset; simp [va_up, hn, e], e1⟩
theorem mset_ne {f i : Nat} {v : Value} (hn : i ≠ 162) : mset h f v i = h i := by
  unfold mset
  cases e : h 162 with
  | inl a => rfl
  | inr o => obtain ⟨ci, fs⟩ := o; simp [va_up, hn]
theorem mset_arr {f a n : Nat} {v : Value} {g : Nat → Int32} (hn : a ≠ 162) (q : h a = .inl (0, n, .inl g)) : mset h f v a = .inl (0, n, .inl g) := by
  rw [mset_ne hn]
  exact q
theorem aset_self (h : pm_H) (a n : Nat) (f : Nat → Int32) : aset h a n f a = .inl (0, n, .inl f) := by simp [aset, va_up]
theorem aset_ne {a b n m : Nat} {f g : Nat → Int32} (hn : b ≠ a) (q : h b = .inl (0, m, .inl g)) : aset h a n f b = .inl (0, m, .inl g) := by simp [aset, va_up, hn, q]
theorem aset_nei {a b n : Nat} {f : Nat → Int32} (hn : b ≠ a) : aset h a n f b = h b := by simp [aset, va_up, hn]
theorem aset_aset {a n : Nat} {f g : Nat → Int32} : aset (aset h a n f) a n g = aset h a n g := by
  unfold aset
  funext i
  by_cases e : i = a <;> simp [va_up, e]
theorem set_same {fs : List Value} {f : Nat} {v : Value} (e : fs[f]? = some v) : fs.set f v = fs := by
  apply List.ext_getElem?
  intro i
  by_cases hi : f = i
  · subst hi
    rw [List.getElem?_set_self (List.getElem?_eq_some_iff.mp e).1, e]
  · rw [List.getElem?_set_ne hi]
theorem mset_same {f : Nat} {v : Value} (q : mF h f v) : mset h f v = h := by
  obtain ⟨fs, e, e1⟩ := q
  rw [mset_of e]
  funext i
  by_cases hi : i = 162
  · subst hi
    simp only [va_up, if_pos]
    rw [e, set_same e1]
  · simp [va_up, hi]
theorem mset_mset {f : Nat} {v w : Value} : mset (mset h f v) f w = mset h f w := by
  cases e : h 162 with
  | inl a => simp [mset, e]
  | inr o =>
    obtain ⟨ci, fs⟩ := o
    have e1 : mset h f v = va_up h 162 (.inr (ci, fs.set f v)) := by unfold mset; rw [e]
    rw [e1]
    unfold mset
    rw [e]
    simp only [va_up, if_pos, List.set_set]
    funext i
    by_cases hi : i = 162 <;> simp [va_up, hi]
theorem wp_gfm {j f t : Nat} {v : Value} (hi : pm_ins PT k pc = some (.getfield j, 3)) (hf : pm_fld PT (pm_o PT k) j = some (11, f, t)) (hm : mF h f v) (kk : pm_WP PT fr lo k (pc + 3, L, v :: r, h, 198, sl) Q) : pm_WP PT fr lo k (pc, L, .ref 162 :: r, h, 198, sl) Q := by
  obtain ⟨fs, e, e1⟩ := hm
  refine wp_i hi rfl rfl ?_ kk
  show pm_gf PT k j pc L (.ref 162 :: r) h 198 sl = _
  unfold pm_gf pm_obj
  dsimp only
  rw [if_pos (by decide), e]
  dsimp only
  rw [hf]
  dsimp only
  rw [if_pos rfl, e1]
theorem wp_pfm {j f t : Nat} {v w : Value} (hi : pm_ins PT k pc = some (.putfield j, 3)) (hf : pm_fld PT (pm_o PT k) j = some (11, f, t)) (ht : pm_fits (t % 10) v = true) (ht2 : t < 10) (hm : mF h f w) (kk : pm_WP PT fr lo k (pc + 3, L, r, mset h f v, 198, sl) Q) : pm_WP PT fr lo k (pc, L, v :: .ref 162 :: r, h, 198, sl) Q := by
  obtain ⟨fs, e, e1⟩ := hm
  rw [mset_of e] at kk
  refine wp_i hi rfl rfl ?_ kk
  show pm_pf PT k j pc L (v :: .ref 162 :: r) h 198 sl = _
  unfold pm_pf pm_obj
  dsimp only
  rw [if_pos (by decide), e]
  dsimp only
  rw [hf]
  dsimp only
  rw [if_pos ⟨rfl, (List.getElem?_eq_some_iff.mp e1).1, ht, Or.inl ht2⟩]
theorem pm_iar_m {a n : Nat} {f : Nat → Int32} (ha : h a = .inl (0, n, .inl f)) (hl : a < 198) : pm_iar PT .int h 198 a = some (0, n, f) := by
  unfold pm_iar
  rw [if_pos hl, ha]
  exact if_pos rfl
theorem wp_iam {a n : Nat} {i : Int32} {f : Nat → Int32} (hi : pm_ins PT k pc = some (.iaload, 1)) (ha : h a = .inl (0, n, .inl f)) (hin : pm_in i n = true) (hl : a < 198) (kk : pm_WP PT fr lo k (pc + 1, L, .int (f i.toNatClampNeg) :: r, h, 198, sl) Q) : pm_WP PT fr lo k (pc, L, .int i :: .ref a :: r, h, 198, sl) Q := by
  refine wp_i hi rfl rfl ?_ kk
  show pm_ia PT .int pc L (.int i :: .ref a :: r) h 198 sl = _
  unfold pm_ia
  dsimp only
  rw [pm_iar_m ha hl]
  dsimp only
  rw [if_pos hin]
theorem wp_ism {a n : Nat} {i x : Int32} {f : Nat → Int32} (hi : pm_ins PT k pc = some (.iastore, 1)) (ha : h a = .inl (0, n, .inl f)) (hin : pm_in i n = true) (hl : a < 198) (kk : pm_WP PT fr lo k (pc + 1, L, r, aset h a n (upd f i.toNatClampNeg x), 198, sl) Q) : pm_WP PT fr lo k (pc, L, .int x :: .int i :: .ref a :: r, h, 198, sl) Q := by
  refine wp_i hi rfl rfl ?_ kk
  show pm_iS PT .int (fun x => x) pc L (.int x :: .int i :: .ref a :: r) h 198 sl = _
  unfold pm_iS
  dsimp only
  rw [pm_iar_m ha hl]
  dsimp only
  rw [if_pos hin]
  rfl
theorem wp_callS {T : pm_Tab} {sz t mx j : Nat} {As rest : List Value} (hi : pm_ins T k pc = some (.invokestatic j, 3)) (hm : pm_mlk T (pm_o T k) j = some (2, t)) (hn : pm_na T t = As.length) (hmx : pm_max T t = mx) (hsum : pm_sum rest ≤ 8) (ha : (pm_args As).length ≤ mx) (hf : 1 ≤ fr) (hl : 19 + mx ≤ lo)
    (kk : pm_WP T (fr - 1) (lo - (19 + mx)) t (0, pm_l0 As mx, [], h, sz, sl) (fun r => pm_WP T fr lo k (pc + 3, L, r.1.toList ++ rest, r.2) Q)) : pm_WP T fr lo k (pc, L, As.reverse ++ rest, h, sz, sl) Q := by
  refine wp_call (As := As) (rest := rest) ?_ hmx hf hl kk
  have htk : (As.reverse ++ rest).take As.length = As.reverse := by rw [← List.length_reverse, List.take_left']; rfl
  have hdr : (As.reverse ++ rest).drop As.length = rest := by rw [← List.length_reverse, List.drop_left']; rfl
  unfold pm_cd
  dsimp only
  rw [hi]
  dsimp only
  have hcal : pm_callee T k (.invokestatic j) = some (2, t) := by
    unfold pm_callee
    dsimp only
    rw [hm]
    rfl
  rw [if_pos (show pm_lenOk (Instr.invokestatic j) 3 = true from rfl), hcal]
  dsimp only
  rw [hn, htk, hdr, List.reverse_reverse, hmx]
  refine if_pos ⟨?_, ?_, hsum, ha⟩
  · rw [List.length_append, List.length_reverse]
    omega
  · unfold pm_rcv
    rw [if_pos (Or.inl rfl)]
/-- a method of the model's object -/
theorem wp_callM {t mx j : Nat} {As rest : List Value} (hi : pm_ins PT k pc = some (.invokevirtual j, 3)) (hm : pm_mlk PT (pm_o PT k) j = some (0, t)) (hn : pm_na PT t = As.length + 1) (hmx : pm_max PT t = mx) (hsum : pm_sum rest ≤ 8) (ha : (pm_args (.ref 162 :: As)).length ≤ mx) (hf : 1 ≤ fr) (hl : 19 + mx ≤ lo) (hci : pm_ci PT t = 11) (ho : ∃ fs, h 162 = .inr (11, fs))
    (kk : pm_WP PT (fr - 1) (lo - (19 + mx)) t (0, pm_l0 (.ref 162 :: As) mx, [], h, 198, sl) (fun r => pm_WP PT fr lo k (pc + 3, L, r.1.toList ++ rest, r.2) Q)) : pm_WP PT fr lo k (pc, L, As.reverse ++ .ref 162 :: rest, h, 198, sl) Q := by
  refine wp_call (As := .ref 162 :: As) (rest := rest) ?_ hmx hf hl kk
  have hS : As.reverse ++ Value.ref 162 :: rest = (Value.ref 162 :: As).reverse ++ rest := by simp
  have hn' : pm_na PT t = (Value.ref 162 :: As).length := by simp [hn]
  rw [hS]
  generalize hA : (Value.ref 162 :: As) = A1 at hn' ha ⊢
  have htk : (A1.reverse ++ rest).take A1.length = A1.reverse := by rw [← List.length_reverse, List.take_left']; rfl
  have hdr : (A1.reverse ++ rest).drop A1.length = rest := by rw [← List.length_reverse, List.drop_left']; rfl
  unfold pm_cd
  dsimp only
  rw [hi]
  dsimp only
  have hcal : pm_callee PT k (.invokevirtual j) = some (0, t) := by
    unfold pm_callee
    dsimp only
    rw [hm]
    rfl
  rw [if_pos (show pm_lenOk (Instr.invokevirtual j) 3 = true from rfl), hcal]
  dsimp only
  rw [hn', htk, hdr, List.reverse_reverse, hmx]
  refine if_pos ⟨?_, ?_, hsum, ha⟩
  · rw [List.length_append, List.length_reverse]
    omega
  · rw [← hA]
    unfold pm_rcv
    rw [if_neg (by omega)]
    obtain ⟨fs, e⟩ := ho
    dsimp only [pm_obj]
    rw [if_pos (by decide), e]
    dsimp only
    rw [hci]
    rfl
theorem wp_iret {T : pm_Tab} {sz : Nat} {v : Int32} (hi : pm_ins T k pc = some (.ireturn, 1)) (hr : pm_ret T k = some .int) (hq : Q (some (.int v), h, sz, sl)) : pm_WP T fr lo k (pc, L, [.int v], h, sz, sl) Q := by
  refine wp_end (r := (some (.int v), h, sz, sl)) ?_ hq
  unfold pm_end
  dsimp only
  rw [hi]
  dsimp only [pm_lenOk, pm_rets]
  rw [hr]
  rfl
theorem wp_lret {T : pm_Tab} {sz : Nat} {v : Int64} (hi : pm_ins T k pc = some (.lreturn, 1)) (hr : pm_ret T k = some .long) (hq : Q (some (.long v), h, sz, sl)) : pm_WP T fr lo k (pc, L, [.long v], h, sz, sl) Q := by
  refine wp_end (r := (some (.long v), h, sz, sl)) ?_ hq
  unfold pm_end
  dsimp only
  rw [hi]
  dsimp only [pm_lenOk, pm_rets]
  rw [hr]
  rfl
theorem wp_vret {T : pm_Tab} {sz : Nat} (hi : pm_ins T k pc = some (.return_, 1)) (hr : pm_ret T k = none) (hq : Q (none, h, sz, sl)) : pm_WP T fr lo k (pc, L, [], h, sz, sl) Q := by
  refine wp_end (r := (none, h, sz, sl)) ?_ hq
  unfold pm_end
  dsimp only
  rw [hi]
  dsimp only [pm_lenOk, pm_rets]
  rw [hr]
  rfl
theorem wp_zret {T : pm_Tab} {sz : Nat} {v : Int32} (hi : pm_ins T k pc = some (.ireturn, 1)) (hr : pm_ret T k = some .boolean) (hv : v = 0 ∨ v = 1) (hq : Q (some (.int v), h, sz, sl)) : pm_WP T fr lo k (pc, L, [.int v], h, sz, sl) Q := by
  refine wp_end (r := (some (.int v), h, sz, sl)) ?_ hq
  unfold pm_end
  dsimp only
  rw [hi]
  dsimp only [pm_lenOk, pm_rets]
  rw [hr]
  dsimp only
  rw [if_pos hv]
  rfl
theorem rs_t {c : Jvm.ClassFile.Cond} {x y : Int32} {P : Prop} [d : Decidable P] (e : pm_cmp c x y = decide P) : (pm_cmp c x y = true → P) ∧ (pm_cmp c x y = false → ¬ P) := by
  rw [e]
  exact ⟨of_decide_eq_true, of_decide_eq_false⟩
end HND
/-! numbers -/
section NUM
theorem hI_mul (a b : Nat) : nI a * nI b = nI (a * b) := (Int32.ofNat_mul a b).symm
theorem hI_in {a n : Nat} (h : a < n) (hn : n < 2 ^ 31) : pm_in (nI a) n = true := decide_eq_true (nI_in h hn)
theorem hI_eq {a b : Nat} (ha : a < 2 ^ 31) (hb : b < 2 ^ 31) : pm_cmp .eq (nI a) (nI b) = decide (a = b) := by simp only [pm_cmp]; rw [decide_eq_decide]; exact nI_eq ha hb
theorem hI_ne {a b : Nat} (ha : a < 2 ^ 31) (hb : b < 2 ^ 31) : pm_cmp .ne (nI a) (nI b) = decide (¬ a = b) := by simp only [pm_cmp]; rw [decide_eq_decide]; exact not_congr (nI_eq ha hb)
theorem hI_lt {a b : Nat} (ha : a < 2 ^ 31) (hb : b < 2 ^ 31) : pm_cmp .lt (nI a) (nI b) = decide (a < b) := by simp only [pm_cmp]; rw [decide_eq_decide]; exact nI_ltI ha hb
theorem hI_gt {a b : Nat} (ha : a < 2 ^ 31) (hb : b < 2 ^ 31) : pm_cmp .gt (nI a) (nI b) = decide (b < a) := by simp only [pm_cmp]; rw [decide_eq_decide]; exact nI_ltI hb ha
theorem hI_le {a b : Nat} (ha : a < 2 ^ 31) (hb : b < 2 ^ 31) : pm_cmp .le (nI a) (nI b) = decide (a ≤ b) := by simp only [pm_cmp]; rw [decide_eq_decide]; exact nI_leI ha hb
theorem hI_ge {a b : Nat} (ha : a < 2 ^ 31) (hb : b < 2 ^ 31) : pm_cmp .ge (nI a) (nI b) = decide (b ≤ a) := by simp only [pm_cmp]; rw [decide_eq_decide]; exact nI_leI hb ha
theorem hI_of {x : Int32} (h : 0 ≤ x.toInt) : ∃ n : Nat, x = nI n ∧ n < 2 ^ 31 ∧ x.toInt = n := by
  have h2 := Int32.toInt_lt x
  refine ⟨x.toInt.toNat, ?_, by omega, by omega⟩
  apply Int32.toInt_inj.1
  rw [nI_toInt (by omega)]
  omega
end NUM
/-! what a run changes: the cells C, the fields G of the model's object -/
section DIF
def dD (C G : Nat → Bool) (h h' : pm_H) : Prop := (∀ i, i ≠ 162 → C i = false → h' i = h i) ∧ ∀ fs, h 162 = .inr (11, fs) → ∃ fs', h' 162 = .inr (11, fs') ∧ fs'.length = fs.length ∧ ∀ g, G g = false → fs'[g]? = fs[g]?
variable {C G C' G' : Nat → Bool} {h h' h'' : pm_H}
theorem dD_rf (h : pm_H) : dD C G h h := ⟨fun _ _ _ => rfl, fun fs e => ⟨fs, e, rfl, fun _ _ => rfl⟩⟩
theorem dD_tr (p : dD C G h h') (q : dD C G h' h'') : dD C G h h'' := by
  refine ⟨fun i a b => (q.1 i a b).trans (p.1 i a b), fun fs e => ?_⟩
  obtain ⟨fs1, e1, l1, g1⟩ := p.2 fs e
  obtain ⟨fs2, e2, l2, g2⟩ := q.2 fs1 e1
  exact ⟨fs2, e2, l2.trans l1, fun g hg => (g2 g hg).trans (g1 g hg)⟩
theorem dD_mono (p : dD C G h h') (hC : ∀ i, C' i = false → C i = false) (hG : ∀ i, G' i = false → G i = false) : dD C' G' h h' := by
  refine ⟨fun i a b => p.1 i a (hC i b), fun fs e => ?_⟩
  obtain ⟨fs1, e1, l1, g1⟩ := p.2 fs e
  exact ⟨fs1, e1, l1, fun g hg => g1 g (hG g hg)⟩
theorem dD_set {f : Nat} {v : Value} (hf : G f = true) : dD C G h (mset h f v) := by
  refine ⟨fun i a _ => mset_ne a, fun fs e => ⟨fs.set f v, by rw [mset_of e]; simp [va_up], by simp, fun g hg => ?_⟩⟩
  have : f ≠ g := fun q => by rw [q, hg] at hf; cases hf
  rw [List.getElem?_set_ne this]
theorem dD_arr {a n : Nat} {f : Nat → Int32} (ha : C a = true) (ha2 : 162 ≠ a) : dD C G h (aset h a n f) := by
  refine ⟨fun i _ b => aset_nei (fun q => by rw [q, ha] at b; cases b), fun fs e => ⟨fs, ?_, rfl, fun _ _ => rfl⟩⟩
  rw [aset_nei ha2]
  exact e
theorem dD_mF {f : Nat} {v : Value} (p : dD C G h h') (hf : G f = false) (q : mF h f v) : mF h' f v := by
  obtain ⟨fs, e, e1⟩ := q
  obtain ⟨fs', e', -, g⟩ := p.2 fs e
  exact ⟨fs', e', (g f hf).trans e1⟩
theorem dD_obj (p : dD C G h h') (q : ∃ fs, h 162 = .inr (11, fs)) : ∃ fs, h' 162 = .inr (11, fs) := by
  obtain ⟨fs, e⟩ := q
  obtain ⟨fs', e', -⟩ := p.2 fs e
  exact ⟨fs', e'⟩
/-- the typing is kept -/
theorem dD_ty (hh : ah_ok bB 198 [] h) (p : dD C G h h') (hC : ∀ i, C i = true → i ≠ 162 → i < 198 → ac_ok (h' i) (bB i)) (hG : ∀ g, G g = true → ∀ a, sp_fld bB [] 162 g = some a → ∃ v, mF h' g v ∧ av_ok v a) : ah_ok bB 198 [] h' := by
  intro i hi
  show ac_ok (h' i) (bB i)
  by_cases e : i = 162
  · subst e
    have h0 : ac_ok (h 162) (bB 162) := hh 162 hi
    have hb : ∃ as, bB 162 = .inr (11, as) := ⟨_, rfl⟩
    obtain ⟨as, eb⟩ := hb
    rw [eb] at h0 ⊢
    obtain ⟨fs, ef, hl, hg⟩ := aE_obj h0 (by decide)
    obtain ⟨fs', ef', hl', hg'⟩ := p.2 fs ef
    rw [ef']
    refine ⟨⟨rfl, by decide⟩, hl'.trans hl, fun j v a hv ha => ?_⟩
    cases hq : G j with
    | false => exact hg j v a (by rw [← hg' j hq]; exact hv) ha
    | true =>
      obtain ⟨w, ⟨fs2, e2, e3⟩, hw⟩ := hG j hq a (by unfold sp_fld; rw [show ah_get bB [] 162 = bB 162 from rfl, eb]; exact ha)
      rw [ef'] at e2
      cases e2
      rw [hv] at e3
      cases e3
      exact hw
  · cases hc : C i with
    | false => rw [p.1 i e hc]; exact hh i hi
    | true => exact hC i hc e hi
theorem ty_fld (hh : ah_ok bB 198 [] h) {g : Nat} {a : av} (ha : sp_fld bB [] 162 g = some a) : ∃ v, mF h g v ∧ av_ok v a := by
  have h0 : ac_ok (h 162) (bB 162) := hh 162 (by decide)
  have hb : ∃ as, bB 162 = .inr (11, as) := ⟨_, rfl⟩
  obtain ⟨as, eb⟩ := hb
  rw [eb] at h0
  obtain ⟨fs, ef, hl, hg⟩ := aE_obj h0 (by decide)
  unfold sp_fld at ha
  rw [show ah_get bB [] 162 = bB 162 from rfl, eb] at ha
  have ha : as[g]? = some a := ha
  have hlt : g < fs.length := by have := (List.getElem?_eq_some_iff.mp ha).1; omega
  exact ⟨fs[g], ⟨fs, ef, List.getElem?_eq_getElem hlt⟩, hg g fs[g] a (List.getElem?_eq_getElem hlt) ha⟩
theorem ty_ref (hh : ah_ok bB 198 [] h) {g : Nat} {p : Nat} (ha : sp_fld bB [] 162 g = some (2, (p : Int), 1)) : mF h g (.ref p) := by
  obtain ⟨v, h1, h2⟩ := ty_fld hh ha
  obtain ⟨q, rfl, hq⟩ := av_ref rfl h2
  have : q = p := by simpa [av_ids] using hq
  subst this
  exact h1
theorem ty_int (hh : ah_ok bB 198 [] h) {g : Nat} {l u : Int} (ha : sp_fld bB [] 162 g = some (0, l, u)) : ∃ x : Int32, mF h g (.int x) ∧ l ≤ x.toInt ∧ x.toInt ≤ u := by
  obtain ⟨v, h1, h2⟩ := ty_fld hh ha
  obtain ⟨x, rfl, h3⟩ := av_int rfl h2
  exact ⟨x, h1, h3⟩
/-- a field that holds a number from 0 to u -/
theorem ty_nat (hh : ah_ok bB 198 [] h) {g u : Nat} (ha : sp_fld bB [] 162 g = some (0, 0, (u : Int))) (hu : u < 1000000) : ∃ n : Nat, mF h g (.int (nI n)) ∧ n ≤ u := by
  obtain ⟨x, h1, h2, h3⟩ := ty_int hh ha
  have h4 := Int32.toInt_lt x
  refine ⟨x.toInt.toNat, ?_, by omega⟩
  have : nI x.toInt.toNat = x := by
    apply Int32.toInt_inj.1
    rw [nI_toInt (by omega)]
    omega
  rw [this]
  exact h1
/-- an array of ints, known by one interval -/
theorem ty_arr (hh : ah_ok bB 198 [] h) {i n : Nat} {a : av} (hi : i < 198) (hb : bB i = .inl (0, n, a)) (ha : a.1 = 0) (hn : 0 < n) : ∃ f : Nat → Int32, h i = .inl (0, n, .inl f) ∧ ∀ j, j < n → a.2.1 ≤ (f j).toInt ∧ (f j).toInt ≤ a.2.2 := by
  have h0 : ac_ok (h i) (bB i) := hh i hi
  rw [hb] at h0
  cases e : h i with
  | inr o => rw [e] at h0; obtain ⟨ci, fs⟩ := o; exact h0.elim
  | inl o =>
    rw [e] at h0
    obtain ⟨kd, m, f | f | f | f | f⟩ := o
    · obtain ⟨rfl, rfl, q⟩ := h0
      exact ⟨f, rfl, fun j hj => (q j hj).2⟩
    · obtain ⟨rfl, rfl, q⟩ := h0
      have := (q 0 hn).1
      omega
    · exact h0.elim
    · exact h0.elim
    · obtain ⟨rfl, rfl, q⟩ := h0
      have q := q 0 hn
      unfold aq at q
      rw [if_neg (by omega)] at q
      cases e2 : f 0 with
      | none => rw [e2] at q; have q : a.1 = 3 := q; omega
      | some p => rw [e2] at q; have := q.1; omega
/-- an array of ints, known place by place -/
theorem ty_arrE (hh : ah_ok bB 198 [] h) {i : Nat} {as : List av} (hi : i < 198) (hb : bB i = .inr (1000, as)) : ∃ f : Nat → Int32, h i = .inl (0, as.length, .inl f) ∧ ∀ j a, as[j]? = some a → av_ok (.int (f j)) a := by
  have h0 : ac_ok (h i) (bB i) := hh i hi
  rw [hb] at h0
  cases e : h i with
  | inr o => rw [e] at h0; obtain ⟨ci, fs⟩ := o; have := h0.1.2; have h2 := h0.1.1; omega
  | inl o =>
    rw [e] at h0
    obtain ⟨kd, m, f | f | f | f | f⟩ := o
    · obtain ⟨q1, rfl, q⟩ := h0
      have : kd = 0 := by omega
      subst this
      exact ⟨f, rfl, q⟩
    · exact h0.elim
    · exact h0.elim
    · exact h0.elim
    · exact h0.elim
end DIF
end MG49cxr00x8
section MG49cxr00x9
/-! length and charAt of a constant -/
section LIBW
variable {k fr lo pc sl : Nat} {L : pm_L} {r : List Value} {h : pm_H} {Q : pm_Rs → Prop}
theorem wp_libL {j i x : Nat} (hi : pm_ins PT k pc = some (.invokevirtual j, 3)) (hm : pm_mlk PT (pm_o PT k) j = some (10, x)) (h5 : i < 5) (hf : 5 ≤ fr) (hl : 200 ≤ lo) (hs : pm_sum r ≤ 8) (kk : pm_WP PT fr lo k (pc + 3, L, .int (nI (st_tx i).length) :: r, h, 198, sl) Q) : pm_WP PT fr lo k (pc, L, .retAddr i :: r, h, 198, sl) Q := by
  refine wp_i hi rfl ?_ ?_ kk
  · unfold pm_callee
    dsimp only
    rw [hm]
    rfl
  · show pm_libV PT fr lo k j pc L (.retAddr i :: r) h 198 sl = _
    unfold pm_libV
    rw [hm]
    exact if_pos ⟨h5, hf, hl, hs⟩
theorem wp_libC {j i x : Nat} {n : Int32} (hi : pm_ins PT k pc = some (.invokevirtual j, 3)) (hm : pm_mlk PT (pm_o PT k) j = some (11, x)) (h5 : i < 5) (hf : 5 ≤ fr) (hl : 200 ≤ lo) (hs : pm_sum r ≤ 8) (hn : pm_in n (st_tx i).length = true) (kk : pm_WP PT fr lo k (pc + 3, L, .int ((st_tx i).getD n.toNatClampNeg 0) :: r, h, 198, sl) Q) : pm_WP PT fr lo k (pc, L, .int n :: .retAddr i :: r, h, 198, sl) Q := by
  refine wp_i hi rfl ?_ ?_ kk
  · unfold pm_callee
    dsimp only
    rw [hm]
    rfl
  · show pm_libV PT fr lo k j pc L (.int n :: .retAddr i :: r) h 198 sl = _
    unfold pm_libV
    rw [hm]
    exact if_pos ⟨h5, hf, hl, hs, hn⟩
end LIBW
/-! the reference's small methods, by hand: what they answer, what they do -/
section PRM
variable {fr lo sl : Nat} {h : pm_H}
theorem lgc_lt (x y : Int64) : pm_cmp .lt (lg_cmp x y) 0 = decide (x < y) := by
  simp only [pm_cmp]
  rw [decide_eq_decide]
  exact lg_cmp_lt x y
theorem lgc_gt (x y : Int64) : pm_cmp .gt (lg_cmp x y) 0 = decide (y < x) := by
  simp only [pm_cmp]
  rw [decide_eq_decide]
  exact lg_cmp_gt x y
def in_b (v l u : Int64) : Bool := !(decide (v < l)) && !(decide (u < v))
theorem hd_in (v l u : Int64) : pm_WP PT fr lo 163 (0, pm_l0 [.long v, .long l, .long u] 6, [], h, 198, sl) (fun r => r = (some (.int (cond (in_b v l u) 1 0)), h, 198, sl)) := by
  refine wp_i rfl rfl rfl rfl ?_
  refine wp_i rfl rfl rfl rfl ?_
  refine wp_i rfl rfl rfl rfl ?_
  show pm_WP PT fr lo 163 (3, [some (.long v), none, some (.long l), none, some (.long u), none], [.int (lg_cmp v l)], h, 198, sl) _
  refine wp_if (c := .lt) (off := 14) (t := 17) rfl rfl (fun q => ?_) (fun q => ?_)
  · have q : v < l := of_decide_eq_true ((lgc_lt v l).symm.trans q)
    have e : in_b v l u = false := by simp [in_b, q]
    rw [e]
    refine wp_i rfl rfl rfl rfl ?_
    show pm_WP PT fr lo 163 (18, [some (.long v), none, some (.long l), none, some (.long u), none], [.int 0], h, 198, sl) _
    exact wp_zret rfl rfl (by decide) rfl
  · have q1 : ¬ v < l := of_decide_eq_false ((lgc_lt v l).symm.trans q)
    refine wp_i rfl rfl rfl rfl ?_
    refine wp_i rfl rfl rfl rfl ?_
    refine wp_i rfl rfl rfl rfl ?_
    show pm_WP PT fr lo 163 (10, [some (.long v), none, some (.long l), none, some (.long u), none], [.int (lg_cmp v u)], h, 198, sl) _
    refine wp_if (c := .gt) (off := 7) (t := 17) rfl rfl (fun q => ?_) (fun q => ?_)
    · have q2 : u < v := of_decide_eq_true ((lgc_gt v u).symm.trans q)
      have e : in_b v l u = false := by simp [in_b, q2]
      rw [e]
      refine wp_i rfl rfl rfl rfl ?_
      show pm_WP PT fr lo 163 (18, [some (.long v), none, some (.long l), none, some (.long u), none], [.int 0], h, 198, sl) _
      exact wp_zret rfl rfl (by decide) rfl
    · have q2 : ¬ u < v := of_decide_eq_false ((lgc_gt v u).symm.trans q)
      have e : in_b v l u = true := by simp [in_b, q1, q2]
      rw [e]
      refine wp_i rfl rfl rfl rfl ?_
      refine wp_i rfl rfl rfl rfl ?_
      show pm_WP PT fr lo 163 (18, [some (.long v), none, some (.long l), none, some (.long u), none], [.int 1], h, 198, sl) _
      exact wp_zret rfl rfl (by decide) rfl
theorem hd_flag (b : Bool) : pm_WP PT fr lo 165 (0, pm_l0 [.int (cond b 1 0)] 1, [], h, 198, sl) (fun r => r = (some (.int (cond b 1 0)), h, 198, sl)) := by
  cases b with
  | true =>
    refine wp_i rfl rfl rfl rfl ?_
    refine wp_i rfl rfl rfl rfl ?_
    refine wp_i rfl rfl rfl rfl ?_
    refine wp_i rfl rfl rfl rfl ?_
    show pm_WP PT fr lo 165 (9, [some (.int 1)], [.int 1], h, 198, sl) _
    exact wp_iret rfl rfl rfl
  | false =>
    refine wp_i rfl rfl rfl rfl ?_
    refine wp_i rfl rfl rfl rfl ?_
    refine wp_i rfl rfl rfl rfl ?_
    show pm_WP PT fr lo 165 (9, [some (.int 0)], [.int 0], h, 198, sl) _
    exact wp_iret rfl rfl rfl
theorem hd_takes {a t : Nat} {tp : Nat → Int32} (h16 : mF h 16 (.int (nI a))) (h17 : mF h 17 (.int (nI t))) (h14 : mF h 14 (.ref 172)) (hA : h 172 = .inl (0, 80, .inl tp)) (ht : t ≤ 80) (ha : a < 1000) (hf : 2 ≤ fr) (hl : 100 ≤ lo) (s : Int32) : pm_WP PT fr lo 181 (0, pm_l0 [.ref 162, .int s] 3, [], h, 198, sl) (fun r => r = (some (.int (cond (decide (a < t ∧ tp a = s)) 1 0)), mset h 16 (.int (nI (a + cond (decide (a < t ∧ tp a = s)) 1 0))), 198, sl)) := by
  have tail : ∀ c : Bool, pm_WP PT fr lo 181 (29, [some (.ref 162), some (.int s), none], [.int (cond c 1 0)], h, 198, sl) (fun r => r = (some (.int (cond c 1 0)), mset h 16 (.int (nI (a + cond c 1 0))), 198, sl)) := by
    intro c
    refine wp_i rfl rfl rfl rfl ?_
    refine wp_i rfl rfl rfl rfl ?_
    refine wp_i rfl rfl rfl rfl ?_
    show pm_WP PT fr lo 181 (32, [some (.ref 162), some (.int s), some (.int (cond c 1 0))], [.ref 162, .ref 162], h, 198, sl) _
    refine wp_gfm rfl rfl h16 ?_
    refine wp_i rfl rfl rfl rfl ?_
    show pm_WP PT fr lo 181 (36, [some (.ref 162), some (.int s), some (.int (cond c 1 0))], [.int (cond c 1 0), .int (nI a), .ref 162], h, 198, sl) _
    refine wp_callS (t := 165) (As := [.int (cond c 1 0)]) (rest := [.int (nI a), .ref 162]) (mx := 1) rfl rfl rfl rfl (Nat.le_of_ble_eq_true rfl) (Nat.le_of_ble_eq_true rfl) (by omega) (by omega) (wp_mono (hd_flag c) ?_)
    rintro _ rfl
    have e1 : nI a + cond c 1 0 = nI (a + cond c 1 0) := by cases c; exact nI_add a 0; exact nI_add a 1
    refine wp_i rfl rfl rfl rfl ?_
    show pm_WP PT fr lo 181 (40, [some (.ref 162), some (.int s), some (.int (cond c 1 0))], [.int (nI a + cond c 1 0), .ref 162], h, 198, sl) _
    rw [e1]
    show pm_WP PT fr lo 181 (40, [some (.ref 162), some (.int s), some (.int (cond c 1 0))], [.int (nI (a + cond c 1 0)), .ref 162], h, 198, sl) _
    refine wp_pfm rfl rfl rfl (by decide) h16 ?_
    refine wp_i rfl rfl rfl rfl ?_
    show pm_WP PT fr lo 181 (44, [some (.ref 162), some (.int s), some (.int (cond c 1 0))], [.int (cond c 1 0)], (mset h 16 (.int (nI (a + cond c 1 0)))), 198, sl) _
    exact wp_zret rfl rfl (by cases c; exact Or.inl rfl; exact Or.inr rfl) rfl
  refine wp_i rfl rfl rfl rfl ?_
  show pm_WP PT fr lo 181 (1, [some (.ref 162), some (.int s), none], [.ref 162], h, 198, sl) _
  refine wp_gfm rfl rfl h16 ?_
  refine wp_i rfl rfl rfl rfl ?_
  show pm_WP PT fr lo 181 (5, [some (.ref 162), some (.int s), none], [.ref 162, .int (nI a)], h, 198, sl) _
  refine wp_gfm rfl rfl h17 ?_
  show pm_WP PT fr lo 181 (8, [some (.ref 162), some (.int s), none], [.int (nI t), .int (nI a)], h, 198, sl) _
  refine wp_icmp (c := .ge) (off := 20) (t := 28) rfl rfl (fun q => ?_) (fun q => ?_)
  · have q : t ≤ a := of_decide_eq_true ((hI_ge (by omega) (by omega)).symm.trans q)
    rw [decide_eq_false (by omega)]
    refine wp_i rfl rfl rfl rfl ?_
    show pm_WP PT fr lo 181 (29, [some (.ref 162), some (.int s), none], [.int 0], h, 198, sl) _
    exact tail false
  · have q0 : ¬ t ≤ a := of_decide_eq_false ((hI_ge (by omega) (by omega)).symm.trans q)
    refine wp_i rfl rfl rfl rfl ?_
    show pm_WP PT fr lo 181 (12, [some (.ref 162), some (.int s), none], [.ref 162], h, 198, sl) _
    refine wp_gfm rfl rfl h14 ?_
    refine wp_i rfl rfl rfl rfl ?_
    show pm_WP PT fr lo 181 (16, [some (.ref 162), some (.int s), none], [.ref 162, .ref 172], h, 198, sl) _
    refine wp_gfm rfl rfl h16 ?_
    show pm_WP PT fr lo 181 (19, [some (.ref 162), some (.int s), none], [.int (nI a), .ref 172], h, 198, sl) _
    refine wp_iam rfl hA (hI_in (by omega) (by omega)) (by decide) ?_
    rw [nI_clamp (by omega)]
    refine wp_i rfl rfl rfl rfl ?_
    show pm_WP PT fr lo 181 (21, [some (.ref 162), some (.int s), none], [.int s, .int (tp a)], h, 198, sl) _
    refine wp_icmp (c := .ne) (off := 7) (t := 28) rfl rfl (fun q => ?_) (fun q => ?_)
    · have q : ¬ tp a = s := (rs_t (P := ¬ tp a = s) rfl).1 q
      rw [decide_eq_false (fun z => q z.2)]
      refine wp_i rfl rfl rfl rfl ?_
      show pm_WP PT fr lo 181 (29, [some (.ref 162), some (.int s), none], [.int 0], h, 198, sl) _
      exact tail false
    · have q : tp a = s := Decidable.not_not.mp ((rs_t (P := ¬ tp a = s) rfl).2 q)
      rw [decide_eq_true ⟨by omega, q⟩]
      refine wp_i rfl rfl rfl rfl ?_
      refine wp_i rfl rfl rfl rfl ?_
      show pm_WP PT fr lo 181 (29, [some (.ref 162), some (.int s), none], [.int 1], h, 198, sl) _
      exact tail true
def dg (tp : Nat → Int32) (a t : Nat) : Bool := decide (a < t) && in_b (tp a).toInt64 48 57
theorem hd_isDigit {a t : Nat} {tp : Nat → Int32} (h16 : mF h 16 (.int (nI a))) (h17 : mF h 17 (.int (nI t))) (h14 : mF h 14 (.ref 172)) (hA : h 172 = .inl (0, 80, .inl tp)) (ht : t ≤ 80) (ha : a < 1000) (hf : 2 ≤ fr) (hl : 100 ≤ lo) : pm_WP PT fr lo 182 (0, pm_l0 [.ref 162] 1, [], h, 198, sl) (fun r => r = (some (.int (cond (dg tp a t) 1 0)), h, 198, sl)) := by
  refine wp_i rfl rfl rfl rfl ?_
  show pm_WP PT fr lo 182 (1, [some (.ref 162)], [.ref 162], h, 198, sl) _
  refine wp_gfm rfl rfl h16 ?_
  refine wp_i rfl rfl rfl rfl ?_
  show pm_WP PT fr lo 182 (5, [some (.ref 162)], [.ref 162, .int (nI a)], h, 198, sl) _
  refine wp_gfm rfl rfl h17 ?_
  show pm_WP PT fr lo 182 (8, [some (.ref 162)], [.int (nI t), .int (nI a)], h, 198, sl) _
  refine wp_icmp (c := .ge) (off := 29) (t := 37) rfl rfl (fun q => ?_) (fun q => ?_)
  · have q : t ≤ a := of_decide_eq_true ((hI_ge (by omega) (by omega)).symm.trans q)
    have e : dg tp a t = false := by simp [dg]; omega
    rw [e]
    refine wp_i rfl rfl rfl rfl ?_
    show pm_WP PT fr lo 182 (38, [some (.ref 162)], [.int 0], h, 198, sl) _
    exact wp_zret rfl rfl (by decide) rfl
  · have q0 : ¬ t ≤ a := of_decide_eq_false ((hI_ge (by omega) (by omega)).symm.trans q)
    refine wp_i rfl rfl rfl rfl ?_
    show pm_WP PT fr lo 182 (12, [some (.ref 162)], [.ref 162], h, 198, sl) _
    refine wp_gfm rfl rfl h14 ?_
    refine wp_i rfl rfl rfl rfl ?_
    show pm_WP PT fr lo 182 (16, [some (.ref 162)], [.ref 162, .ref 172], h, 198, sl) _
    refine wp_gfm rfl rfl h16 ?_
    show pm_WP PT fr lo 182 (19, [some (.ref 162)], [.int (nI a), .ref 172], h, 198, sl) _
    refine wp_iam rfl hA (hI_in (by omega) (by omega)) (by decide) ?_
    rw [nI_clamp (by omega)]
    refine wp_i rfl rfl rfl rfl ?_
    refine wp_i rfl rfl rfl rfl ?_
    refine wp_i rfl rfl rfl rfl ?_
    show pm_WP PT fr lo 182 (27, [some (.ref 162)], [.long 57, .long 48, .long ((tp a)).toInt64], h, 198, sl) _
    refine wp_callS (t := 163) (As := [.long ((tp a)).toInt64, .long 48, .long 57]) (rest := []) (mx := 6) rfl rfl rfl rfl (Nat.le_of_ble_eq_true rfl) (Nat.le_of_ble_eq_true rfl) (by omega) (by omega) (wp_mono (hd_in (tp a).toInt64 48 57) ?_)
    rintro _ rfl
    have e : dg tp a t = in_b (tp a).toInt64 48 57 := by simp [dg, show a < t by omega]
    rw [e]
    cases in_b (tp a).toInt64 48 57 with
    | true =>
      refine wp_i rfl rfl rfl rfl ?_
      refine wp_i rfl rfl rfl rfl ?_
      refine wp_i rfl rfl rfl rfl ?_
      show pm_WP PT fr lo 182 (38, [some (.ref 162)], [.int 1], h, 198, sl) _
      exact wp_zret rfl rfl (by decide) rfl
    | false =>
      refine wp_i rfl rfl rfl rfl ?_
      refine wp_i rfl rfl rfl rfl ?_
      show pm_WP PT fr lo 182 (38, [some (.ref 162)], [.int 0], h, 198, sl) _
      exact wp_zret rfl rfl (by decide) rfl
/-- the first sign of the text from k on that stands at a -/
def tko (i : Nat) (tp : Nat → Int32) (a t : Nat) : Nat → Nat → Option Nat
  | 0, _ => none
  | n + 1, k => cond (decide (a < t) && decide ((st_tx i).getD k 0 = tp a)) (some k) (tko i tp a t n (k + 1))
def tkr (h : pm_H) (a : Nat) (sl : Nat) : Option Nat → pm_Rs
  | some k => (some (.int (nI k)), mset h 16 (.int (nI (a + 1))), 198, sl)
  | none => (some (.int (-1)), h, 198, sl)
theorem tko_end {i a t : Nat} {tp : Nat → Int32} (q : ¬ a < t) : ∀ n k, tko i tp a t n k = none
  | 0, _ => rfl
  | n + 1, k => by
    unfold tko
    rw [show (decide (a < t) && decide ((st_tx i).getD k 0 = tp a)) = false by simp [q]]
    exact tko_end q n (k + 1)
theorem st_len {i : Nat} (hi : i < 5) : (st_tx i).length < 100 := (st_all i hi).1
theorem hd_takesOfL {a t : Nat} {tp : Nat → Int32} (h16 : mF h 16 (.int (nI a))) (h17 : mF h 17 (.int (nI t))) (h14 : mF h 14 (.ref 172)) (hA : h 172 = .inl (0, 80, .inl tp)) (ht : t ≤ 80) (ha : a < 1000) (hf : 5 ≤ fr) (hl : 200 ≤ lo) {i : Nat} (hi : i < 5) : ∀ n k : Nat, n + k = (st_tx i).length → pm_WP PT fr lo 183 (2, [some (.ref 162), some (.retAddr i), some (.int (nI k))], [], h, 198, sl) (fun r => r = tkr h a sl (tko i tp a t n k)) := by
  have h100 := st_len hi
  intro n
  induction n with
  | zero =>
    intro k hk
    refine wp_i rfl rfl rfl rfl ?_
    refine wp_i rfl rfl rfl rfl ?_
    show pm_WP PT fr lo 183 (4, [some (.ref 162), some (.retAddr i), some (.int (nI k))], [.retAddr i, .int (nI k)], h, 198, sl) _
    refine wp_libL rfl rfl hi (by omega) (by omega) (Nat.le_of_ble_eq_true rfl) ?_
    show pm_WP PT fr lo 183 (7, [some (.ref 162), some (.retAddr i), some (.int (nI k))], [.int (nI (st_tx i).length), .int (nI k)], h, 198, sl) _
    show pm_WP PT fr lo 183 (7, [some (.ref 162), some (.retAddr i), some (.int (nI k))], [.int (nI (st_tx i).length), .int (nI k)], h, 198, sl) _
    refine wp_icmp (c := .ge) (off := 49) (t := 56) rfl rfl (fun _ => ?_) (fun q => absurd (q.symm.trans ((hI_ge (by omega) (by omega)).trans (decide_eq_true (by omega)))) (by decide))
    refine wp_i rfl rfl rfl rfl ?_
    show pm_WP PT fr lo 183 (57, [some (.ref 162), some (.retAddr i), some (.int (nI k))], [.int (-1)], h, 198, sl) _
    exact wp_iret rfl rfl rfl
  | succ n ih =>
    intro k hk
    refine wp_i rfl rfl rfl rfl ?_
    refine wp_i rfl rfl rfl rfl ?_
    show pm_WP PT fr lo 183 (4, [some (.ref 162), some (.retAddr i), some (.int (nI k))], [.retAddr i, .int (nI k)], h, 198, sl) _
    refine wp_libL rfl rfl hi (by omega) (by omega) (Nat.le_of_ble_eq_true rfl) ?_
    show pm_WP PT fr lo 183 (7, [some (.ref 162), some (.retAddr i), some (.int (nI k))], [.int (nI (st_tx i).length), .int (nI k)], h, 198, sl) _
    show pm_WP PT fr lo 183 (7, [some (.ref 162), some (.retAddr i), some (.int (nI k))], [.int (nI (st_tx i).length), .int (nI k)], h, 198, sl) _
    refine wp_icmp (c := .ge) (off := 49) (t := 56) rfl rfl (fun q => absurd (q.symm.trans ((hI_ge (by omega) (by omega)).trans (decide_eq_false (by omega)))) (by decide)) (fun _ => ?_)
    refine wp_i rfl rfl rfl rfl ?_
    show pm_WP PT fr lo 183 (11, [some (.ref 162), some (.retAddr i), some (.int (nI k))], [.ref 162], h, 198, sl) _
    refine wp_gfm rfl rfl h16 ?_
    refine wp_i rfl rfl rfl rfl ?_
    show pm_WP PT fr lo 183 (15, [some (.ref 162), some (.retAddr i), some (.int (nI k))], [.ref 162, .int (nI a)], h, 198, sl) _
    refine wp_gfm rfl rfl h17 ?_
    show pm_WP PT fr lo 183 (18, [some (.ref 162), some (.retAddr i), some (.int (nI k))], [.int (nI t), .int (nI a)], h, 198, sl) _
    refine wp_icmp (c := .ge) (off := 38) (t := 56) rfl rfl (fun q => ?_) (fun q => ?_)
    · have q : t ≤ a := of_decide_eq_true ((hI_ge (by omega) (by omega)).symm.trans q)
      rw [tko_end (by omega)]
      refine wp_i rfl rfl rfl rfl ?_
      show pm_WP PT fr lo 183 (57, [some (.ref 162), some (.retAddr i), some (.int (nI k))], [.int (-1)], h, 198, sl) _
      exact wp_iret rfl rfl rfl
    · have q0 : ¬ t ≤ a := of_decide_eq_false ((hI_ge (by omega) (by omega)).symm.trans q)
      refine wp_i rfl rfl rfl rfl ?_
      refine wp_i rfl rfl rfl rfl ?_
      show pm_WP PT fr lo 183 (23, [some (.ref 162), some (.retAddr i), some (.int (nI k))], [.int (nI k), .retAddr i], h, 198, sl) _
      refine wp_libC rfl rfl hi (by omega) (by omega) (Nat.le_of_ble_eq_true rfl) (hI_in (by omega) (by omega)) ?_
      rw [nI_clamp (by omega)]
      refine wp_i rfl rfl rfl rfl ?_
      show pm_WP PT fr lo 183 (27, [some (.ref 162), some (.retAddr i), some (.int (nI k))], [.ref 162, .int ((st_tx i).getD k 0)], h, 198, sl) _
      refine wp_gfm rfl rfl h14 ?_
      refine wp_i rfl rfl rfl rfl ?_
      show pm_WP PT fr lo 183 (31, [some (.ref 162), some (.retAddr i), some (.int (nI k))], [.ref 162, .ref 172, .int ((st_tx i).getD k 0)], h, 198, sl) _
      refine wp_gfm rfl rfl h16 ?_
      show pm_WP PT fr lo 183 (34, [some (.ref 162), some (.retAddr i), some (.int (nI k))], [.int (nI a), .ref 172, .int ((st_tx i).getD k 0)], h, 198, sl) _
      refine wp_iam rfl hA (hI_in (by omega) (by omega)) (by decide) ?_
      rw [nI_clamp (by omega)]
      show pm_WP PT fr lo 183 (35, [some (.ref 162), some (.retAddr i), some (.int (nI k))], [.int (tp a), .int ((st_tx i).getD k 0)], h, 198, sl) _
      refine wp_icmp (c := .ne) (off := 15) (t := 50) rfl rfl (fun q => ?_) (fun q => ?_)
      · have q : ¬ (st_tx i).getD k 0 = tp a := (rs_t (P := ¬ (st_tx i).getD k 0 = tp a) rfl).1 q
        have e : tko i tp a t (n + 1) k = tko i tp a t n (k + 1) := by
          conv => lhs; unfold tko
          rw [decide_eq_false q, Bool.and_false]
          rfl
        rw [e]
        refine wp_i rfl rfl rfl rfl ?_
        refine wp_i rfl rfl rfl rfl ?_
        have e2 := ih (k + 1) (by omega)
        rw [← nI_1 k] at e2
        exact e2
      · have q : (st_tx i).getD k 0 = tp a := Decidable.not_not.mp ((rs_t (P := ¬ (st_tx i).getD k 0 = tp a) rfl).2 q)
        have e : tko i tp a t (n + 1) k = some k := by
          unfold tko
          rw [decide_eq_true q, decide_eq_true (show a < t by omega)]
          rfl
        rw [e]
        refine wp_i rfl rfl rfl rfl ?_
        refine wp_i rfl rfl rfl rfl ?_
        show pm_WP PT fr lo 183 (40, [some (.ref 162), some (.retAddr i), some (.int (nI k))], [.ref 162, .ref 162], h, 198, sl) _
        refine wp_gfm rfl rfl h16 ?_
        refine wp_i rfl rfl rfl rfl ?_
        refine wp_i rfl rfl rfl rfl ?_
        show pm_WP PT fr lo 183 (45, [some (.ref 162), some (.retAddr i), some (.int (nI k))], [.int (nI a + 1), .ref 162], h, 198, sl) _
        rw [nI_1 a]
        show pm_WP PT fr lo 183 (45, [some (.ref 162), some (.retAddr i), some (.int (nI k))], [.int (nI (a + 1)), .ref 162], h, 198, sl) _
        refine wp_pfm rfl rfl rfl (by decide) h16 ?_
        refine wp_i rfl rfl rfl rfl ?_
        show pm_WP PT fr lo 183 (49, [some (.ref 162), some (.retAddr i), some (.int (nI k))], [.int (nI k)], (mset h 16 (.int (nI (a + 1)))), 198, sl) _
        exact wp_iret rfl rfl rfl
theorem hd_takesOf {a t : Nat} {tp : Nat → Int32} (h16 : mF h 16 (.int (nI a))) (h17 : mF h 17 (.int (nI t))) (h14 : mF h 14 (.ref 172)) (hA : h 172 = .inl (0, 80, .inl tp)) (ht : t ≤ 80) (ha : a < 1000) (hf : 5 ≤ fr) (hl : 200 ≤ lo) {i : Nat} (hi : i < 5) : pm_WP PT fr lo 183 (0, pm_l0 [.ref 162, .retAddr i] 3, [], h, 198, sl) (fun r => r = tkr h a sl (tko i tp a t (st_tx i).length 0)) := by
  refine wp_i rfl rfl rfl rfl ?_
  refine wp_i rfl rfl rfl rfl ?_
  show pm_WP PT fr lo 183 (2, [some (.ref 162), some (.retAddr i), some (.int 0)], [], h, 198, sl) _
  exact hd_takesOfL h16 h17 h14 hA ht ha hf hl hi _ 0 rfl
/-- so many digits at most, from a on: where it ends, what they tell -/
def nbr (tp : Nat → Int32) (t : Nat) : Nat → Nat → Int32 → Nat × Int32
  | 0, a, v => (a, v)
  | n + 1, a, v => cond (dg tp a t) (nbr tp t n (a + 1) (10 * v + tp a - 48)) (a, v)
theorem dg_lt {tp : Nat → Int32} {a t : Nat} (h : dg tp a t = true) : a < t := by
  unfold dg at h
  rw [Bool.and_eq_true] at h
  exact of_decide_eq_true h.1
theorem hd_numberL {t : Nat} {tp : Nat → Int32} (ht : t ≤ 80) (hf : 3 ≤ fr) (hl : 200 ≤ lo) : ∀ (n k a : Nat) (v : Int32) (h : pm_H), mF h 16 (.int (nI a)) → mF h 17 (.int (nI t)) → mF h 14 (.ref 172) → h 172 = .inl (0, 80, .inl tp) → a < 1000 → k + n < 1000 → pm_WP PT fr lo 184 (13, [some (.ref 162), some (.int (nI (k + n))), some (.int v), some (.int (nI k))], [], h, 198, sl) (fun r => r = (some (.int (nbr tp t n a v).2), mset h 16 (.int (nI (nbr tp t n a v).1)), 198, sl)) := by
  intro n
  induction n with
  | zero =>
    intro k a v h h16 h17 h14 hA ha hk
    refine wp_i rfl rfl rfl rfl ?_
    refine wp_i rfl rfl rfl rfl ?_
    show pm_WP PT fr lo 184 (15, [some (.ref 162), some (.int (nI (k + 0))), some (.int v), some (.int (nI k))], [.int (nI (k + 0)), .int (nI k)], h, 198, sl) _
    refine wp_icmp (c := .ge) (off := 44) (t := 59) rfl rfl (fun _ => ?_) (fun q => absurd (q.symm.trans ((hI_ge (by omega) (by omega)).trans (decide_eq_true (by omega)))) (by decide))
    refine wp_i rfl rfl rfl rfl ?_
    show pm_WP PT fr lo 184 (60, [some (.ref 162), some (.int (nI (k + 0))), some (.int v), some (.int (nI k))], [.int v], h, 198, sl) _
    refine wp_iret rfl rfl ?_
    show _ = (some (Value.int v), mset h 16 (.int (nI a)), 198, sl)
    rw [mset_same h16]
  | succ n ih =>
    intro k a v h h16 h17 h14 hA ha hk
    refine wp_i rfl rfl rfl rfl ?_
    refine wp_i rfl rfl rfl rfl ?_
    show pm_WP PT fr lo 184 (15, [some (.ref 162), some (.int (nI (k + (n + 1)))), some (.int v), some (.int (nI k))], [.int (nI (k + (n + 1))), .int (nI k)], h, 198, sl) _
    refine wp_icmp (c := .ge) (off := 44) (t := 59) rfl rfl (fun q => absurd (q.symm.trans ((hI_ge (by omega) (by omega)).trans (decide_eq_false (by omega)))) (by decide)) (fun _ => ?_)
    refine wp_i rfl rfl rfl rfl ?_
    show pm_WP PT fr lo 184 (19, [some (.ref 162), some (.int (nI (k + (n + 1)))), some (.int v), some (.int (nI k))], [.ref 162], h, 198, sl) _
    refine wp_callM (t := 182) (As := []) (rest := []) (mx := 1) rfl rfl rfl rfl (Nat.le_of_ble_eq_true rfl) (Nat.le_of_ble_eq_true rfl) (by omega) (by omega) rfl (mF_obj h14) (wp_mono (hd_isDigit h16 h17 h14 hA ht ha (by omega) (by omega)) ?_)
    rintro _ rfl
    unfold nbr
    cases hd : dg tp a t with
    | false =>
      refine wp_i rfl rfl rfl rfl ?_
      refine wp_i rfl rfl rfl rfl ?_
      show pm_WP PT fr lo 184 (60, [some (.ref 162), some (.int (nI (k + (n + 1)))), some (.int v), some (.int (nI k))], [.int v], h, 198, sl) _
      refine wp_iret rfl rfl ?_
      show _ = (some (Value.int v), mset h 16 (.int (nI a)), 198, sl)
      rw [mset_same h16]
    | true =>
      have hlt := dg_lt hd
      refine wp_i rfl rfl rfl rfl ?_
      refine wp_i rfl rfl rfl rfl ?_
      refine wp_i rfl rfl rfl rfl ?_
      refine wp_i rfl rfl rfl rfl ?_
      refine wp_i rfl rfl rfl rfl ?_
      show pm_WP PT fr lo 184 (30, [some (.ref 162), some (.int (nI (k + (n + 1)))), some (.int v), some (.int (nI k))], [.ref 162, .int (10 * v)], h, 198, sl) _
      refine wp_gfm rfl rfl h14 ?_
      refine wp_i rfl rfl rfl rfl ?_
      show pm_WP PT fr lo 184 (34, [some (.ref 162), some (.int (nI (k + (n + 1)))), some (.int v), some (.int (nI k))], [.ref 162, .ref 172, .int (10 * v)], h, 198, sl) _
      refine wp_gfm rfl rfl h16 ?_
      show pm_WP PT fr lo 184 (37, [some (.ref 162), some (.int (nI (k + (n + 1)))), some (.int v), some (.int (nI k))], [.int (nI a), .ref 172, .int (10 * v)], h, 198, sl) _
      refine wp_iam rfl hA (hI_in (by omega) (by omega)) (by decide) ?_
      rw [nI_clamp (by omega)]
      refine wp_i rfl rfl rfl rfl ?_
      refine wp_i rfl rfl rfl rfl ?_
      refine wp_i rfl rfl rfl rfl ?_
      refine wp_i rfl rfl rfl rfl ?_
      show pm_WP PT fr lo 184 (43, [some (.ref 162), some (.int (nI (k + (n + 1)))), some (.int (((10 * v) + (tp a)) - 48)), some (.int (nI k))], [], h, 198, sl) _
      refine wp_i rfl rfl rfl rfl ?_
      refine wp_i rfl rfl rfl rfl ?_
      show pm_WP PT fr lo 184 (45, [some (.ref 162), some (.int (nI (k + (n + 1)))), some (.int (((10 * v) + (tp a)) - 48)), some (.int (nI k))], [.ref 162, .ref 162], h, 198, sl) _
      refine wp_gfm rfl rfl h16 ?_
      refine wp_i rfl rfl rfl rfl ?_
      refine wp_i rfl rfl rfl rfl ?_
      show pm_WP PT fr lo 184 (50, [some (.ref 162), some (.int (nI (k + (n + 1)))), some (.int (((10 * v) + (tp a)) - 48)), some (.int (nI k))], [.int (nI a + 1), .ref 162], h, 198, sl) _
      rw [nI_1 a]
      show pm_WP PT fr lo 184 (50, [some (.ref 162), some (.int (nI (k + (n + 1)))), some (.int (((10 * v) + (tp a)) - 48)), some (.int (nI k))], [.int (nI (a + 1)), .ref 162], h, 198, sl) _
      refine wp_pfm rfl rfl rfl (by decide) h16 ?_
      refine wp_i rfl rfl rfl rfl ?_
      refine wp_i rfl rfl rfl rfl ?_
      show pm_WP PT fr lo 184 (13, [some (.ref 162), some (.int (nI (k + (n + 1)))), some (.int (((10 * v) + (tp a)) - 48)), some (.int (nI k + 1))], [], (mset h 16 (.int (nI (a + 1)))), 198, sl) _
      rw [nI_1 k, show k + (n + 1) = (k + 1) + n by omega]
      refine wp_mono (ih (k + 1) (a + 1) (10 * v + tp a - 48) (mset h 16 (.int (nI (a + 1)))) (mF_self h16) (mF_ne (by decide) h17) (mF_ne (by decide) h14) (mset_arr (by decide) hA) (by omega) (by omega)) ?_
      rintro _ rfl
      rw [mset_mset]
      rfl
theorem hd_number {a t : Nat} {tp : Nat → Int32} (h16 : mF h 16 (.int (nI a))) (h17 : mF h 17 (.int (nI t))) (h14 : mF h 14 (.ref 172)) (hA : h 172 = .inl (0, 80, .inl tp)) (ht : t ≤ 80) (ha : a < 1000) (hf : 3 ≤ fr) (hl : 200 ≤ lo) {d : Nat} (hd : d < 900) : pm_WP PT fr lo 184 (0, pm_l0 [.ref 162, .int (nI d)] 4, [], h, 198, sl) (fun r => r = cond (dg tp a t) (some (.int (nbr tp t d a 0).2), mset h 16 (.int (nI (nbr tp t d a 0).1)), 198, sl) (some (.int (-1)), h, 198, sl)) := by
  refine wp_i rfl rfl rfl rfl ?_
  show pm_WP PT fr lo 184 (1, [some (.ref 162), some (.int (nI d)), none, none], [.ref 162], h, 198, sl) _
  refine wp_callM (t := 182) (As := []) (rest := []) (mx := 1) rfl rfl rfl rfl (Nat.le_of_ble_eq_true rfl) (Nat.le_of_ble_eq_true rfl) (by omega) (by omega) rfl (mF_obj h14) (wp_mono (hd_isDigit h16 h17 h14 hA ht ha (by omega) (by omega)) ?_)
  rintro _ rfl
  cases dg tp a t with
  | false =>
    refine wp_i rfl rfl rfl rfl ?_
    refine wp_i rfl rfl rfl rfl ?_
    show pm_WP PT fr lo 184 (8, [some (.ref 162), some (.int (nI d)), none, none], [.int (-1)], h, 198, sl) _
    exact wp_iret rfl rfl rfl
  | true =>
    refine wp_i rfl rfl rfl rfl ?_
    refine wp_i rfl rfl rfl rfl ?_
    refine wp_i rfl rfl rfl rfl ?_
    refine wp_i rfl rfl rfl rfl ?_
    refine wp_i rfl rfl rfl rfl ?_
    show pm_WP PT fr lo 184 (13, [some (.ref 162), some (.int (nI d)), some (.int 0), some (.int 0)], [], h, 198, sl) _
    have e := hd_numberL (fr := fr) (lo := lo) (sl := sl) (tp := tp) ht hf hl d 0 a 0 h h16 h17 h14 hA ha (by omega)
    rw [Nat.zero_add] at e
    exact e
def dgi (tp : Nat → Int32) (a t : Nat) (l u : Int32) : Bool := decide (a < t) && in_b (tp a - 48).toInt64 l.toInt64 u.toInt64
theorem hd_digitIn {a t : Nat} {tp : Nat → Int32} (h16 : mF h 16 (.int (nI a))) (h17 : mF h 17 (.int (nI t))) (h14 : mF h 14 (.ref 172)) (hA : h 172 = .inl (0, 80, .inl tp)) (ht : t ≤ 80) (ha : a < 1000) (hf : 2 ≤ fr) (hl : 100 ≤ lo) (l u : Int32) : pm_WP PT fr lo 185 (0, pm_l0 [.ref 162, .int l, .int u] 3, [], h, 198, sl) (fun r => r = cond (dgi tp a t l u) (some (.int (tp a - 48)), mset h 16 (.int (nI (a + 1))), 198, sl) (some (.int (-1)), h, 198, sl)) := by
  refine wp_i rfl rfl rfl rfl ?_
  show pm_WP PT fr lo 185 (1, [some (.ref 162), some (.int l), some (.int u)], [.ref 162], h, 198, sl) _
  refine wp_gfm rfl rfl h16 ?_
  refine wp_i rfl rfl rfl rfl ?_
  show pm_WP PT fr lo 185 (5, [some (.ref 162), some (.int l), some (.int u)], [.ref 162, .int (nI a)], h, 198, sl) _
  refine wp_gfm rfl rfl h17 ?_
  show pm_WP PT fr lo 185 (8, [some (.ref 162), some (.int l), some (.int u)], [.int (nI t), .int (nI a)], h, 198, sl) _
  refine wp_icmp (c := .ge) (off := 26) (t := 34) rfl rfl (fun q => ?_) (fun q => ?_)
  · have q : t ≤ a := of_decide_eq_true ((hI_ge (by omega) (by omega)).symm.trans q)
    have e : dgi tp a t l u = false := by simp [dgi]; omega
    rw [e]
    refine wp_i rfl rfl rfl rfl ?_
    show pm_WP PT fr lo 185 (35, [some (.ref 162), some (.int l), some (.int u)], [.int (-1)], h, 198, sl) _
    exact wp_iret rfl rfl rfl
  · have q0 : ¬ t ≤ a := of_decide_eq_false ((hI_ge (by omega) (by omega)).symm.trans q)
    refine wp_i rfl rfl rfl rfl ?_
    show pm_WP PT fr lo 185 (12, [some (.ref 162), some (.int l), some (.int u)], [.ref 162], h, 198, sl) _
    refine wp_gfm rfl rfl h14 ?_
    refine wp_i rfl rfl rfl rfl ?_
    show pm_WP PT fr lo 185 (16, [some (.ref 162), some (.int l), some (.int u)], [.ref 162, .ref 172], h, 198, sl) _
    refine wp_gfm rfl rfl h16 ?_
    show pm_WP PT fr lo 185 (19, [some (.ref 162), some (.int l), some (.int u)], [.int (nI a), .ref 172], h, 198, sl) _
    refine wp_iam rfl hA (hI_in (by omega) (by omega)) (by decide) ?_
    rw [nI_clamp (by omega)]
    refine wp_i rfl rfl rfl rfl ?_
    refine wp_i rfl rfl rfl rfl ?_
    refine wp_i rfl rfl rfl rfl ?_
    refine wp_i rfl rfl rfl rfl ?_
    refine wp_i rfl rfl rfl rfl ?_
    refine wp_i rfl rfl rfl rfl ?_
    refine wp_i rfl rfl rfl rfl ?_
    show pm_WP PT fr lo 185 (28, [some (.ref 162), some (.int l), some (.int u)], [.long (u).toInt64, .long (l).toInt64, .long (((tp a) - 48)).toInt64], h, 198, sl) _
    refine wp_callS (t := 163) (As := [.long (((tp a) - 48)).toInt64, .long (l).toInt64, .long (u).toInt64]) (rest := []) (mx := 6) rfl rfl rfl rfl (Nat.le_of_ble_eq_true rfl) (Nat.le_of_ble_eq_true rfl) (by omega) (by omega) (wp_mono (hd_in (tp a - 48).toInt64 l.toInt64 u.toInt64) ?_)
    rintro _ rfl
    have e : dgi tp a t l u = in_b (tp a - 48).toInt64 l.toInt64 u.toInt64 := by simp [dgi, show a < t by omega]
    rw [e]
    cases in_b (tp a - 48).toInt64 l.toInt64 u.toInt64 with
    | false =>
      refine wp_i rfl rfl rfl rfl ?_
      refine wp_i rfl rfl rfl rfl ?_
      show pm_WP PT fr lo 185 (35, [some (.ref 162), some (.int l), some (.int u)], [.int (-1)], h, 198, sl) _
      exact wp_iret rfl rfl rfl
    | true =>
      refine wp_i rfl rfl rfl rfl ?_
      refine wp_i rfl rfl rfl rfl ?_
      refine wp_i rfl rfl rfl rfl ?_
      show pm_WP PT fr lo 185 (38, [some (.ref 162), some (.int l), some (.int u)], [.ref 162, .ref 162], h, 198, sl) _
      refine wp_gfm rfl rfl h16 ?_
      refine wp_i rfl rfl rfl rfl ?_
      refine wp_i rfl rfl rfl rfl ?_
      show pm_WP PT fr lo 185 (43, [some (.ref 162), some (.int l), some (.int u)], [.int (nI a + 1), .ref 162], h, 198, sl) _
      rw [nI_1 a]
      show pm_WP PT fr lo 185 (43, [some (.ref 162), some (.int l), some (.int u)], [.int (nI (a + 1)), .ref 162], h, 198, sl) _
      refine wp_pfm rfl rfl rfl (by decide) h16 ?_
      refine wp_i rfl rfl rfl rfl ?_
      show pm_WP PT fr lo 185 (47, [some (.ref 162), some (.int l), some (.int u)], [.ref 162], (mset h 16 (.int (nI (a + 1)))), 198, sl) _
      refine wp_gfm rfl rfl (mF_ne (by decide) h14) ?_
      refine wp_i rfl rfl rfl rfl ?_
      show pm_WP PT fr lo 185 (51, [some (.ref 162), some (.int l), some (.int u)], [.ref 162, .ref 172], (mset h 16 (.int (nI (a + 1)))), 198, sl) _
      refine wp_gfm rfl rfl (mF_self h16) ?_
      refine wp_i rfl rfl rfl rfl ?_
      refine wp_i rfl rfl rfl rfl ?_
      show pm_WP PT fr lo 185 (56, [some (.ref 162), some (.int l), some (.int u)], [.int ((nI (a + 1)) - 1), .ref 172], (mset h 16 (.int (nI (a + 1)))), 198, sl) _
      rw [nI_pred a]
      show pm_WP PT fr lo 185 (56, [some (.ref 162), some (.int l), some (.int u)], [.int (nI a), .ref 172], (mset h 16 (.int (nI (a + 1)))), 198, sl) _
      refine wp_iam rfl (mset_arr (by decide) hA) (hI_in (by omega) (by omega)) (by decide) ?_
      rw [nI_clamp (by omega)]
      refine wp_i rfl rfl rfl rfl ?_
      refine wp_i rfl rfl rfl rfl ?_
      show pm_WP PT fr lo 185 (60, [some (.ref 162), some (.int l), some (.int u)], [.int ((tp a) - 48)], (mset h 16 (.int (nI (a + 1)))), 198, sl) _
      exact wp_iret rfl rfl rfl
end PRM
end MG49cxr00x9
