abbrev mX12_symbol : hMt := (yX12_symbol, cX12_symbol, 11, some .boolean)
def tX12_symbol : hTb := [(0, .aload_n 0, 1, 1), (1, .invokevirtual 259, 3, 4), (4, .istore_n 1, 1, 5), (5, .aload_n 0, 1, 6), (6, .bipush 31, 2, 8), (8, .bipush 6, 2, 10), (10, .iconst 2, 1, 11), (11, .iload_n 1, 1, 12), (12, .imul, 1, 13), (13, .iconst 1, 1, 14), (14, .isub, 1, 15), (15, .invokevirtual 262, 3, 18), (18, .aload_n 0, 1, 19), (19, .aload_n 0, 1, 20), (20, .getfield 37, 3, 23), (23, .bipush 14, 2, 25), (25, .iaload, 1, 26), (26, .invokevirtual 266, 3, 29), (29, .aload_n 0, 1, 30), (30, .invokevirtual 269, 3, 33), (33, .iadd, 1, 34), (34, .istore_n 2, 1, 35), (35, .aload_n 0, 1, 36), (36, .getfield 37, 3, 39), (39, .bipush 22, 2, 41), (41, .iaload, 1, 42), (42, .iconst 1, 1, 43), (43, .if_icmp .ne 7, 3, 46), (46, .iconst 1, 1, 47), (47, .goto 4, 3, 50), (50, .iconst 0, 1, 51), (51, .istore_n 3, 1, 52), (52, .aload_n 0, 1, 53), (53, .getfield 37, 3, 56), (56, .bipush 22, 2, 58), (58, .iconst 0, 1, 59), (59, .iastore, 1, 60), (60, .aload_n 0, 1, 61), (61, .bipush 40, 2, 63), (63, .iconst 3, 1, 64), (64, .iload_n 3, 1, 65), (65, .ifCond .eq 7, 3, 68), (68, .iconst 0, 1, 69), (69, .goto 4, 3, 72), (72, .iload_n 2, 1, 73), (73, .invokevirtual 262, 3, 76), (76, .aload_n 0, 1, 77), (77, .invokevirtual 272, 3, 80), (80, .aload_n 0, 1, 81), (81, .getfield 37, 3, 84), (84, .bipush 44, 2, 86), (86, .iaload, 1, 87), (87, .ifCond .lt 7, 3, 90), (90, .iconst 1, 1, 91), (91, .goto 4, 3, 94), (94, .iconst (-1), 1, 95), (95, .istore 4, 2, 97), (97, .aload_n 0, 1, 98), (98, .getfield 37, 3, 101), (101, .bipush 31, 2, 103), (103, .aload_n 0, 1, 104), (104, .getfield 22, 3, 107), (107, .iconst 3, 1, 108), (108, .iaload, 1, 109), (109, .iadd, 1, 110), (110, .iaload, 1, 111), (111, .istore 5, 2, 113), (113, .aload_n 0, 1, 114), (114, .getfield 37, 3, 117), (117, .bipush 19, 2, 119), (119, .iaload, 1, 120), (120, .ifCond .le 12, 3, 123), (123, .iload 5, 2, 125), (125, .ifCond .eq 7, 3, 128), (128, .iconst 1, 1, 129), (129, .goto 4, 3, 132), (132, .iconst 0, 1, 133), (133, .istore 6, 2, 135), (135, .iload 6, 2, 137), (137, .ifCond .eq 8, 3, 140), (140, .iload 5, 2, 142), (142, .goto 5, 3, 145), (145, .iload 4, 2, 147), (147, .istore 7, 2, 149), (149, .aload_n 0, 1, 150), (150, .getfield 37, 3, 153), (153, .bipush 19, 2, 155), (155, .iconst 0, 1, 156), (156, .aload_n 0, 1, 157), (157, .getfield 37, 3, 160), (160, .bipush 19, 2, 162), (162, .iaload, 1, 163), (163, .iconst 1, 1, 164), (164, .isub, 1, 165), (165, .invokestatic 253, 3, 168), (168, .iastore, 1, 169), (169, .iload 5, 2, 171), (171, .ifCond .eq 14, 3, 174), (174, .iload 4, 2, 176), (176, .iload 5, 2, 178), (178, .if_icmp .eq 7, 3, 181), (181, .iconst 1, 1, 182), (182, .goto 4, 3, 185), (185, .iconst 0, 1, 186), (186, .istore 8, 2, 188), (188, .aload_n 0, 1, 189), (189, .getfield 37, 3, 192), (192, .bipush 44, 2, 194), (194, .iaload, 1, 195), (195, .bipush 64, 2, 197), (197, .aload_n 0, 1, 198), (198, .getfield 37, 3, 201), (201, .bipush 12, 2, 203), (203, .iaload, 1, 204), (204, .imul, 1, 205), (205, .iload 7, 2, 207), (207, .imul, 1, 208), (208, .isub, 1, 209), (209, .invokestatic 242, 3, 212), (212, .istore 9, 2, 214), (214, .aload_n 0, 1, 215), (215, .iload_n 3, 1, 216), (216, .ifCond .ne 17, 3, 219), (219, .iload_n 2, 1, 220), (220, .invokestatic 239, 3, 223), (223, .aload_n 0, 1, 224), (224, .getfield 22, 3, 227), (227, .bipush 6, 2, 229), (229, .iaload, 1, 230), (230, .if_icmp .ge 7, 3, 233), (233, .iconst 1, 1, 234), (234, .goto 4, 3, 237), (237, .iconst 0, 1, 238), (238, .invokevirtual 275, 3, 241), (241, .aload_n 0, 1, 242), (242, .getfield 37, 3, 245), (245, .bipush 16, 2, 247), (247, .iaload, 1, 248), (248, .ifCond .ne 21, 3, 251), (251, .aload_n 0, 1, 252), (252, .getfield 37, 3, 255), (255, .bipush 17, 2, 257), (257, .iaload, 1, 258), (258, .ifCond .ne 11, 3, 261), (261, .iload_n 3, 1, 262), (262, .ifCond .ne 7, 3, 265), (265, .iconst 1, 1, 266), (266, .goto 4, 3, 269), (269, .iconst 0, 1, 270), (270, .istore 10, 2, 272), (272, .iload 10, 2, 274), (274, .ifCond .eq 11, 3, 277), (277, .aload_n 0, 1, 278), (278, .iload 9, 2, 280), (280, .iload 7, 2, 282), (282, .invokevirtual 278, 3, 285), (285, .aload_n 0, 1, 286), (286, .bipush 37, 2, 288), (288, .iconst 3, 1, 289), (289, .iload 7, 2, 291), (291, .invokevirtual 262, 3, 294), (294, .aload_n 0, 1, 295), (295, .getfield 37, 3, 298), (298, .bipush 43, 2, 300), (300, .iload 9, 2, 302), (302, .iastore, 1, 303), (303, .aload_n 0, 1, 304), (304, .iload 8, 2, 306), (306, .invokevirtual 281, 3, 309), (309, .aload_n 0, 1, 310), (310, .getfield 37, 3, 313), (313, .bipush 18, 2, 315), (315, .dup2, 1, 316), (316, .iaload, 1, 317), (317, .iconst 1, 1, 318), (318, .iadd, 1, 319), (319, .iastore, 1, 320), (320, .aload_n 0, 1, 321), (321, .iload_n 3, 1, 322), (322, .ifCond .eq 8, 3, 325), (325, .ldc 50, 2, 327), (327, .goto 4, 3, 330), (330, .iload_n 2, 1, 331), (331, .iload_n 1, 1, 332), (332, .iload 4, 2, 334), (334, .iconst 1, 1, 335), (335, .if_icmp .ne 7, 3, 338), (338, .iconst 2, 1, 339), (339, .goto 4, 3, 342), (342, .iconst 0, 1, 343), (343, .iadd, 1, 344), (344, .iload 8, 2, 346), (346, .ifCond .eq 7, 3, 349), (349, .iconst 4, 1, 350), (350, .goto 4, 3, 353), (353, .iconst 0, 1, 354), (354, .iadd, 1, 355), (355, .bipush 8, 2, 357), (357, .aload_n 0, 1, 358), (358, .getfield 37, 3, 361), (361, .bipush 17, 2, 363), (363, .iaload, 1, 364), (364, .imul, 1, 365), (365, .iadd, 1, 366), (366, .iload 10, 2, 368), (368, .ifCond .eq 8, 3, 371), (371, .bipush 16, 2, 373), (373, .goto 4, 3, 376), (376, .iconst 0, 1, 377), (377, .iadd, 1, 378), (378, .iload 6, 2, 380), (380, .ifCond .eq 8, 3, 383), (383, .bipush 32, 2, 385), (385, .goto 4, 3, 388), (388, .iconst 0, 1, 389), (389, .iadd, 1, 390), (390, .invokevirtual 284, 3, 393), (393, .iload 8, 2, 395), (395, .ireturn, 1, 396)]
theorem ktX12_symbol : TbOK mX12_symbol tX12_symbol := by
  unfold TbOK
  decide +kernel
theorem kdX12_symbol (k : Nat) {pc : Nat} {i : Instr} {len nx : Nat} (hk : tX12_symbol[k]? = some (pc, i, len, nx)) : Dc mX12_symbol pc i len nx := dc_of ktX12_symbol k hk
theorem iX12_symbol : MiV mX12_symbol := ⟨⟨gdw_of (i := 1684) (by decide +kernel) (by decide +kernel), gdw_of (i := 124) (by decide +kernel) (by decide +kernel), by decide, by decide, by decide⟩, gdw_of (i := 1683) (by decide +kernel) (by decide +kernel), gdw_of (i := 73) (by decide +kernel) (by decide +kernel)⟩
abbrev mX12_symbols : hMt := (yX12_symbols, cX12_symbols, 4, some .int)
def tX12_symbols : hTb := [(0, .iconst 0, 1, 1), (1, .istore_n 2, 1, 2), (2, .iconst 0, 1, 3), (3, .istore_n 3, 1, 4), (4, .iload_n 3, 1, 5), (5, .iload_n 1, 1, 6), (6, .if_icmp .ge 24, 3, 9), (9, .iload_n 2, 1, 10), (10, .aload_n 0, 1, 11), (11, .invokevirtual 287, 3, 14), (14, .ifCond .eq 7, 3, 17), (17, .iconst 1, 1, 18), (18, .goto 4, 3, 21), (21, .iconst 0, 1, 22), (22, .iadd, 1, 23), (23, .istore_n 2, 1, 24), (24, .iinc 3 1, 3, 27), (27, .goto (-23), 3, 30), (30, .iload_n 2, 1, 31), (31, .ireturn, 1, 32)]
theorem ktX12_symbols : TbOK mX12_symbols tX12_symbols := by
  unfold TbOK
  decide +kernel
theorem kdX12_symbols (k : Nat) {pc : Nat} {i : Instr} {len nx : Nat} (hk : tX12_symbols[k]? = some (pc, i, len, nx)) : Dc mX12_symbols pc i len nx := dc_of ktX12_symbols k hk
theorem iX12_symbols : MiV mX12_symbols := ⟨⟨gdw_of (i := 1680) (by decide +kernel) (by decide +kernel), gdw_of (i := 124) (by decide +kernel) (by decide +kernel), by decide, by decide, by decide⟩, gdw_of (i := 1679) (by decide +kernel) (by decide +kernel), gdw_of (i := 72) (by decide +kernel) (by decide +kernel)⟩
abbrev mX12_weighRow : hMt := (yX12_weighRow, cX12_weighRow, 8, some .int)
def tX12_weighRow : hTb := [(0, .iconst 0, 1, 1), (1, .istore 4, 2, 3), (3, .iconst 0, 1, 4), (4, .istore 5, 2, 6), (6, .iload 5, 2, 8), (8, .aload_n 0, 1, 9), (9, .getfield 22, 3, 12), (12, .iconst 1, 1, 13), (13, .iaload, 1, 14), (14, .if_icmp .ge 96, 3, 17), (17, .iconst 0, 1, 18), (18, .istore 6, 2, 20), (20, .iconst 0, 1, 21), (21, .istore 7, 2, 23), (23, .iconst 4, 1, 24), (24, .iload 7, 2, 26), (26, .imul, 1, 27), (27, .iload_n 2, 1, 28), (28, .iadd, 1, 29), (29, .aload_n 0, 1, 30), (30, .getfield 22, 3, 33), (33, .iconst 0, 1, 34), (34, .iaload, 1, 35), (35, .if_icmp .ge 52, 3, 38), (38, .iload 6, 2, 40), (40, .iload_n 1, 1, 41), (41, .iload 5, 2, 43), (43, .iload 7, 2, 45), (45, .iadd, 1, 46), (46, .invokestatic 178, 3, 49), (49, .ifCond .eq 17, 3, 52), (52, .aload_n 0, 1, 53), (53, .getfield 25, 3, 56), (56, .iconst 4, 1, 57), (57, .iload 7, 2, 59), (59, .imul, 1, 60), (60, .iload_n 2, 1, 61), (61, .iadd, 1, 62), (62, .iaload, 1, 63), (63, .goto 15, 3, 66), (66, .aload_n 0, 1, 67), (67, .getfield 25, 3, 70), (70, .iconst 4, 1, 71), (71, .iload 7, 2, 73), (73, .imul, 1, 74), (74, .iload_n 2, 1, 75), (75, .iadd, 1, 76), (76, .iaload, 1, 77), (77, .ineg, 1, 78), (78, .iadd, 1, 79), (79, .istore 6, 2, 81), (81, .iinc 7 1, 3, 84), (84, .goto (-61), 3, 87), (87, .iload 4, 2, 89), (89, .aload_n 0, 1, 90), (90, .getfield 37, 3, 93), (93, .iconst 0, 1, 94), (94, .iload 5, 2, 96), (96, .iadd, 1, 97), (97, .iaload, 1, 98), (98, .iload 6, 2, 100), (100, .imul, 1, 101), (101, .iadd, 1, 102), (102, .istore 4, 2, 104), (104, .iinc 5 1, 3, 107), (107, .goto (-101), 3, 110), (110, .iconst 0, 1, 111), (111, .istore 5, 2, 113), (113, .iload 5, 2, 115), (115, .aload_n 0, 1, 116), (116, .getfield 22, 3, 119), (119, .iconst 2, 1, 120), (120, .iaload, 1, 121), (121, .if_icmp .ge 89, 3, 124), (124, .iload_n 1, 1, 125), (125, .aload_n 0, 1, 126), (126, .getfield 22, 3, 129), (129, .iconst 3, 1, 130), (130, .iaload, 1, 131), (131, .iconst 1, 1, 132), (132, .iadd, 1, 133), (133, .iload 5, 2, 135), (135, .iadd, 1, 136), (136, .invokestatic 178, 3, 139), (139, .iload_n 3, 1, 140), (140, .iload 5, 2, 142), (142, .invokestatic 178, 3, 145), (145, .if_icmp .eq 7, 3, 148), (148, .iconst 1, 1, 149), (149, .goto 4, 3, 152), (152, .iconst 0, 1, 153), (153, .istore 6, 2, 155), (155, .iload 4, 2, 157), (157, .bipush 64, 2, 159), (159, .iload 6, 2, 161), (161, .ifCond .eq 22, 3, 164), (164, .aload_n 0, 1, 165), (165, .getfield 37, 3, 168), (168, .iconst 0, 1, 169), (169, .aload_n 0, 1, 170), (170, .getfield 22, 3, 173), (173, .iconst 1, 1, 174), (174, .iaload, 1, 175), (175, .iadd, 1, 176), (176, .iload 5, 2, 178), (178, .iadd, 1, 179), (179, .iaload, 1, 180), (180, .goto 20, 3, 183), (183, .aload_n 0, 1, 184), (184, .getfield 37, 3, 187), (187, .iconst 0, 1, 188), (188, .aload_n 0, 1, 189), (189, .getfield 22, 3, 192), (192, .iconst 1, 1, 193), (193, .iaload, 1, 194), (194, .iadd, 1, 195), (195, .iload 5, 2, 197), (197, .iadd, 1, 198), (198, .iaload, 1, 199), (199, .ineg, 1, 200), (200, .imul, 1, 201), (201, .isub, 1, 202), (202, .istore 4, 2, 204), (204, .iinc 5 1, 3, 207), (207, .goto (-94), 3, 210), (210, .iload 4, 2, 212), (212, .ireturn, 1, 213)]
theorem ktX12_weighRow : TbOK mX12_weighRow tX12_weighRow := by
  unfold TbOK
  decide +kernel
theorem kdX12_weighRow (k : Nat) {pc : Nat} {i : Instr} {len nx : Nat} (hk : tX12_weighRow[k]? = some (pc, i, len, nx)) : Dc mX12_weighRow pc i len nx := dc_of ktX12_weighRow k hk
theorem iX12_weighRow : MiV mX12_weighRow := ⟨⟨gdw_of (i := 1800) (by decide +kernel) (by decide +kernel), gdw_of (i := 124) (by decide +kernel) (by decide +kernel), by decide, by decide, by decide⟩, gdw_of (i := 1799) (by decide +kernel) (by decide +kernel), gdw_of (i := 91) (by decide +kernel) (by decide +kernel)⟩
abbrev mX12_layOpening : hMt := (yX12_layOpening, cX12_layOpening, 4, none)
def tX12_layOpening : hTb := [(0, .aload_n 0, 1, 1), (1, .ldc_w 293, 3, 4), (4, .putfield 294, 3, 7), (7, .aload_n 0, 1, 8), (8, .ldc_w 297, 3, 11), (11, .putfield 298, 3, 14), (14, .iconst 0, 1, 15), (15, .istore_n 2, 1, 16), (16, .iload_n 2, 1, 17), (17, .bipush 64, 2, 19), (19, .if_icmp .ge 57, 3, 22), (22, .aload_n 0, 1, 23), (23, .iload_n 2, 1, 24), (24, .iload_n 1, 1, 25), (25, .iconst 0, 1, 26), (26, .invokevirtual 301, 3, 29), (29, .istore_n 3, 1, 30), (30, .iload_n 2, 1, 31), (31, .aload_n 0, 1, 32), (32, .getfield 22, 3, 35), (35, .iconst 3, 1, 36), (36, .iaload, 1, 37), (37, .invokestatic 178, 3, 40), (40, .ifCond .eq 18, 3, 43), (43, .aload_n 0, 1, 44), (44, .aload_n 0, 1, 45), (45, .getfield 294, 3, 48), (48, .iload_n 3, 1, 49), (49, .invokestatic 234, 3, 52), (52, .putfield 294, 3, 55), (55, .goto 15, 3, 58), (58, .aload_n 0, 1, 59), (59, .aload_n 0, 1, 60), (60, .getfield 298, 3, 63), (63, .iload_n 3, 1, 64), (64, .invokestatic 253, 3, 67), (67, .putfield 298, 3, 70), (70, .iinc 2 1, 3, 73), (73, .goto (-57), 3, 76), (76, .return_, 1, 77)]
theorem ktX12_layOpening : TbOK mX12_layOpening tX12_layOpening := by
  unfold TbOK
  decide +kernel
theorem kdX12_layOpening (k : Nat) {pc : Nat} {i : Instr} {len nx : Nat} (hk : tX12_layOpening[k]? = some (pc, i, len, nx)) : Dc mX12_layOpening pc i len nx := dc_of ktX12_layOpening k hk
theorem iX12_layOpening : MiV mX12_layOpening := ⟨⟨gdw_of (i := 1794) (by decide +kernel) (by decide +kernel), gdw_of (i := 124) (by decide +kernel) (by decide +kernel), by decide, by decide, by decide⟩, gdw_of (i := 1793) (by decide +kernel) (by decide +kernel), gdw_of (i := 90) (by decide +kernel) (by decide +kernel)⟩
abbrev mX12_heightOf : hMt := (yX12_heightOf, cX12_heightOf, 2, some .int)
def tX12_heightOf : hTb := [(0, .aload_n 0, 1, 1), (1, .iload_n 1, 1, 2), (2, .invokevirtual 304, 3, 5), (5, .aload_n 0, 1, 6), (6, .getfield 294, 3, 9), (9, .aload_n 0, 1, 10), (10, .getfield 298, 3, 13), (13, .isub, 1, 14), (14, .ireturn, 1, 15)]
theorem ktX12_heightOf : TbOK mX12_heightOf tX12_heightOf := by
  unfold TbOK
  decide +kernel
theorem kdX12_heightOf (k : Nat) {pc : Nat} {i : Instr} {len nx : Nat} (hk : tX12_heightOf[k]? = some (pc, i, len, nx)) : Dc mX12_heightOf pc i len nx := dc_of ktX12_heightOf k hk
theorem iX12_heightOf : MiV mX12_heightOf := ⟨⟨gdw_of (i := 1790) (by decide +kernel) (by decide +kernel), gdw_of (i := 124) (by decide +kernel) (by decide +kernel), by decide, by decide, by decide⟩, gdw_of (i := 1789) (by decide +kernel) (by decide +kernel), gdw_of (i := 89) (by decide +kernel) (by decide +kernel)⟩
abbrev mX12_better : hMt := (yX12_better, cX12_better, 5, some .int)
def tX12_better : hTb := [(0, .iconst (-1), 1, 1), (1, .istore_n 2, 1, 2), (2, .aload_n 0, 1, 3), (3, .iload_n 1, 1, 4), (4, .invokevirtual 307, 3, 7), (7, .istore_n 3, 1, 8), (8, .iload_n 1, 1, 9), (9, .iconst 1, 1, 10), (10, .isub, 1, 11), (11, .istore 4, 2, 13), (13, .iload 4, 2, 15), (15, .iload_n 1, 1, 16), (16, .iconst 1, 1, 17), (17, .iadd, 1, 18), (18, .if_icmp .gt 39, 3, 21), (21, .iload 4, 2, 23), (23, .iconst 0, 1, 24), (24, .iconst 3, 1, 25), (25, .invokestatic 89, 3, 28), (28, .ifCond .eq 23, 3, 31), (31, .aload_n 0, 1, 32), (32, .iload 4, 2, 34), (34, .invokevirtual 307, 3, 37), (37, .iload_n 3, 1, 38), (38, .if_icmp .le 13, 3, 41), (41, .iload 4, 2, 43), (43, .istore_n 2, 1, 44), (44, .aload_n 0, 1, 45), (45, .iload 4, 2, 47), (47, .invokevirtual 307, 3, 50), (50, .istore_n 3, 1, 51), (51, .iinc 4 2, 3, 54), (54, .goto (-41), 3, 57), (57, .iload_n 2, 1, 58), (58, .ireturn, 1, 59)]
theorem ktX12_better : TbOK mX12_better tX12_better := by
  unfold TbOK
  decide +kernel
theorem kdX12_better (k : Nat) {pc : Nat} {i : Instr} {len nx : Nat} (hk : tX12_better[k]? = some (pc, i, len, nx)) : Dc mX12_better pc i len nx := dc_of ktX12_better k hk
theorem iX12_better : MiV mX12_better := ⟨⟨gdw_of (i := 1786) (by decide +kernel) (by decide +kernel), gdw_of (i := 124) (by decide +kernel) (by decide +kernel), by decide, by decide, by decide⟩, gdw_of (i := 1785) (by decide +kernel) (by decide +kernel), gdw_of (i := 88) (by decide +kernel) (by decide +kernel)⟩
abbrev mX12_seekNow : hMt := (yX12_seekNow, cX12_seekNow, 2, none)
def tX12_seekNow : hTb := [(0, .aload_n 0, 1, 1), (1, .aload_n 0, 1, 2), (2, .getfield 37, 3, 5), (5, .bipush 14, 2, 7), (7, .iaload, 1, 8), (8, .invokevirtual 310, 3, 11), (11, .istore_n 1, 1, 12), (12, .iload_n 1, 1, 13), (13, .iconst (-1), 1, 14), (14, .if_icmp .eq 20, 3, 17), (17, .aload_n 0, 1, 18), (18, .getfield 37, 3, 21), (21, .bipush 14, 2, 23), (23, .iload_n 1, 1, 24), (24, .iastore, 1, 25), (25, .aload_n 0, 1, 26), (26, .iload_n 1, 1, 27), (27, .invokevirtual 310, 3, 30), (30, .istore_n 1, 1, 31), (31, .goto (-19), 3, 34), (34, .return_, 1, 35)]
theorem ktX12_seekNow : TbOK mX12_seekNow tX12_seekNow := by
  unfold TbOK
  decide +kernel
theorem kdX12_seekNow (k : Nat) {pc : Nat} {i : Instr} {len nx : Nat} (hk : tX12_seekNow[k]? = some (pc, i, len, nx)) : Dc mX12_seekNow pc i len nx := dc_of ktX12_seekNow k hk
theorem iX12_seekNow : MiV mX12_seekNow := ⟨⟨gdw_of (i := 1804) (by decide +kernel) (by decide +kernel), gdw_of (i := 124) (by decide +kernel) (by decide +kernel), by decide, by decide, by decide⟩, gdw_of (i := 1803) (by decide +kernel) (by decide +kernel), gdw_of (i := 92) (by decide +kernel) (by decide +kernel)⟩
abbrev mX12_keep : hMt := (yX12_keep, cX12_keep, 2, none)
def tX12_keep : hTb := [(0, .aload_n 0, 1, 1), (1, .getfield 207, 3, 4), (4, .bipush 40, 2, 6), (6, .if_icmp .ne 46, 3, 9), (9, .sipush 232, 3, 12), (12, .istore_n 1, 1, 13), (13, .iload_n 1, 1, 14), (14, .sipush 9280, 3, 17), (17, .if_icmp .ge 25, 3, 20), (20, .aload_n 0, 1, 21), (21, .getfield 54, 3, 24), (24, .iload_n 1, 1, 25), (25, .sipush 232, 3, 28), (28, .isub, 1, 29), (29, .aload_n 0, 1, 30), (30, .getfield 54, 3, 33), (33, .iload_n 1, 1, 34), (34, .iaload, 1, 35), (35, .iastore, 1, 36), (36, .iinc 1 1, 3, 39), (39, .goto (-26), 3, 42), (42, .aload_n 0, 1, 43), (43, .dup, 1, 44), (44, .getfield 207, 3, 47), (47, .iconst 1, 1, 48), (48, .isub, 1, 49), (49, .putfield 207, 3, 52), (52, .iconst 0, 1, 53), (53, .istore_n 1, 1, 54), (54, .iload_n 1, 1, 55), (55, .sipush 232, 3, 58), (58, .if_icmp .ge 30, 3, 61), (61, .aload_n 0, 1, 62), (62, .getfield 54, 3, 65), (65, .sipush 232, 3, 68), (68, .aload_n 0, 1, 69), (69, .getfield 207, 3, 72), (72, .imul, 1, 73), (73, .iload_n 1, 1, 74), (74, .iadd, 1, 75), (75, .aload_n 0, 1, 76), (76, .getfield 37, 3, 79), (79, .iload_n 1, 1, 80), (80, .iaload, 1, 81), (81, .iastore, 1, 82), (82, .iinc 1 1, 3, 85), (85, .goto (-31), 3, 88), (88, .aload_n 0, 1, 89), (89, .dup, 1, 90), (90, .getfield 207, 3, 93), (93, .iconst 1, 1, 94), (94, .iadd, 1, 95), (95, .putfield 207, 3, 98), (98, .return_, 1, 99)]
theorem ktX12_keep : TbOK mX12_keep tX12_keep := by
  unfold TbOK
  decide +kernel
theorem kdX12_keep (k : Nat) {pc : Nat} {i : Instr} {len nx : Nat} (hk : tX12_keep[k]? = some (pc, i, len, nx)) : Dc mX12_keep pc i len nx := dc_of ktX12_keep k hk
theorem iX12_keep : MiV mX12_keep := ⟨⟨gdw_of (i := 1676) (by decide +kernel) (by decide +kernel), gdw_of (i := 124) (by decide +kernel) (by decide +kernel), by decide, by decide, by decide⟩, gdw_of (i := 1675) (by decide +kernel) (by decide +kernel), gdw_of (i := 71) (by decide +kernel) (by decide +kernel)⟩
abbrev mX12_isRefused : hMt := (yX12_isRefused, cX12_isRefused, 2, some .boolean)
def tX12_isRefused : hTb := [(0, .iload_n 1, 1, 1), (1, .iconst (-1), 1, 2), (2, .if_icmp .eq 13, 3, 5), (5, .aload_n 0, 1, 6), (6, .getfield 40, 3, 9), (9, .iload_n 1, 1, 10), (10, .dup2, 1, 11), (11, .iaload, 1, 12), (12, .iconst 1, 1, 13), (13, .iadd, 1, 14), (14, .iastore, 1, 15), (15, .iload_n 1, 1, 16), (16, .iconst (-1), 1, 17), (17, .if_icmp .eq 7, 3, 20), (20, .iconst 1, 1, 21), (21, .goto 4, 3, 24), (24, .iconst 0, 1, 25), (25, .ireturn, 1, 26)]
theorem ktX12_isRefused : TbOK mX12_isRefused tX12_isRefused := by
  unfold TbOK
  decide +kernel
theorem kdX12_isRefused (k : Nat) {pc : Nat} {i : Instr} {len nx : Nat} (hk : tX12_isRefused[k]? = some (pc, i, len, nx)) : Dc mX12_isRefused pc i len nx := dc_of ktX12_isRefused k hk
theorem iX12_isRefused : MiV mX12_isRefused := ⟨⟨gdw_of (i := 1672) (by decide +kernel) (by decide +kernel), gdw_of (i := 124) (by decide +kernel) (by decide +kernel), by decide, by decide, by decide⟩, gdw_of (i := 1671) (by decide +kernel) (by decide +kernel), gdw_of (i := 70) (by decide +kernel) (by decide +kernel)⟩
abbrev mX12_isTap : hMt := (yX12_isTap, cX12_isTap, 2, some .boolean)
def tX12_isTap : hTb := [(0, .iload_n 1, 1, 1), (1, .iconst 0, 1, 2), (2, .aload_n 0, 1, 3), (3, .invokevirtual 213, 3, 6), (6, .iconst 1, 1, 7), (7, .isub, 1, 8), (8, .invokestatic 89, 3, 11), (11, .ireturn, 1, 12)]
theorem ktX12_isTap : TbOK mX12_isTap tX12_isTap := by
  unfold TbOK
  decide +kernel
theorem kdX12_isTap (k : Nat) {pc : Nat} {i : Instr} {len nx : Nat} (hk : tX12_isTap[k]? = some (pc, i, len, nx)) : Dc mX12_isTap pc i len nx := dc_of ktX12_isTap k hk
theorem iX12_isTap : MiV mX12_isTap := ⟨⟨gdw_of (i := 1766) (by decide +kernel) (by decide +kernel), gdw_of (i := 124) (by decide +kernel) (by decide +kernel), by decide, by decide, by decide⟩, gdw_of (i := 1765) (by decide +kernel) (by decide +kernel), gdw_of (i := 87) (by decide +kernel) (by decide +kernel)⟩
abbrev mX12_send : hMt := (yX12_send, cX12_send, 2, some .int)
def tX12_send : hTb := [(0, .aload_n 0, 1, 1), (1, .aload_n 0, 1, 2), (2, .getfield 203, 3, 5), (5, .ifCond .ne 7, 3, 8), (8, .iconst 0, 1, 9), (9, .goto 37, 3, 12), (12, .iload_n 1, 1, 13), (13, .iconst 1, 1, 14), (14, .bipush 60, 2, 16), (16, .invokestatic 89, 3, 19), (19, .ifCond .ne 7, 3, 22), (22, .iconst 1, 1, 23), (23, .goto 23, 3, 26), (26, .aload_n 0, 1, 27), (27, .getfield 37, 3, 30), (30, .bipush 18, 2, 32), (32, .iaload, 1, 33), (33, .iload_n 1, 1, 34), (34, .iadd, 1, 35), (35, .sipush 9999, 3, 38), (38, .if_icmp .le 7, 3, 41), (41, .iconst 3, 1, 42), (42, .goto 4, 3, 45), (45, .iconst (-1), 1, 46), (46, .invokevirtual 313, 3, 49), (49, .ifCond .eq 5, 3, 52), (52, .iconst (-1), 1, 53), (53, .ireturn, 1, 54), (54, .aload_n 0, 1, 55), (55, .invokevirtual 316, 3, 58), (58, .aload_n 0, 1, 59), (59, .iload_n 1, 1, 60), (60, .invokevirtual 319, 3, 63), (63, .ireturn, 1, 64)]
theorem ktX12_send : TbOK mX12_send tX12_send := by
  unfold TbOK
  decide +kernel
theorem kdX12_send (k : Nat) {pc : Nat} {i : Instr} {len nx : Nat} (hk : tX12_send[k]? = some (pc, i, len, nx)) : Dc mX12_send pc i len nx := dc_of ktX12_send k hk
theorem iX12_send : MiV mX12_send := ⟨⟨gdw_of (i := 1668) (by decide +kernel) (by decide +kernel), gdw_of (i := 124) (by decide +kernel) (by decide +kernel), by decide, by decide, by decide⟩, gdw_of (i := 1666) (by decide +kernel) (by decide +kernel), gdw_of (i := 1667) (by decide +kernel) (by decide +kernel)⟩
abbrev mX12_setOne : hMt := (yX12_setOne, cX12_setOne, 5, some .int)
def tX12_setOne : hTb := [(0, .aload_n 0, 1, 1), (1, .aload_n 0, 1, 2), (2, .getfield 203, 3, 5), (5, .ifCond .ne 7, 3, 8), (8, .iconst 0, 1, 9), (9, .goto 31, 3, 12), (12, .iload_n 2, 1, 13), (13, .iconst 0, 1, 14), (14, .iload_n 3, 1, 15), (15, .invokestatic 89, 3, 18), (18, .ifCond .ne 7, 3, 21), (21, .iconst 1, 1, 22), (22, .goto 18, 3, 25), (25, .aload_n 0, 1, 26), (26, .getfield 37, 3, 29), (29, .iload_n 1, 1, 30), (30, .iaload, 1, 31), (31, .iload_n 2, 1, 32), (32, .if_icmp .ne 7, 3, 35), (35, .iconst 2, 1, 36), (36, .goto 4, 3, 39), (39, .iconst (-1), 1, 40), (40, .invokevirtual 313, 3, 43), (43, .ifCond .eq 5, 3, 46), (46, .iconst (-1), 1, 47), (47, .ireturn, 1, 48), (48, .aload_n 0, 1, 49), (49, .invokevirtual 316, 3, 52), (52, .aload_n 0, 1, 53), (53, .getfield 37, 3, 56), (56, .iload_n 1, 1, 57), (57, .iaload, 1, 58), (58, .istore 4, 2, 60), (60, .aload_n 0, 1, 61), (61, .getfield 37, 3, 64), (64, .iload_n 1, 1, 65), (65, .iload_n 2, 1, 66), (66, .iastore, 1, 67), (67, .iload 4, 2, 69), (69, .ireturn, 1, 70)]
theorem ktX12_setOne : TbOK mX12_setOne tX12_setOne := by
  unfold TbOK
  decide +kernel
theorem kdX12_setOne (k : Nat) {pc : Nat} {i : Instr} {len nx : Nat} (hk : tX12_setOne[k]? = some (pc, i, len, nx)) : Dc mX12_setOne pc i len nx := dc_of ktX12_setOne k hk
theorem iX12_setOne : MiV mX12_setOne := ⟨⟨gdw_of (i := 1754) (by decide +kernel) (by decide +kernel), gdw_of (i := 124) (by decide +kernel) (by decide +kernel), by decide, by decide, by decide⟩, gdw_of (i := 1753) (by decide +kernel) (by decide +kernel), gdw_of (i := 86) (by decide +kernel) (by decide +kernel)⟩
abbrev mX12_phase : hMt := (yX12_phase, cX12_phase, 2, some .int)
def tX12_phase : hTb := [(0, .aload_n 0, 1, 1), (1, .bipush 14, 2, 3), (3, .iload_n 1, 1, 4), (4, .iconst 3, 1, 5), (5, .invokevirtual 322, 3, 8), (8, .ireturn, 1, 9)]
theorem ktX12_phase : TbOK mX12_phase tX12_phase := by
  unfold TbOK
  decide +kernel
theorem kdX12_phase (k : Nat) {pc : Nat} {i : Instr} {len nx : Nat} (hk : tX12_phase[k]? = some (pc, i, len, nx)) : Dc mX12_phase pc i len nx := dc_of ktX12_phase k hk
theorem iX12_phase : MiV mX12_phase := ⟨⟨gdw_of (i := 1750) (by decide +kernel) (by decide +kernel), gdw_of (i := 124) (by decide +kernel) (by decide +kernel), by decide, by decide, by decide⟩, gdw_of (i := 1748) (by decide +kernel) (by decide +kernel), gdw_of (i := 1749) (by decide +kernel) (by decide +kernel)⟩
abbrev mX12_hold : hMt := (yX12_hold, cX12_hold, 2, some .int)
def tX12_hold : hTb := [(0, .aload_n 0, 1, 1), (1, .bipush 16, 2, 3), (3, .iload_n 1, 1, 4), (4, .iconst 1, 1, 5), (5, .invokevirtual 322, 3, 8), (8, .ireturn, 1, 9)]
theorem ktX12_hold : TbOK mX12_hold tX12_hold := by
  unfold TbOK
  decide +kernel
theorem kdX12_hold (k : Nat) {pc : Nat} {i : Instr} {len nx : Nat} (hk : tX12_hold[k]? = some (pc, i, len, nx)) : Dc mX12_hold pc i len nx := dc_of ktX12_hold k hk
theorem iX12_hold : MiV mX12_hold := ⟨⟨gdw_of (i := 1758) (by decide +kernel) (by decide +kernel), gdw_of (i := 124) (by decide +kernel) (by decide +kernel), by decide, by decide, by decide⟩, gdw_of (i := 1756) (by decide +kernel) (by decide +kernel), gdw_of (i := 1757) (by decide +kernel) (by decide +kernel)⟩
abbrev mX12_set : hMt := (yX12_set, cX12_set, 4, some .int)
def tX12_set : hTb := [(0, .aload_n 0, 1, 1), (1, .aload_n 0, 1, 2), (2, .iload_n 1, 1, 3), (3, .invokevirtual 325, 3, 6), (6, .ifCond .ne 7, 3, 9), (9, .iconst 0, 1, 10), (10, .goto 37, 3, 13), (13, .iload_n 2, 1, 14), (14, .sipush (-255), 3, 17), (17, .sipush 255, 3, 20), (20, .invokestatic 89, 3, 23), (23, .ifCond .ne 7, 3, 26), (26, .iconst 1, 1, 27), (27, .goto 20, 3, 30), (30, .aload_n 0, 1, 31), (31, .getfield 37, 3, 34), (34, .iconst 0, 1, 35), (35, .iload_n 1, 1, 36), (36, .iadd, 1, 37), (37, .iaload, 1, 38), (38, .iload_n 2, 1, 39), (39, .if_icmp .ne 7, 3, 42), (42, .iconst 2, 1, 43), (43, .goto 4, 3, 46), (46, .iconst (-1), 1, 47), (47, .invokevirtual 313, 3, 50), (50, .ifCond .eq 6, 3, 53), (53, .ldc 50, 2, 55), (55, .ireturn, 1, 56), (56, .aload_n 0, 1, 57), (57, .invokevirtual 316, 3, 60), (60, .aload_n 0, 1, 61), (61, .getfield 37, 3, 64), (64, .iconst 0, 1, 65), (65, .iload_n 1, 1, 66), (66, .iadd, 1, 67), (67, .iaload, 1, 68), (68, .istore_n 3, 1, 69), (69, .aload_n 0, 1, 70), (70, .getfield 37, 3, 73), (73, .iconst 0, 1, 74), (74, .iload_n 1, 1, 75), (75, .iadd, 1, 76), (76, .iload_n 2, 1, 77), (77, .iastore, 1, 78), (78, .aload_n 0, 1, 79), (79, .getfield 37, 3, 82), (82, .bipush 6, 2, 84), (84, .iload_n 1, 1, 85), (85, .iadd, 1, 86), (86, .iconst 0, 1, 87), (87, .iastore, 1, 88), (88, .iload_n 3, 1, 89), (89, .ireturn, 1, 90)]
theorem ktX12_set : TbOK mX12_set tX12_set := by
  unfold TbOK
  decide +kernel
theorem kdX12_set (k : Nat) {pc : Nat} {i : Instr} {len nx : Nat} (hk : tX12_set[k]? = some (pc, i, len, nx)) : Dc mX12_set pc i len nx := dc_of ktX12_set k hk
theorem iX12_set : MiV mX12_set := ⟨⟨gdw_of (i := 1762) (by decide +kernel) (by decide +kernel), gdw_of (i := 124) (by decide +kernel) (by decide +kernel), by decide, by decide, by decide⟩, gdw_of (i := 1760) (by decide +kernel) (by decide +kernel), gdw_of (i := 1761) (by decide +kernel) (by decide +kernel)⟩
abbrev mX12_drop : hMt := (yX12_drop, cX12_drop, 1, some .int)
def tX12_drop : hTb := [(0, .aload_n 0, 1, 1), (1, .aload_n 0, 1, 2), (2, .getfield 203, 3, 5), (5, .ifCond .ne 7, 3, 8), (8, .iconst 0, 1, 9), (9, .goto 19, 3, 12), (12, .aload_n 0, 1, 13), (13, .getfield 37, 3, 16), (16, .bipush 22, 2, 18), (18, .iaload, 1, 19), (19, .iconst 1, 1, 20), (20, .if_icmp .ne 7, 3, 23), (23, .iconst 2, 1, 24), (24, .goto 4, 3, 27), (27, .iconst (-1), 1, 28), (28, .invokevirtual 313, 3, 31), (31, .ifCond .eq 5, 3, 34), (34, .iconst (-1), 1, 35), (35, .ireturn, 1, 36), (36, .aload_n 0, 1, 37), (37, .invokevirtual 316, 3, 40), (40, .aload_n 0, 1, 41), (41, .getfield 37, 3, 44), (44, .bipush 22, 2, 46), (46, .iconst 1, 1, 47), (47, .iastore, 1, 48), (48, .aload_n 0, 1, 49), (49, .getfield 37, 3, 52), (52, .bipush 18, 2, 54), (54, .iaload, 1, 55), (55, .ireturn, 1, 56)]
theorem ktX12_drop : TbOK mX12_drop tX12_drop := by
  unfold TbOK
  decide +kernel
theorem kdX12_drop (k : Nat) {pc : Nat} {i : Instr} {len nx : Nat} (hk : tX12_drop[k]? = some (pc, i, len, nx)) : Dc mX12_drop pc i len nx := dc_of ktX12_drop k hk
theorem iX12_drop : MiV mX12_drop := ⟨⟨gdw_of (i := 1770) (by decide +kernel) (by decide +kernel), gdw_of (i := 124) (by decide +kernel) (by decide +kernel), by decide, by decide, by decide⟩, gdw_of (i := 1768) (by decide +kernel) (by decide +kernel), gdw_of (i := 1769) (by decide +kernel) (by decide +kernel)⟩
abbrev mX12_change : hMt := (yX12_change, cX12_change, 3, some .int)
def tX12_change : hTb := [(0, .aload_n 0, 1, 1), (1, .getfield 203, 3, 4), (4, .ifCond .eq 24, 3, 7), (7, .iload_n 1, 1, 8), (8, .iconst 0, 1, 9), (9, .iconst 1, 1, 10), (10, .invokestatic 89, 3, 13), (13, .ifCond .ne 15, 3, 16), (16, .aload_n 0, 1, 17), (17, .getfield 40, 3, 20), (20, .iconst 1, 1, 21), (21, .dup2, 1, 22), (22, .iaload, 1, 23), (23, .iconst 1, 1, 24), (24, .iadd, 1, 25), (25, .iastore, 1, 26), (26, .iconst (-1), 1, 27), (27, .ireturn, 1, 28), (28, .aload_n 0, 1, 29), (29, .iload_n 1, 1, 30), (30, .iconst 1, 1, 31), (31, .if_icmp .ne 8, 3, 34), (34, .bipush 19, 2, 36), (36, .goto 5, 3, 39), (39, .bipush 20, 2, 41), (41, .iload_n 2, 1, 42), (42, .iload_n 1, 1, 43), (43, .iconst 1, 1, 44), (44, .if_icmp .ne 8, 3, 47), (47, .bipush 99, 2, 49), (49, .goto 4, 3, 52), (52, .iconst 4, 1, 53), (53, .invokevirtual 322, 3, 56), (56, .ireturn, 1, 57)]
theorem ktX12_change : TbOK mX12_change tX12_change := by
  unfold TbOK
  decide +kernel
theorem kdX12_change (k : Nat) {pc : Nat} {i : Instr} {len nx : Nat} (hk : tX12_change[k]? = some (pc, i, len, nx)) : Dc mX12_change pc i len nx := dc_of ktX12_change k hk
theorem iX12_change : MiV mX12_change := ⟨⟨gdw_of (i := 1774) (by decide +kernel) (by decide +kernel), gdw_of (i := 124) (by decide +kernel) (by decide +kernel), by decide, by decide, by decide⟩, gdw_of (i := 1772) (by decide +kernel) (by decide +kernel), gdw_of (i := 1773) (by decide +kernel) (by decide +kernel)⟩
abbrev mX12_dice : hMt := (yX12_dice, cX12_dice, 3, some .int)
def tX12_dice : hTb := [(0, .aload_n 0, 1, 1), (1, .aload_n 0, 1, 2), (2, .getfield 203, 3, 5), (5, .ifCond .ne 7, 3, 8), (8, .iconst 0, 1, 9), (9, .goto 4, 3, 12), (12, .iconst (-1), 1, 13), (13, .invokevirtual 313, 3, 16), (16, .ifCond .eq 5, 3, 19), (19, .iconst (-1), 1, 20), (20, .ireturn, 1, 21), (21, .aload_n 0, 1, 22), (22, .invokevirtual 316, 3, 25), (25, .aload_n 0, 1, 26), (26, .getfield 37, 3, 29), (29, .bipush 49, 2, 31), (31, .lload_n 1, 1, 32), (32, .bipush 32, 2, 34), (34, .lshr, 1, 35), (35, .l2i, 1, 36), (36, .iastore, 1, 37), (37, .aload_n 0, 1, 38), (38, .getfield 37, 3, 41), (41, .bipush 50, 2, 43), (43, .lload_n 1, 1, 44), (44, .l2i, 1, 45), (45, .iastore, 1, 46), (46, .aload_n 0, 1, 47), (47, .getfield 37, 3, 50), (50, .bipush 18, 2, 52), (52, .iaload, 1, 53), (53, .ireturn, 1, 54)]
theorem ktX12_dice : TbOK mX12_dice tX12_dice := by
  unfold TbOK
  decide +kernel
theorem kdX12_dice (k : Nat) {pc : Nat} {i : Instr} {len nx : Nat} (hk : tX12_dice[k]? = some (pc, i, len, nx)) : Dc mX12_dice pc i len nx := dc_of ktX12_dice k hk
theorem iX12_dice : MiV mX12_dice := ⟨⟨gdw_of (i := 1778) (by decide +kernel) (by decide +kernel), gdw_of (i := 124) (by decide +kernel) (by decide +kernel), by decide, by decide, by decide⟩, gdw_of (i := 1776) (by decide +kernel) (by decide +kernel), gdw_of (i := 1777) (by decide +kernel) (by decide +kernel)⟩
abbrev mX12_seek : hMt := (yX12_seek, cX12_seek, 1, some .int)
def tX12_seek : hTb := [(0, .aload_n 0, 1, 1), (1, .aload_n 0, 1, 2), (2, .getfield 203, 3, 5), (5, .ifCond .ne 7, 3, 8), (8, .iconst 0, 1, 9), (9, .goto 23, 3, 12), (12, .aload_n 0, 1, 13), (13, .aload_n 0, 1, 14), (14, .getfield 37, 3, 17), (17, .bipush 14, 2, 19), (19, .iaload, 1, 20), (20, .invokevirtual 310, 3, 23), (23, .iconst (-1), 1, 24), (24, .if_icmp .ne 7, 3, 27), (27, .iconst 2, 1, 28), (28, .goto 4, 3, 31), (31, .iconst (-1), 1, 32), (32, .invokevirtual 313, 3, 35), (35, .ifCond .eq 5, 3, 38), (38, .iconst (-1), 1, 39), (39, .ireturn, 1, 40), (40, .aload_n 0, 1, 41), (41, .invokevirtual 316, 3, 44), (44, .aload_n 0, 1, 45), (45, .invokevirtual 328, 3, 48), (48, .aload_n 0, 1, 49), (49, .getfield 37, 3, 52), (52, .bipush 14, 2, 54), (54, .iaload, 1, 55), (55, .ireturn, 1, 56)]
theorem ktX12_seek : TbOK mX12_seek tX12_seek := by
  unfold TbOK
  decide +kernel
theorem kdX12_seek (k : Nat) {pc : Nat} {i : Instr} {len nx : Nat} (hk : tX12_seek[k]? = some (pc, i, len, nx)) : Dc mX12_seek pc i len nx := dc_of ktX12_seek k hk
theorem iX12_seek : MiV mX12_seek := ⟨⟨gdw_of (i := 1782) (by decide +kernel) (by decide +kernel), gdw_of (i := 124) (by decide +kernel) (by decide +kernel), by decide, by decide, by decide⟩, gdw_of (i := 1780) (by decide +kernel) (by decide +kernel), gdw_of (i := 1781) (by decide +kernel) (by decide +kernel)⟩
abbrev mX12_risk : hMt := (yX12_risk, cX12_risk, 2, some .boolean)
def tX12_risk : hTb := [(0, .iload_n 1, 1, 1), (1, .iconst 0, 1, 2), (2, .bipush 9, 2, 4), (4, .invokestatic 89, 3, 7), (7, .ifCond .eq 11, 3, 10), (10, .iload_n 1, 1, 11), (11, .aload_n 0, 1, 12), (12, .getfield 43, 3, 15), (15, .if_icmp .ne 5, 3, 18), (18, .iconst 0, 1, 19), (19, .ireturn, 1, 20), (20, .aload_n 0, 1, 21), (21, .iload_n 1, 1, 22), (22, .putfield 43, 3, 25), (25, .iconst 1, 1, 26), (26, .ireturn, 1, 27)]
theorem ktX12_risk : TbOK mX12_risk tX12_risk := by
  unfold TbOK
  decide +kernel
theorem kdX12_risk (k : Nat) {pc : Nat} {i : Instr} {len nx : Nat} (hk : tX12_risk[k]? = some (pc, i, len, nx)) : Dc mX12_risk pc i len nx := dc_of ktX12_risk k hk
theorem iX12_risk : MiV mX12_risk := ⟨⟨gdw_of (i := 1808) (by decide +kernel) (by decide +kernel), gdw_of (i := 124) (by decide +kernel) (by decide +kernel), by decide, by decide, by decide⟩, gdw_of (i := 1806) (by decide +kernel) (by decide +kernel), gdw_of (i := 1807) (by decide +kernel) (by decide +kernel)⟩
abbrev mX12_draw : hMt := (yX12_draw, cX12_draw, 2, some .int)
def tX12_draw : hTb := [(0, .aload_n 0, 1, 1), (1, .aload_n 0, 1, 2), (2, .getfield 331, 3, 5), (5, .ldc2_w 224, 3, 8), (8, .lmul, 1, 9), (9, .ldc2_w 226, 3, 12), (12, .ladd, 1, 13), (13, .putfield 331, 3, 16), (16, .aload_n 0, 1, 17), (17, .getfield 331, 3, 20), (20, .bipush 33, 2, 22), (22, .lushr, 1, 23), (23, .iload_n 1, 1, 24), (24, .i2l, 1, 25), (25, .lrem, 1, 26), (26, .l2i, 1, 27), (27, .ireturn, 1, 28)]
theorem ktX12_draw : TbOK mX12_draw tX12_draw := by
  unfold TbOK
  decide +kernel
theorem kdX12_draw (k : Nat) {pc : Nat} {i : Instr} {len nx : Nat} (hk : tX12_draw[k]? = some (pc, i, len, nx)) : Dc mX12_draw pc i len nx := dc_of ktX12_draw k hk
theorem iX12_draw : MiV mX12_draw := ⟨⟨gdw_of (i := 1820) (by decide +kernel) (by decide +kernel), gdw_of (i := 124) (by decide +kernel) (by decide +kernel), by decide, by decide, by decide⟩, gdw_of (i := 1819) (by decide +kernel) (by decide +kernel), gdw_of (i := 94) (by decide +kernel) (by decide +kernel)⟩
abbrev mX12_drawYear : hMt := (yX12_drawYear, cX12_drawYear, 2, none)
def tX12_drawYear : hTb := [(0, .aload_n 0, 1, 1), (1, .bipush 10, 2, 3), (3, .invokevirtual 334, 3, 6), (6, .aload_n 0, 1, 7), (7, .getfield 43, 3, 10), (10, .if_icmp .ge 91, 3, 13), (13, .aload_n 0, 1, 14), (14, .iconst 4, 1, 15), (15, .invokevirtual 334, 3, 18), (18, .tableswitch 67 0 2 #[26, 37, 52], 26, 44), (44, .aload_n 0, 1, 45), (45, .getfield 37, 3, 48), (48, .bipush 22, 2, 50), (50, .iconst 1, 1, 51), (51, .iastore, 1, 52), (52, .goto 49, 3, 55), (55, .aload_n 0, 1, 56), (56, .getfield 37, 3, 59), (59, .bipush 14, 2, 61), (61, .aload_n 0, 1, 62), (62, .iconst 4, 1, 63), (63, .invokevirtual 334, 3, 66), (66, .iastore, 1, 67), (67, .goto 34, 3, 70), (70, .aload_n 0, 1, 71), (71, .getfield 37, 3, 74), (74, .bipush 20, 2, 76), (76, .aload_n 0, 1, 77), (77, .iconst 5, 1, 78), (78, .invokevirtual 334, 3, 81), (81, .iastore, 1, 82), (82, .goto 19, 3, 85), (85, .aload_n 0, 1, 86), (86, .getfield 37, 3, 89), (89, .bipush 16, 2, 91), (91, .iconst 1, 1, 92), (92, .aload_n 0, 1, 93), (93, .getfield 37, 3, 96), (96, .bipush 16, 2, 98), (98, .iaload, 1, 99), (99, .isub, 1, 100), (100, .iastore, 1, 101), (101, .aload_n 0, 1, 102), (102, .bipush 8, 2, 104), (104, .invokevirtual 334, 3, 107), (107, .iconst 1, 1, 108), (108, .iadd, 1, 109), (109, .istore_n 1, 1, 110), (110, .aload_n 0, 1, 111), (111, .iload_n 1, 1, 112), (112, .sipush 9999, 3, 115), (115, .aload_n 0, 1, 116), (116, .getfield 37, 3, 119), (119, .bipush 18, 2, 121), (121, .iaload, 1, 122), (122, .isub, 1, 123), (123, .invokestatic 234, 3, 126), (126, .invokevirtual 319, 3, 129), (129, .pop, 1, 130), (130, .return_, 1, 131)]
theorem ktX12_drawYear : TbOK mX12_drawYear tX12_drawYear := by
  unfold TbOK
  decide +kernel
theorem kdX12_drawYear (k : Nat) {pc : Nat} {i : Instr} {len nx : Nat} (hk : tX12_drawYear[k]? = some (pc, i, len, nx)) : Dc mX12_drawYear pc i len nx := dc_of ktX12_drawYear k hk
theorem iX12_drawYear : MiV mX12_drawYear := ⟨⟨gdw_of (i := 1816) (by decide +kernel) (by decide +kernel), gdw_of (i := 124) (by decide +kernel) (by decide +kernel), by decide, by decide, by decide⟩, gdw_of (i := 1815) (by decide +kernel) (by decide +kernel), gdw_of (i := 93) (by decide +kernel) (by decide +kernel)⟩
theorem lX12_287 : Lk RX12 287 mX12_symbol := Or.inl (gdw_of (i := 1681) (by decide +kernel) (by decide +kernel))
theorem lX12_301 : Lk RX12 301 mX12_weighRow := Or.inl (gdw_of (i := 1797) (by decide +kernel) (by decide +kernel))
theorem lX12_304 : Lk RX12 304 mX12_layOpening := Or.inl (gdw_of (i := 1791) (by decide +kernel) (by decide +kernel))
theorem lX12_307 : Lk RX12 307 mX12_heightOf := Or.inl (gdw_of (i := 1787) (by decide +kernel) (by decide +kernel))
theorem lX12_310 : Lk RX12 310 mX12_better := Or.inl (gdw_of (i := 1783) (by decide +kernel) (by decide +kernel))
theorem lX12_313 : Lk RX12 313 mX12_isRefused := Or.inl (gdw_of (i := 1669) (by decide +kernel) (by decide +kernel))
theorem lX12_316 : Lk RX12 316 mX12_keep := Or.inl (gdw_of (i := 1673) (by decide +kernel) (by decide +kernel))
theorem lX12_319 : Lk RX12 319 mX12_symbols := Or.inl (gdw_of (i := 1677) (by decide +kernel) (by decide +kernel))
theorem lX12_322 : Lk RX12 322 mX12_setOne := Or.inl (gdw_of (i := 1751) (by decide +kernel) (by decide +kernel))
theorem lX12_325 : Lk RX12 325 mX12_isTap := Or.inl (gdw_of (i := 1763) (by decide +kernel) (by decide +kernel))
theorem lX12_328 : Lk RX12 328 mX12_seekNow := Or.inl (gdw_of (i := 1801) (by decide +kernel) (by decide +kernel))
theorem lX12_334 : Lk RX12 334 mX12_draw := Or.inl (gdw_of (i := 1817) (by decide +kernel) (by decide +kernel))
theorem lX12_337 : Lk RX12 337 mX12_drawYear := Or.inl (gdw_of (i := 1813) (by decide +kernel) (by decide +kernel))
def JX12_symbol_389 (v8 : Int32) (v100 : Int32) (v101 : Int32) (v102 : Int32) (m : hM) : hR :=
  calV (JX12_note v102 (v101 + v100) m) fun m34 =>
  jretZ v8 m34
set_option maxRecDepth 20000 in
theorem BX12_symbol_389 (v8 : Int32) (v100 : Int32) (v101 : Int32) (v102 : Int32) (m : hM) : G mX12_symbol 3 389 [(8, .inl v8)] [.inl v100, .inl v101, .inl v102, .inr (.inr (40, 0))] m (JX12_symbol_389 v8 v100 v101 v102 m) := by
  unfold JX12_symbol_389
  refine g_iadd (kdX12_symbol 215 rfl) ?_
  refine g_calV (ck_V (As := [.inl v102, .inl (v101 + v100)]) (S := []) (t := 40) (o := 0) (kdX12_symbol 216 rfl) iX12_note lX12_284 rc_40 rfl rfl rfl (by decide) (by simp only [List.map, vcat, List.sum_cons, List.sum_nil]; decide)) (CX12_note v102 (v101 + v100) m) (fun m34 => ?_)
  refine g_iload 0 (kdX12_symbol 217 rfl) rfl ?_
  exact g_zret rfl (kdX12_symbol 218 rfl)
def JX12_symbol_377 (v6 : Int32) (v8 : Int32) (v100 : Int32) (v101 : Int32) (v102 : Int32) (m : hM) : hR :=
  if v6 = 0 then (JX12_symbol_389 v8 0 (v101 + v100) v102 m) else (JX12_symbol_389 v8 32 (v101 + v100) v102 m)
set_option maxRecDepth 20000 in
theorem BX12_symbol_377 (v6 : Int32) (v8 : Int32) (v100 : Int32) (v101 : Int32) (v102 : Int32) (m : hM) : G mX12_symbol 3 377 [(6, .inl v6), (8, .inl v8)] [.inl v100, .inl v101, .inl v102, .inr (.inr (40, 0))] m (JX12_symbol_377 v6 v8 v100 v101 v102 m) := by
  unfold JX12_symbol_377
  refine g_iadd (kdX12_symbol 209 rfl) ?_
  refine g_iload 0 (kdX12_symbol 210 rfl) rfl ?_
  refine g_if_eq (tgt := 388) (kdX12_symbol 211 rfl) (by decide) (fun _ => ?_) (fun _ => ?_)
  · refine g_iconst (v := 0) (kdX12_symbol 214 rfl) (by decide) ?_
    exact g_fgt [1] rfl (BX12_symbol_389 v8 0 (v101 + v100) v102 m)
  · refine g_bipush (v := 32) (kdX12_symbol 212 rfl) (by decide) ?_
    refine g_goto (tgt := 389) (kdX12_symbol 213 rfl) (by decide) ?_
    exact g_fgt [1] rfl (BX12_symbol_389 v8 32 (v101 + v100) v102 m)
def JX12_symbol_354 (v6 : Int32) (v8 : Int32) (v10 : Int32) (v100 : Int32) (v101 : Int32) (v102 : Int32) (m : hM) : hR :=
  ald m 50 0 17 fun x33 =>
  if v10 = 0 then (JX12_symbol_377 v6 v8 0 ((v101 + v100) + (8 * x33)) v102 m) else (JX12_symbol_377 v6 v8 16 ((v101 + v100) + (8 * x33)) v102 m)
set_option maxRecDepth 20000 in
theorem BX12_symbol_354 (v6 : Int32) (v8 : Int32) (v10 : Int32) (v100 : Int32) (v101 : Int32) (v102 : Int32) (m : hM) : G mX12_symbol 3 354 [(0, .inr (.inr (40, 0))), (6, .inl v6), (8, .inl v8), (10, .inl v10)] [.inl v100, .inl v101, .inl v102, .inr (.inr (40, 0))] m (JX12_symbol_354 v6 v8 v10 v100 v101 v102 m) := by
  unfold JX12_symbol_354
  refine g_iadd (kdX12_symbol 196 rfl) ?_
  refine g_bipush (v := 8) (kdX12_symbol 197 rfl) (by decide) ?_
  refine g_aload_n 0 (kdX12_symbol 198 rfl) rfl ?_
  refine g_get (v := .inr (.inr (50, 0))) (kdX12_symbol 199 rfl) fX12_37 rfl ?_
  refine g_bipush (v := 17) (kdX12_symbol 200 rfl) (by decide) ?_
  refine g_iald (kdX12_symbol 201 rfl) (fun x33 => ?_)
  refine g_imul (kdX12_symbol 202 rfl) ?_
  refine g_iadd (kdX12_symbol 203 rfl) ?_
  refine g_iload 3 (kdX12_symbol 204 rfl) rfl ?_
  refine g_if_eq (tgt := 376) (kdX12_symbol 205 rfl) (by decide) (fun _ => ?_) (fun _ => ?_)
  · refine g_iconst (v := 0) (kdX12_symbol 208 rfl) (by decide) ?_
    exact g_fgt [1, 2] rfl (BX12_symbol_377 v6 v8 0 ((v101 + v100) + (8 * x33)) v102 m)
  · refine g_bipush (v := 16) (kdX12_symbol 206 rfl) (by decide) ?_
    refine g_goto (tgt := 377) (kdX12_symbol 207 rfl) (by decide) ?_
    exact g_fgt [1, 2] rfl (BX12_symbol_377 v6 v8 16 ((v101 + v100) + (8 * x33)) v102 m)
def JX12_symbol_343 (v6 : Int32) (v8 : Int32) (v10 : Int32) (v100 : Int32) (v101 : Int32) (v102 : Int32) (m : hM) : hR :=
  if v8 = 0 then (JX12_symbol_354 v6 v8 v10 0 (v101 + v100) v102 m) else (JX12_symbol_354 v6 v8 v10 4 (v101 + v100) v102 m)
set_option maxRecDepth 20000 in
theorem BX12_symbol_343 (v6 : Int32) (v8 : Int32) (v10 : Int32) (v100 : Int32) (v101 : Int32) (v102 : Int32) (m : hM) : G mX12_symbol 3 343 [(0, .inr (.inr (40, 0))), (6, .inl v6), (8, .inl v8), (10, .inl v10)] [.inl v100, .inl v101, .inl v102, .inr (.inr (40, 0))] m (JX12_symbol_343 v6 v8 v10 v100 v101 v102 m) := by
  unfold JX12_symbol_343
  refine g_iadd (kdX12_symbol 190 rfl) ?_
  refine g_iload 2 (kdX12_symbol 191 rfl) rfl ?_
  refine g_if_eq (tgt := 353) (kdX12_symbol 192 rfl) (by decide) (fun _ => ?_) (fun _ => ?_)
  · refine g_iconst (v := 0) (kdX12_symbol 195 rfl) (by decide) ?_
    exact g_fgt [0, 1, 2, 3] rfl (BX12_symbol_354 v6 v8 v10 0 (v101 + v100) v102 m)
  · refine g_iconst (v := 4) (kdX12_symbol 193 rfl) (by decide) ?_
    refine g_goto (tgt := 354) (kdX12_symbol 194 rfl) (by decide) ?_
    exact g_fgt [0, 1, 2, 3] rfl (BX12_symbol_354 v6 v8 v10 4 (v101 + v100) v102 m)
def JX12_symbol_331 (v1 : Int32) (v4 : Int32) (v6 : Int32) (v8 : Int32) (v10 : Int32) (v100 : Int32) (m : hM) : hR :=
  if v4 = 1 then (JX12_symbol_343 v6 v8 v10 2 v1 v100 m) else (JX12_symbol_343 v6 v8 v10 0 v1 v100 m)
set_option maxRecDepth 20000 in
theorem BX12_symbol_331 (v1 : Int32) (v4 : Int32) (v6 : Int32) (v8 : Int32) (v10 : Int32) (v100 : Int32) (m : hM) : G mX12_symbol 3 331 [(0, .inr (.inr (40, 0))), (1, .inl v1), (4, .inl v4), (6, .inl v6), (8, .inl v8), (10, .inl v10)] [.inl v100, .inr (.inr (40, 0))] m (JX12_symbol_331 v1 v4 v6 v8 v10 v100 m) := by
  unfold JX12_symbol_331
  refine g_iload_n 1 (kdX12_symbol 183 rfl) rfl ?_
  refine g_iload 2 (kdX12_symbol 184 rfl) rfl ?_
  refine g_iconst (v := 1) (kdX12_symbol 185 rfl) (by decide) ?_
  refine g_icmp_ne (tgt := 342) (kdX12_symbol 186 rfl) (by decide) (fun _ => ?_) (fun _ => ?_)
  · refine g_iconst (v := 0) (kdX12_symbol 189 rfl) (by decide) ?_
    exact g_fgt [0, 3, 4, 5] rfl (BX12_symbol_343 v6 v8 v10 0 v1 v100 m)
  · refine g_iconst (v := 2) (kdX12_symbol 187 rfl) (by decide) ?_
    refine g_goto (tgt := 343) (kdX12_symbol 188 rfl) (by decide) ?_
    exact g_fgt [0, 3, 4, 5] rfl (BX12_symbol_343 v6 v8 v10 2 v1 v100 m)
def JX12_symbol_285 (v1 : Int32) (v2 : Int32) (v3 : Int32) (v4 : Int32) (v6 : Int32) (v7 : Int32) (v8 : Int32) (v9 : Int32) (v10 : Int32) (m : hM) : hR :=
  calV (JX12_shift 37 3 v7 m) fun m28 =>
  ast m28 50 0 43 v9 fun m29 =>
  calV (JX12_runOn v8 m29) fun m30 =>
  ald m30 50 0 18 fun x31 =>
  ast m30 50 0 18 (x31 + 1) fun m32 =>
  if v3 = 0 then (JX12_symbol_331 v1 v4 v6 v8 v10 v2 m32) else (JX12_symbol_331 v1 v4 v6 v8 v10 (-1000000000) m32)
set_option maxRecDepth 20000 in
theorem BX12_symbol_285 (v1 : Int32) (v2 : Int32) (v3 : Int32) (v4 : Int32) (v6 : Int32) (v7 : Int32) (v8 : Int32) (v9 : Int32) (v10 : Int32) (m : hM) : G mX12_symbol 3 285 [(0, .inr (.inr (40, 0))), (1, .inl v1), (2, .inl v2), (3, .inl v3), (4, .inl v4), (6, .inl v6), (7, .inl v7), (8, .inl v8), (9, .inl v9), (10, .inl v10)] [] m (JX12_symbol_285 v1 v2 v3 v4 v6 v7 v8 v9 v10 m) := by
  unfold JX12_symbol_285
  refine g_aload_n 0 (kdX12_symbol 156 rfl) rfl ?_
  refine g_bipush (v := 37) (kdX12_symbol 157 rfl) (by decide) ?_
  refine g_iconst (v := 3) (kdX12_symbol 158 rfl) (by decide) ?_
  refine g_iload 6 (kdX12_symbol 159 rfl) rfl ?_
  refine g_calV (ck_V (As := [.inl 37, .inl 3, .inl v7]) (S := []) (t := 40) (o := 0) (kdX12_symbol 160 rfl) iX12_shift lX12_262 rc_40 rfl rfl rfl (by decide) (by simp only [List.map, vcat, List.sum_cons, List.sum_nil]; decide)) (CX12_shift 37 3 v7 m) (fun m28 => ?_)
  refine g_aload_n 0 (kdX12_symbol 161 rfl) rfl ?_
  refine g_get (v := .inr (.inr (50, 0))) (kdX12_symbol 162 rfl) fX12_37 rfl ?_
  refine g_bipush (v := 43) (kdX12_symbol 163 rfl) (by decide) ?_
  refine g_iload 8 (kdX12_symbol 164 rfl) rfl ?_
  refine g_iast (kdX12_symbol 165 rfl) (fun m29 => ?_)
  refine g_aload_n 0 (kdX12_symbol 166 rfl) rfl ?_
  refine g_iload 7 (kdX12_symbol 167 rfl) rfl ?_
  refine g_calV (ck_V (As := [.inl v8]) (S := []) (t := 40) (o := 0) (kdX12_symbol 168 rfl) iX12_runOn lX12_281 rc_40 rfl rfl rfl (by decide) (by simp only [List.map, vcat, List.sum_cons, List.sum_nil]; decide)) (CX12_runOn v8 m29) (fun m30 => ?_)
  refine g_aload_n 0 (kdX12_symbol 169 rfl) rfl ?_
  refine g_get (v := .inr (.inr (50, 0))) (kdX12_symbol 170 rfl) fX12_37 rfl ?_
  refine g_bipush (v := 18) (kdX12_symbol 171 rfl) (by decide) ?_
  refine g_dup2 (kdX12_symbol 172 rfl) rfl rfl ?_
  refine g_iald (kdX12_symbol 173 rfl) (fun x31 => ?_)
  refine g_iconst (v := 1) (kdX12_symbol 174 rfl) (by decide) ?_
  refine g_iadd (kdX12_symbol 175 rfl) ?_
  refine g_iast (kdX12_symbol 176 rfl) (fun m32 => ?_)
  refine g_aload_n 0 (kdX12_symbol 177 rfl) rfl ?_
  refine g_iload_n 3 (kdX12_symbol 178 rfl) rfl ?_
  refine g_if_eq (tgt := 330) (kdX12_symbol 179 rfl) (by decide) (fun _ => ?_) (fun _ => ?_)
  · refine g_iload_n 2 (kdX12_symbol 182 rfl) rfl ?_
    exact g_fgt [0, 1, 4, 5, 7, 9] rfl (BX12_symbol_331 v1 v4 v6 v8 v10 v2 m32)
  · refine g_ldc (kdX12_symbol 180 rfl) cX12_50 ?_
    refine g_goto (tgt := 331) (kdX12_symbol 181 rfl) (by decide) ?_
    exact g_fgt [0, 1, 4, 5, 7, 9] rfl (BX12_symbol_331 v1 v4 v6 v8 v10 (-1000000000) m32)
def JX12_symbol_270 (v1 : Int32) (v2 : Int32) (v3 : Int32) (v4 : Int32) (v6 : Int32) (v7 : Int32) (v8 : Int32) (v9 : Int32) (v100 : Int32) (m : hM) : hR :=
  if v100 = 0 then (JX12_symbol_285 v1 v2 v3 v4 v6 v7 v8 v9 v100 m) else (calV (JX12_learn v9 v7 m) fun m35 =>
  JX12_symbol_285 v1 v2 v3 v4 v6 v7 v8 v9 v100 m35)
set_option maxRecDepth 20000 in
theorem BX12_symbol_270 (v1 : Int32) (v2 : Int32) (v3 : Int32) (v4 : Int32) (v6 : Int32) (v7 : Int32) (v8 : Int32) (v9 : Int32) (v100 : Int32) (m : hM) : G mX12_symbol 3 270 [(0, .inr (.inr (40, 0))), (1, .inl v1), (2, .inl v2), (3, .inl v3), (4, .inl v4), (6, .inl v6), (7, .inl v7), (8, .inl v8), (9, .inl v9)] [.inl v100] m (JX12_symbol_270 v1 v2 v3 v4 v6 v7 v8 v9 v100 m) := by
  unfold JX12_symbol_270
  refine g_istore (L2 := [(10, .inl v100), (0, .inr (.inr (40, 0))), (1, .inl v1), (2, .inl v2), (3, .inl v3), (4, .inl v4), (6, .inl v6), (7, .inl v7), (8, .inl v8), (9, .inl v9)]) (kdX12_symbol 149 rfl) rfl (by decide) ?_
  refine g_iload 0 (kdX12_symbol 150 rfl) rfl ?_
  refine g_if_eq (tgt := 285) (kdX12_symbol 151 rfl) (by decide) (fun _ => ?_) (fun _ => ?_)
  · exact g_fgt [1, 2, 3, 4, 5, 6, 7, 8, 9, 0] rfl (BX12_symbol_285 v1 v2 v3 v4 v6 v7 v8 v9 v100 m)
  · refine g_aload_n 1 (kdX12_symbol 152 rfl) rfl ?_
    refine g_iload 9 (kdX12_symbol 153 rfl) rfl ?_
    refine g_iload 7 (kdX12_symbol 154 rfl) rfl ?_
    refine g_calV (ck_V (As := [.inl v9, .inl v7]) (S := []) (t := 40) (o := 0) (kdX12_symbol 155 rfl) iX12_learn lX12_278 rc_40 rfl rfl rfl (by decide) (by simp only [List.map, vcat, List.sum_cons, List.sum_nil]; decide)) (CX12_learn v9 v7 m) (fun m35 => ?_)
    exact g_fgt [1, 2, 3, 4, 5, 6, 7, 8, 9, 0] rfl (BX12_symbol_285 v1 v2 v3 v4 v6 v7 v8 v9 v100 m35)
def JX12_symbol_269 (v1 : Int32) (v2 : Int32) (v3 : Int32) (v4 : Int32) (v6 : Int32) (v7 : Int32) (v8 : Int32) (v9 : Int32) (m : hM) : hR :=
  JX12_symbol_270 v1 v2 v3 v4 v6 v7 v8 v9 0 m
set_option maxRecDepth 20000 in
theorem BX12_symbol_269 (v1 : Int32) (v2 : Int32) (v3 : Int32) (v4 : Int32) (v6 : Int32) (v7 : Int32) (v8 : Int32) (v9 : Int32) (m : hM) : G mX12_symbol 3 269 [(0, .inr (.inr (40, 0))), (1, .inl v1), (2, .inl v2), (3, .inl v3), (4, .inl v4), (6, .inl v6), (7, .inl v7), (8, .inl v8), (9, .inl v9)] [] m (JX12_symbol_269 v1 v2 v3 v4 v6 v7 v8 v9 m) := by
  unfold JX12_symbol_269
  refine g_iconst (v := 0) (kdX12_symbol 148 rfl) (by decide) ?_
  exact g_fgt [0, 1, 2, 3, 4, 5, 6, 7, 8] rfl (BX12_symbol_270 v1 v2 v3 v4 v6 v7 v8 v9 0 m)
def JX12_symbol_238 (v1 : Int32) (v2 : Int32) (v3 : Int32) (v4 : Int32) (v6 : Int32) (v7 : Int32) (v8 : Int32) (v9 : Int32) (v100 : Int32) (m : hM) : hR :=
  calV (JX12_hush v100 m) fun m26 =>
  ald m26 50 0 16 fun x27 =>
  if x27 = 0 then (ald m26 50 0 17 fun x36 =>
  if x36 = 0 then (if v3 = 0 then (JX12_symbol_270 v1 v2 v3 v4 v6 v7 v8 v9 1 m26) else (JX12_symbol_269 v1 v2 v3 v4 v6 v7 v8 v9 m26)) else (JX12_symbol_269 v1 v2 v3 v4 v6 v7 v8 v9 m26)) else (JX12_symbol_269 v1 v2 v3 v4 v6 v7 v8 v9 m26)
set_option maxRecDepth 20000 in
theorem BX12_symbol_238 (v1 : Int32) (v2 : Int32) (v3 : Int32) (v4 : Int32) (v6 : Int32) (v7 : Int32) (v8 : Int32) (v9 : Int32) (v100 : Int32) (m : hM) : G mX12_symbol 3 238 [(0, .inr (.inr (40, 0))), (1, .inl v1), (2, .inl v2), (3, .inl v3), (4, .inl v4), (6, .inl v6), (7, .inl v7), (8, .inl v8), (9, .inl v9)] [.inl v100, .inr (.inr (40, 0))] m (JX12_symbol_238 v1 v2 v3 v4 v6 v7 v8 v9 v100 m) := by
  unfold JX12_symbol_238
  refine g_calV (ck_V (As := [.inl v100]) (S := []) (t := 40) (o := 0) (kdX12_symbol 133 rfl) iX12_hush lX12_275 rc_40 rfl rfl rfl (by decide) (by simp only [List.map, vcat, List.sum_cons, List.sum_nil]; decide)) (CX12_hush v100 m) (fun m26 => ?_)
  refine g_aload_n 0 (kdX12_symbol 134 rfl) rfl ?_
  refine g_get (v := .inr (.inr (50, 0))) (kdX12_symbol 135 rfl) fX12_37 rfl ?_
  refine g_bipush (v := 16) (kdX12_symbol 136 rfl) (by decide) ?_
  refine g_iald (kdX12_symbol 137 rfl) (fun x27 => ?_)
  refine g_if_ne (tgt := 269) (kdX12_symbol 138 rfl) (by decide) (fun _ => ?_) (fun _ => ?_)
  · exact g_fgt [0, 1, 2, 3, 4, 5, 6, 7, 8] rfl (BX12_symbol_269 v1 v2 v3 v4 v6 v7 v8 v9 m26)
  · refine g_aload_n 0 (kdX12_symbol 139 rfl) rfl ?_
    refine g_get (v := .inr (.inr (50, 0))) (kdX12_symbol 140 rfl) fX12_37 rfl ?_
    refine g_bipush (v := 17) (kdX12_symbol 141 rfl) (by decide) ?_
    refine g_iald (kdX12_symbol 142 rfl) (fun x36 => ?_)
    refine g_if_ne (tgt := 269) (kdX12_symbol 143 rfl) (by decide) (fun _ => ?_) (fun _ => ?_)
    · exact g_fgt [0, 1, 2, 3, 4, 5, 6, 7, 8] rfl (BX12_symbol_269 v1 v2 v3 v4 v6 v7 v8 v9 m26)
    · refine g_iload_n 3 (kdX12_symbol 144 rfl) rfl ?_
      refine g_if_ne (tgt := 269) (kdX12_symbol 145 rfl) (by decide) (fun _ => ?_) (fun _ => ?_)
      · exact g_fgt [0, 1, 2, 3, 4, 5, 6, 7, 8] rfl (BX12_symbol_269 v1 v2 v3 v4 v6 v7 v8 v9 m26)
      · refine g_iconst (v := 1) (kdX12_symbol 146 rfl) (by decide) ?_
        refine g_goto (tgt := 270) (kdX12_symbol 147 rfl) (by decide) ?_
        exact g_fgt [0, 1, 2, 3, 4, 5, 6, 7, 8] rfl (BX12_symbol_270 v1 v2 v3 v4 v6 v7 v8 v9 1 m26)
def JX12_symbol_233 (v1 : Int32) (v2 : Int32) (v3 : Int32) (v4 : Int32) (v6 : Int32) (v7 : Int32) (v8 : Int32) (v9 : Int32) (m : hM) : hR :=
  JX12_symbol_238 v1 v2 v3 v4 v6 v7 v8 v9 1 m
set_option maxRecDepth 20000 in
theorem BX12_symbol_233 (v1 : Int32) (v2 : Int32) (v3 : Int32) (v4 : Int32) (v6 : Int32) (v7 : Int32) (v8 : Int32) (v9 : Int32) (m : hM) : G mX12_symbol 3 233 [(0, .inr (.inr (40, 0))), (1, .inl v1), (2, .inl v2), (3, .inl v3), (4, .inl v4), (6, .inl v6), (7, .inl v7), (8, .inl v8), (9, .inl v9)] [.inr (.inr (40, 0))] m (JX12_symbol_233 v1 v2 v3 v4 v6 v7 v8 v9 m) := by
  unfold JX12_symbol_233
  refine g_iconst (v := 1) (kdX12_symbol 130 rfl) (by decide) ?_
  refine g_goto (tgt := 238) (kdX12_symbol 131 rfl) (by decide) ?_
  exact g_fgt [0, 1, 2, 3, 4, 5, 6, 7, 8] rfl (BX12_symbol_238 v1 v2 v3 v4 v6 v7 v8 v9 1 m)
def JX12_symbol_186 (v1 : Int32) (v2 : Int32) (v3 : Int32) (v4 : Int32) (v6 : Int32) (v7 : Int32) (v100 : Int32) (m : hM) : hR :=
  ald m 50 0 44 fun x22 =>
  ald m 50 0 12 fun x23 =>
  calI (JX12_sign (x22 - ((64 * x23) * v7)) m) fun x25 m24 =>
  if v3 = 0 then (calI (JX12_size v2 m24) fun x38 m37 =>
  ald m37 45 0 6 fun x39 =>
  if x39 ≤ x38 then (JX12_symbol_238 v1 v2 v3 v4 v6 v7 v100 x25 0 m37) else (JX12_symbol_233 v1 v2 v3 v4 v6 v7 v100 x25 m37)) else (JX12_symbol_233 v1 v2 v3 v4 v6 v7 v100 x25 m24)
set_option maxRecDepth 20000 in
theorem BX12_symbol_186 (v1 : Int32) (v2 : Int32) (v3 : Int32) (v4 : Int32) (v6 : Int32) (v7 : Int32) (v100 : Int32) (m : hM) : G mX12_symbol 3 186 [(0, .inr (.inr (40, 0))), (1, .inl v1), (2, .inl v2), (3, .inl v3), (4, .inl v4), (6, .inl v6), (7, .inl v7)] [.inl v100] m (JX12_symbol_186 v1 v2 v3 v4 v6 v7 v100 m) := by
  unfold JX12_symbol_186
  refine g_istore (L2 := [(8, .inl v100), (0, .inr (.inr (40, 0))), (1, .inl v1), (2, .inl v2), (3, .inl v3), (4, .inl v4), (6, .inl v6), (7, .inl v7)]) (kdX12_symbol 104 rfl) rfl (by decide) ?_
  refine g_aload_n 1 (kdX12_symbol 105 rfl) rfl ?_
  refine g_get (v := .inr (.inr (50, 0))) (kdX12_symbol 106 rfl) fX12_37 rfl ?_
  refine g_bipush (v := 44) (kdX12_symbol 107 rfl) (by decide) ?_
  refine g_iald (kdX12_symbol 108 rfl) (fun x22 => ?_)
  refine g_bipush (v := 64) (kdX12_symbol 109 rfl) (by decide) ?_
  refine g_aload_n 1 (kdX12_symbol 110 rfl) rfl ?_
  refine g_get (v := .inr (.inr (50, 0))) (kdX12_symbol 111 rfl) fX12_37 rfl ?_
  refine g_bipush (v := 12) (kdX12_symbol 112 rfl) (by decide) ?_
  refine g_iald (kdX12_symbol 113 rfl) (fun x23 => ?_)
  refine g_imul (kdX12_symbol 114 rfl) ?_
  refine g_iload 7 (kdX12_symbol 115 rfl) rfl ?_
  refine g_imul (kdX12_symbol 116 rfl) ?_
  refine g_isub (kdX12_symbol 117 rfl) ?_
  refine g_calI (ck_S (As := [.inl (x22 - ((64 * x23) * v7))]) (S := []) (kdX12_symbol 118 rfl) iX12_sign lX12_242 rfl rfl rfl (by decide) (by simp only [List.map, vcat, List.sum_cons, List.sum_nil]; decide)) (CX12_sign (x22 - ((64 * x23) * v7)) m) (fun x25 m24 => ?_)
  refine g_istore (L2 := [(9, .inl x25), (8, .inl v100), (0, .inr (.inr (40, 0))), (1, .inl v1), (2, .inl v2), (3, .inl v3), (4, .inl v4), (6, .inl v6), (7, .inl v7)]) (kdX12_symbol 119 rfl) rfl (by decide) ?_
  refine g_aload_n 2 (kdX12_symbol 120 rfl) rfl ?_
  refine g_iload_n 5 (kdX12_symbol 121 rfl) rfl ?_
  refine g_if_ne (tgt := 233) (kdX12_symbol 122 rfl) (by decide) (fun _ => ?_) (fun _ => ?_)
  · exact g_fgt [2, 3, 4, 5, 6, 7, 8, 1, 0] rfl (BX12_symbol_233 v1 v2 v3 v4 v6 v7 v100 x25 m24)
  · refine g_iload_n 4 (kdX12_symbol 123 rfl) rfl ?_
    refine g_calI (ck_S (As := [.inl v2]) (S := [.inr (.inr (40, 0))]) (kdX12_symbol 124 rfl) iX12_size lX12_239 rfl rfl rfl (by decide) (by simp only [List.map, vcat, List.sum_cons, List.sum_nil]; decide)) (CX12_size v2 m24) (fun x38 m37 => ?_)
    refine g_aload_n 2 (kdX12_symbol 125 rfl) rfl ?_
    refine g_get (v := .inr (.inr (45, 0))) (kdX12_symbol 126 rfl) fX12_22 rfl ?_
    refine g_bipush (v := 6) (kdX12_symbol 127 rfl) (by decide) ?_
    refine g_iald (kdX12_symbol 128 rfl) (fun x39 => ?_)
    refine g_icmp_ge (tgt := 237) (kdX12_symbol 129 rfl) (by decide) (fun _ => ?_) (fun _ => ?_)
    · refine g_iconst (v := 0) (kdX12_symbol 132 rfl) (by decide) ?_
      exact g_fgt [2, 3, 4, 5, 6, 7, 8, 1, 0] rfl (BX12_symbol_238 v1 v2 v3 v4 v6 v7 v100 x25 0 m37)
    · exact g_fgt [2, 3, 4, 5, 6, 7, 8, 1, 0] rfl (BX12_symbol_233 v1 v2 v3 v4 v6 v7 v100 x25 m37)
def JX12_symbol_185 (v1 : Int32) (v2 : Int32) (v3 : Int32) (v4 : Int32) (v6 : Int32) (v7 : Int32) (m : hM) : hR :=
  JX12_symbol_186 v1 v2 v3 v4 v6 v7 0 m
set_option maxRecDepth 20000 in
theorem BX12_symbol_185 (v1 : Int32) (v2 : Int32) (v3 : Int32) (v4 : Int32) (v6 : Int32) (v7 : Int32) (m : hM) : G mX12_symbol 3 185 [(0, .inr (.inr (40, 0))), (1, .inl v1), (2, .inl v2), (3, .inl v3), (4, .inl v4), (6, .inl v6), (7, .inl v7)] [] m (JX12_symbol_185 v1 v2 v3 v4 v6 v7 m) := by
  unfold JX12_symbol_185
  refine g_iconst (v := 0) (kdX12_symbol 103 rfl) (by decide) ?_
  exact g_fgt [0, 1, 2, 3, 4, 5, 6] rfl (BX12_symbol_186 v1 v2 v3 v4 v6 v7 0 m)
def JX12_symbol_147 (v1 : Int32) (v2 : Int32) (v3 : Int32) (v4 : Int32) (v5 : Int32) (v6 : Int32) (v100 : Int32) (m : hM) : hR :=
  ald m 50 0 19 fun x18 =>
  calI (JJ9_max_7cf53 0 (x18 - 1) m) fun x20 m19 =>
  ast m19 50 0 19 x20 fun m21 =>
  if v5 = 0 then (JX12_symbol_185 v1 v2 v3 v4 v6 v100 m21) else (if v4 = v5 then (JX12_symbol_185 v1 v2 v3 v4 v6 v100 m21) else (JX12_symbol_186 v1 v2 v3 v4 v6 v100 1 m21))
set_option maxRecDepth 20000 in
theorem BX12_symbol_147 (v1 : Int32) (v2 : Int32) (v3 : Int32) (v4 : Int32) (v5 : Int32) (v6 : Int32) (v100 : Int32) (m : hM) : G mX12_symbol 3 147 [(0, .inr (.inr (40, 0))), (1, .inl v1), (2, .inl v2), (3, .inl v3), (4, .inl v4), (5, .inl v5), (6, .inl v6)] [.inl v100] m (JX12_symbol_147 v1 v2 v3 v4 v5 v6 v100 m) := by
  unfold JX12_symbol_147
  refine g_istore (L2 := [(7, .inl v100), (0, .inr (.inr (40, 0))), (1, .inl v1), (2, .inl v2), (3, .inl v3), (4, .inl v4), (5, .inl v5), (6, .inl v6)]) (kdX12_symbol 83 rfl) rfl (by decide) ?_
  refine g_aload_n 1 (kdX12_symbol 84 rfl) rfl ?_
  refine g_get (v := .inr (.inr (50, 0))) (kdX12_symbol 85 rfl) fX12_37 rfl ?_
  refine g_bipush (v := 19) (kdX12_symbol 86 rfl) (by decide) ?_
  refine g_iconst (v := 0) (kdX12_symbol 87 rfl) (by decide) ?_
  refine g_aload_n 1 (kdX12_symbol 88 rfl) rfl ?_
  refine g_get (v := .inr (.inr (50, 0))) (kdX12_symbol 89 rfl) fX12_37 rfl ?_
  refine g_bipush (v := 19) (kdX12_symbol 90 rfl) (by decide) ?_
  refine g_iald (kdX12_symbol 91 rfl) (fun x18 => ?_)
  refine g_iconst (v := 1) (kdX12_symbol 92 rfl) (by decide) ?_
  refine g_isub (kdX12_symbol 93 rfl) ?_
  refine g_calI (ck_S (As := [.inl 0, .inl (x18 - 1)]) (S := [.inl 19, .inr (.inr (50, 0))]) (kdX12_symbol 94 rfl) iJ9_max_7cf53 lX12_253 rfl rfl rfl (by decide) (by simp only [List.map, vcat, List.sum_cons, List.sum_nil]; decide)) (CJ9_max_7cf53 0 (x18 - 1) m) (fun x20 m19 => ?_)
  refine g_iast (kdX12_symbol 95 rfl) (fun m21 => ?_)
  refine g_iload 6 (kdX12_symbol 96 rfl) rfl ?_
  refine g_if_eq (tgt := 185) (kdX12_symbol 97 rfl) (by decide) (fun _ => ?_) (fun _ => ?_)
  · exact g_fgt [1, 2, 3, 4, 5, 7, 0] rfl (BX12_symbol_185 v1 v2 v3 v4 v6 v100 m21)
  · refine g_iload 5 (kdX12_symbol 98 rfl) rfl ?_
    refine g_iload 6 (kdX12_symbol 99 rfl) rfl ?_
    refine g_icmp_eq (tgt := 185) (kdX12_symbol 100 rfl) (by decide) (fun _ => ?_) (fun _ => ?_)
    · exact g_fgt [1, 2, 3, 4, 5, 7, 0] rfl (BX12_symbol_185 v1 v2 v3 v4 v6 v100 m21)
    · refine g_iconst (v := 1) (kdX12_symbol 101 rfl) (by decide) ?_
      refine g_goto (tgt := 186) (kdX12_symbol 102 rfl) (by decide) ?_
      exact g_fgt [1, 2, 3, 4, 5, 7, 0] rfl (BX12_symbol_186 v1 v2 v3 v4 v6 v100 1 m21)
def JX12_symbol_133 (v1 : Int32) (v2 : Int32) (v3 : Int32) (v4 : Int32) (v5 : Int32) (v100 : Int32) (m : hM) : hR :=
  if v100 = 0 then (JX12_symbol_147 v1 v2 v3 v4 v5 v100 v4 m) else (JX12_symbol_147 v1 v2 v3 v4 v5 v100 v5 m)
set_option maxRecDepth 20000 in
theorem BX12_symbol_133 (v1 : Int32) (v2 : Int32) (v3 : Int32) (v4 : Int32) (v5 : Int32) (v100 : Int32) (m : hM) : G mX12_symbol 3 133 [(0, .inr (.inr (40, 0))), (1, .inl v1), (2, .inl v2), (3, .inl v3), (4, .inl v4), (5, .inl v5)] [.inl v100] m (JX12_symbol_133 v1 v2 v3 v4 v5 v100 m) := by
  unfold JX12_symbol_133
  refine g_istore (L2 := [(6, .inl v100), (0, .inr (.inr (40, 0))), (1, .inl v1), (2, .inl v2), (3, .inl v3), (4, .inl v4), (5, .inl v5)]) (kdX12_symbol 77 rfl) rfl (by decide) ?_
  refine g_iload 0 (kdX12_symbol 78 rfl) rfl ?_
  refine g_if_eq (tgt := 145) (kdX12_symbol 79 rfl) (by decide) (fun _ => ?_) (fun _ => ?_)
  · refine g_iload 5 (kdX12_symbol 82 rfl) rfl ?_
    exact g_fgt [1, 2, 3, 4, 5, 6, 0] rfl (BX12_symbol_147 v1 v2 v3 v4 v5 v100 v4 m)
  · refine g_iload 6 (kdX12_symbol 80 rfl) rfl ?_
    refine g_goto (tgt := 147) (kdX12_symbol 81 rfl) (by decide) ?_
    exact g_fgt [1, 2, 3, 4, 5, 6, 0] rfl (BX12_symbol_147 v1 v2 v3 v4 v5 v100 v5 m)
def JX12_symbol_132 (v1 : Int32) (v2 : Int32) (v3 : Int32) (v4 : Int32) (v5 : Int32) (m : hM) : hR :=
  JX12_symbol_133 v1 v2 v3 v4 v5 0 m
set_option maxRecDepth 20000 in
theorem BX12_symbol_132 (v1 : Int32) (v2 : Int32) (v3 : Int32) (v4 : Int32) (v5 : Int32) (m : hM) : G mX12_symbol 3 132 [(0, .inr (.inr (40, 0))), (1, .inl v1), (2, .inl v2), (3, .inl v3), (4, .inl v4), (5, .inl v5)] [] m (JX12_symbol_132 v1 v2 v3 v4 v5 m) := by
  unfold JX12_symbol_132
  refine g_iconst (v := 0) (kdX12_symbol 76 rfl) (by decide) ?_
  exact g_fgt [0, 1, 2, 3, 4, 5] rfl (BX12_symbol_133 v1 v2 v3 v4 v5 0 m)
def JX12_symbol_95 (v1 : Int32) (v2 : Int32) (v3 : Int32) (v100 : Int32) (m : hM) : hR :=
  ald m 45 0 3 fun x15 =>
  ald m 50 0 (31 + x15) fun x16 =>
  ald m 50 0 19 fun x17 =>
  if x17 ≤ 0 then (JX12_symbol_132 v1 v2 v3 v100 x16 m) else (if x16 = 0 then (JX12_symbol_132 v1 v2 v3 v100 x16 m) else (JX12_symbol_133 v1 v2 v3 v100 x16 1 m))
set_option maxRecDepth 20000 in
theorem BX12_symbol_95 (v1 : Int32) (v2 : Int32) (v3 : Int32) (v100 : Int32) (m : hM) : G mX12_symbol 3 95 [(0, .inr (.inr (40, 0))), (1, .inl v1), (2, .inl v2), (3, .inl v3)] [.inl v100] m (JX12_symbol_95 v1 v2 v3 v100 m) := by
  unfold JX12_symbol_95
  refine g_istore (L2 := [(4, .inl v100), (0, .inr (.inr (40, 0))), (1, .inl v1), (2, .inl v2), (3, .inl v3)]) (kdX12_symbol 56 rfl) rfl (by decide) ?_
  refine g_aload_n 1 (kdX12_symbol 57 rfl) rfl ?_
  refine g_get (v := .inr (.inr (50, 0))) (kdX12_symbol 58 rfl) fX12_37 rfl ?_
  refine g_bipush (v := 31) (kdX12_symbol 59 rfl) (by decide) ?_
  refine g_aload_n 1 (kdX12_symbol 60 rfl) rfl ?_
  refine g_get (v := .inr (.inr (45, 0))) (kdX12_symbol 61 rfl) fX12_22 rfl ?_
  refine g_iconst (v := 3) (kdX12_symbol 62 rfl) (by decide) ?_
  refine g_iald (kdX12_symbol 63 rfl) (fun x15 => ?_)
  refine g_iadd (kdX12_symbol 64 rfl) ?_
  refine g_iald (kdX12_symbol 65 rfl) (fun x16 => ?_)
  refine g_istore (L2 := [(5, .inl x16), (4, .inl v100), (0, .inr (.inr (40, 0))), (1, .inl v1), (2, .inl v2), (3, .inl v3)]) (kdX12_symbol 66 rfl) rfl (by decide) ?_
  refine g_aload_n 2 (kdX12_symbol 67 rfl) rfl ?_
  refine g_get (v := .inr (.inr (50, 0))) (kdX12_symbol 68 rfl) fX12_37 rfl ?_
  refine g_bipush (v := 19) (kdX12_symbol 69 rfl) (by decide) ?_
  refine g_iald (kdX12_symbol 70 rfl) (fun x17 => ?_)
  refine g_if_le (tgt := 132) (kdX12_symbol 71 rfl) (by decide) (fun _ => ?_) (fun _ => ?_)
  · exact g_fgt [2, 3, 4, 5, 1, 0] rfl (BX12_symbol_132 v1 v2 v3 v100 x16 m)
  · refine g_iload 0 (kdX12_symbol 72 rfl) rfl ?_
    refine g_if_eq (tgt := 132) (kdX12_symbol 73 rfl) (by decide) (fun _ => ?_) (fun _ => ?_)
    · exact g_fgt [2, 3, 4, 5, 1, 0] rfl (BX12_symbol_132 v1 v2 v3 v100 x16 m)
    · refine g_iconst (v := 1) (kdX12_symbol 74 rfl) (by decide) ?_
      refine g_goto (tgt := 133) (kdX12_symbol 75 rfl) (by decide) ?_
      exact g_fgt [2, 3, 4, 5, 1, 0] rfl (BX12_symbol_133 v1 v2 v3 v100 x16 1 m)
def JX12_symbol_73 (v1 : Int32) (v2 : Int32) (v3 : Int32) (v100 : Int32) (v101 : Int32) (v102 : Int32) (m : hM) : hR :=
  calV (JX12_shift v102 v101 v100 m) fun m12 =>
  calV (JX12_weighNow m12) fun m13 =>
  ald m13 50 0 44 fun x14 =>
  if x14 < 0 then (JX12_symbol_95 v1 v2 v3 (-1) m13) else (JX12_symbol_95 v1 v2 v3 1 m13)
set_option maxRecDepth 20000 in
theorem BX12_symbol_73 (v1 : Int32) (v2 : Int32) (v3 : Int32) (v100 : Int32) (v101 : Int32) (v102 : Int32) (m : hM) : G mX12_symbol 3 73 [(0, .inr (.inr (40, 0))), (1, .inl v1), (2, .inl v2), (3, .inl v3)] [.inl v100, .inl v101, .inl v102, .inr (.inr (40, 0))] m (JX12_symbol_73 v1 v2 v3 v100 v101 v102 m) := by
  unfold JX12_symbol_73
  refine g_calV (ck_V (As := [.inl v102, .inl v101, .inl v100]) (S := []) (t := 40) (o := 0) (kdX12_symbol 45 rfl) iX12_shift lX12_262 rc_40 rfl rfl rfl (by decide) (by simp only [List.map, vcat, List.sum_cons, List.sum_nil]; decide)) (CX12_shift v102 v101 v100 m) (fun m12 => ?_)
  refine g_aload_n 0 (kdX12_symbol 46 rfl) rfl ?_
  refine g_calV (ck_V (As := []) (S := []) (t := 40) (o := 0) (kdX12_symbol 47 rfl) iX12_weighNow lX12_272 rc_40 rfl rfl rfl (by decide) (by simp only [List.map, vcat, List.sum_cons, List.sum_nil]; decide)) (CX12_weighNow m12) (fun m13 => ?_)
  refine g_aload_n 0 (kdX12_symbol 48 rfl) rfl ?_
  refine g_get (v := .inr (.inr (50, 0))) (kdX12_symbol 49 rfl) fX12_37 rfl ?_
  refine g_bipush (v := 44) (kdX12_symbol 50 rfl) (by decide) ?_
  refine g_iald (kdX12_symbol 51 rfl) (fun x14 => ?_)
  refine g_if_lt (tgt := 94) (kdX12_symbol 52 rfl) (by decide) (fun _ => ?_) (fun _ => ?_)
  · refine g_iconst (v := (-1)) (kdX12_symbol 55 rfl) (by decide) ?_
    exact g_fgt [0, 1, 2, 3] rfl (BX12_symbol_95 v1 v2 v3 (-1) m13)
  · refine g_iconst (v := 1) (kdX12_symbol 53 rfl) (by decide) ?_
    refine g_goto (tgt := 95) (kdX12_symbol 54 rfl) (by decide) ?_
    exact g_fgt [0, 1, 2, 3] rfl (BX12_symbol_95 v1 v2 v3 1 m13)
def JX12_symbol_51 (v1 : Int32) (v2 : Int32) (v100 : Int32) (m : hM) : hR :=
  ast m 50 0 22 0 fun m11 =>
  if v100 = 0 then (JX12_symbol_73 v1 v2 v100 v2 3 40 m11) else (JX12_symbol_73 v1 v2 v100 0 3 40 m11)
set_option maxRecDepth 20000 in
theorem BX12_symbol_51 (v1 : Int32) (v2 : Int32) (v100 : Int32) (m : hM) : G mX12_symbol 3 51 [(0, .inr (.inr (40, 0))), (1, .inl v1), (2, .inl v2)] [.inl v100] m (JX12_symbol_51 v1 v2 v100 m) := by
  unfold JX12_symbol_51
  refine g_istore_n (L2 := [(3, .inl v100), (0, .inr (.inr (40, 0))), (1, .inl v1), (2, .inl v2)]) (kdX12_symbol 31 rfl) rfl (by decide) ?_
  refine g_aload_n 1 (kdX12_symbol 32 rfl) rfl ?_
  refine g_get (v := .inr (.inr (50, 0))) (kdX12_symbol 33 rfl) fX12_37 rfl ?_
  refine g_bipush (v := 22) (kdX12_symbol 34 rfl) (by decide) ?_
  refine g_iconst (v := 0) (kdX12_symbol 35 rfl) (by decide) ?_
  refine g_iast (kdX12_symbol 36 rfl) (fun m11 => ?_)
  refine g_aload_n 1 (kdX12_symbol 37 rfl) rfl ?_
  refine g_bipush (v := 40) (kdX12_symbol 38 rfl) (by decide) ?_
  refine g_iconst (v := 3) (kdX12_symbol 39 rfl) (by decide) ?_
  refine g_iload_n 0 (kdX12_symbol 40 rfl) rfl ?_
  refine g_if_eq (tgt := 72) (kdX12_symbol 41 rfl) (by decide) (fun _ => ?_) (fun _ => ?_)
  · refine g_iload_n 3 (kdX12_symbol 44 rfl) rfl ?_
    exact g_fgt [1, 2, 3, 0] rfl (BX12_symbol_73 v1 v2 v100 v2 3 40 m11)
  · refine g_iconst (v := 0) (kdX12_symbol 42 rfl) (by decide) ?_
    refine g_goto (tgt := 73) (kdX12_symbol 43 rfl) (by decide) ?_
    exact g_fgt [1, 2, 3, 0] rfl (BX12_symbol_73 v1 v2 v100 0 3 40 m11)
def JX12_symbol  (m : hM) : hR :=
  calI (JX12_nextBit m) fun x2 m1 =>
  calV (JX12_shift 31 6 ((2 * x2) - 1) m1) fun m3 =>
  ald m3 50 0 14 fun x4 =>
  calI (JX12_clean x4 m3) fun x6 m5 =>
  calI (JX12_noise m5) fun x8 m7 =>
  lt (x6 + x8) fun x9 =>
  ald m7 50 0 22 fun x10 =>
  if x10 = 1 then (JX12_symbol_51 x2 x9 1 m7) else (JX12_symbol_51 x2 x9 0 m7)
set_option maxRecDepth 20000 in
theorem CX12_symbol  (m : hM) : Cn mX12_symbol 3 [.inr (.inr (40, 0))] m (JX12_symbol  m) := by
  refine cn_of (by decide +kernel) (by simp only [List.map, vcat, List.sum_cons, List.sum_nil]; decide) ?_
  unfold JX12_symbol
  show G mX12_symbol 3 0 [(0, .inr (.inr (40, 0)))] [] m _
  refine g_aload_n 0 (kdX12_symbol 0 rfl) rfl ?_
  refine g_calI (ck_V (As := []) (S := []) (t := 40) (o := 0) (kdX12_symbol 1 rfl) iX12_nextBit lX12_259 rc_40 rfl rfl rfl (by decide) (by simp only [List.map, vcat, List.sum_cons, List.sum_nil]; decide)) (CX12_nextBit m) (fun x2 m1 => ?_)
  refine g_istore_n (L2 := [(1, .inl x2), (0, .inr (.inr (40, 0)))]) (kdX12_symbol 2 rfl) rfl (by decide) ?_
  refine g_aload_n 1 (kdX12_symbol 3 rfl) rfl ?_
  refine g_bipush (v := 31) (kdX12_symbol 4 rfl) (by decide) ?_
  refine g_bipush (v := 6) (kdX12_symbol 5 rfl) (by decide) ?_
  refine g_iconst (v := 2) (kdX12_symbol 6 rfl) (by decide) ?_
  refine g_iload_n 0 (kdX12_symbol 7 rfl) rfl ?_
  refine g_imul (kdX12_symbol 8 rfl) ?_
  refine g_iconst (v := 1) (kdX12_symbol 9 rfl) (by decide) ?_
  refine g_isub (kdX12_symbol 10 rfl) ?_
  refine g_calV (ck_V (As := [.inl 31, .inl 6, .inl ((2 * x2) - 1)]) (S := []) (t := 40) (o := 0) (kdX12_symbol 11 rfl) iX12_shift lX12_262 rc_40 rfl rfl rfl (by decide) (by simp only [List.map, vcat, List.sum_cons, List.sum_nil]; decide)) (CX12_shift 31 6 ((2 * x2) - 1) m1) (fun m3 => ?_)
  refine g_aload_n 1 (kdX12_symbol 12 rfl) rfl ?_
  refine g_aload_n 1 (kdX12_symbol 13 rfl) rfl ?_
  refine g_get (v := .inr (.inr (50, 0))) (kdX12_symbol 14 rfl) fX12_37 rfl ?_
  refine g_bipush (v := 14) (kdX12_symbol 15 rfl) (by decide) ?_
  refine g_iald (kdX12_symbol 16 rfl) (fun x4 => ?_)
  refine g_calI (ck_V (As := [.inl x4]) (S := []) (t := 40) (o := 0) (kdX12_symbol 17 rfl) iX12_clean lX12_266 rc_40 rfl rfl rfl (by decide) (by simp only [List.map, vcat, List.sum_cons, List.sum_nil]; decide)) (CX12_clean x4 m3) (fun x6 m5 => ?_)
  refine g_aload_n 1 (kdX12_symbol 18 rfl) rfl ?_
  refine g_calI (ck_V (As := []) (S := [.inl x6]) (t := 40) (o := 0) (kdX12_symbol 19 rfl) iX12_noise lX12_269 rc_40 rfl rfl rfl (by decide) (by simp only [List.map, vcat, List.sum_cons, List.sum_nil]; decide)) (CX12_noise m5) (fun x8 m7 => ?_)
  refine g_iadd (kdX12_symbol 20 rfl) ?_
  refine g_lt (fun x9 => ?_)
  refine g_istore_n (L2 := [(2, .inl x9), (1, .inl x2), (0, .inr (.inr (40, 0)))]) (kdX12_symbol 21 rfl) rfl (by decide) ?_
  refine g_aload_n 2 (kdX12_symbol 22 rfl) rfl ?_
  refine g_get (v := .inr (.inr (50, 0))) (kdX12_symbol 23 rfl) fX12_37 rfl ?_
  refine g_bipush (v := 22) (kdX12_symbol 24 rfl) (by decide) ?_
  refine g_iald (kdX12_symbol 25 rfl) (fun x10 => ?_)
  refine g_iconst (v := 1) (kdX12_symbol 26 rfl) (by decide) ?_
  refine g_icmp_ne (tgt := 50) (kdX12_symbol 27 rfl) (by decide) (fun _ => ?_) (fun _ => ?_)
  · refine g_iconst (v := 0) (kdX12_symbol 30 rfl) (by decide) ?_
    exact g_fgt [2, 1, 0] rfl (BX12_symbol_51 x2 x9 0 m7)
  · refine g_iconst (v := 1) (kdX12_symbol 28 rfl) (by decide) ?_
    refine g_goto (tgt := 51) (kdX12_symbol 29 rfl) (by decide) ?_
    exact g_fgt [2, 1, 0] rfl (BX12_symbol_51 x2 x9 1 m7)
def JX12_symbols_22 (K4 : Int32 → Int32 → hM → hR) (K30 : Int32 → hM → hR) (v1 : Int32) (v3 : Int32) (v100 : Int32) (v101 : Int32) (m : hM) : hR :=
  lt (v101 + v100) fun x3 =>
  K4 x3 (v3 + 1) m
set_option maxRecDepth 20000 in
theorem BX12_symbols_22 (v1 : Int32) (K4 : Int32 → Int32 → hM → hR) (K30 : Int32 → hM → hR) (h4 : ∀ (v2 : Int32) (v3 : Int32) (m : hM), G mX12_symbols 4 4 [(0, .inr (.inr (40, 0))), (1, .inl v1), (2, .inl v2), (3, .inl v3)] [] m (K4 v2 v3 m)) (h30 : ∀ (v2 : Int32) (m : hM), G mX12_symbols 4 30 [(2, .inl v2)] [] m (K30 v2 m)) (v3 : Int32) (v100 : Int32) (v101 : Int32) (m : hM) : G mX12_symbols 4 22 [(0, .inr (.inr (40, 0))), (1, .inl v1), (3, .inl v3)] [.inl v100, .inl v101] m (JX12_symbols_22 K4 K30 v1 v3 v100 v101 m) := by
  unfold JX12_symbols_22
  refine g_iadd (kdX12_symbols 14 rfl) ?_
  refine g_lt (fun x3 => ?_)
  refine g_istore_n (L2 := [(2, .inl x3), (0, .inr (.inr (40, 0))), (1, .inl v1), (3, .inl v3)]) (kdX12_symbols 15 rfl) rfl (by decide) ?_
  refine g_iinc (v := v3 + 1) (L2 := [(3, .inl (v3 + 1)), (2, .inl x3), (0, .inr (.inr (40, 0))), (1, .inl v1)]) 3 (kdX12_symbols 16 rfl) rfl rfl rfl (by decide) ?_
  refine g_goto (tgt := 4) (kdX12_symbols 17 rfl) (by decide) ?_
  exact g_fgt [2, 3, 1, 0] rfl (h4 x3 (v3 + 1) m)
def bJX12_symbols_4 (K4 : Int32 → Int32 → hM → hR) (K30 : Int32 → hM → hR) (v1 : Int32) (v2 : Int32) (v3 : Int32) (m : hM) : hR :=
  if v1 ≤ v3 then (K30 v2 m) else (calI (JX12_symbol m) fun x2 m1 =>
  if x2 = 0 then (JX12_symbols_22 K4 K30 v1 v3 0 v2 m1) else (JX12_symbols_22 K4 K30 v1 v3 1 v2 m1))
set_option maxRecDepth 20000 in
theorem BbJX12_symbols_4 (K4 : Int32 → Int32 → hM → hR) (K30 : Int32 → hM → hR) (v1 : Int32) (h4 : ∀ (v2 : Int32) (v3 : Int32) (m : hM), G mX12_symbols 4 4 [(0, .inr (.inr (40, 0))), (1, .inl v1), (2, .inl v2), (3, .inl v3)] [] m (K4 v2 v3 m)) (h30 : ∀ (v2 : Int32) (m : hM), G mX12_symbols 4 30 [(2, .inl v2)] [] m (K30 v2 m)) (v2 : Int32) (v3 : Int32) (m : hM) : G mX12_symbols 4 4 [(0, .inr (.inr (40, 0))), (1, .inl v1), (2, .inl v2), (3, .inl v3)] [] m (bJX12_symbols_4 K4 K30 v1 v2 v3 m) := by
  unfold bJX12_symbols_4
  refine g_iload_n 3 (kdX12_symbols 4 rfl) rfl ?_
  refine g_iload_n 1 (kdX12_symbols 5 rfl) rfl ?_
  refine g_icmp_ge (tgt := 30) (kdX12_symbols 6 rfl) (by decide) (fun _ => ?_) (fun _ => ?_)
  · exact g_fgt [2] rfl (h30 v2 m)
  · refine g_iload_n 2 (kdX12_symbols 7 rfl) rfl ?_
    refine g_aload_n 0 (kdX12_symbols 8 rfl) rfl ?_
    refine g_calI (ck_V (As := []) (S := [.inl v2]) (t := 40) (o := 0) (kdX12_symbols 9 rfl) iX12_symbol lX12_287 rc_40 rfl rfl rfl (by decide) (by simp only [List.map, vcat, List.sum_cons, List.sum_nil]; decide)) (CX12_symbol m) (fun x2 m1 => ?_)
    refine g_if_eq (tgt := 21) (kdX12_symbols 10 rfl) (by decide) (fun _ => ?_) (fun _ => ?_)
    · refine g_iconst (v := 0) (kdX12_symbols 13 rfl) (by decide) ?_
      exact g_fgt [0, 1, 3] rfl (BX12_symbols_22 v1 _ _ h4 h30 v3 0 v2 m1)
    · refine g_iconst (v := 1) (kdX12_symbols 11 rfl) (by decide) ?_
      refine g_goto (tgt := 22) (kdX12_symbols 12 rfl) (by decide) ?_
      exact g_fgt [0, 1, 3] rfl (BX12_symbols_22 v1 _ _ h4 h30 v3 1 v2 m1)
def JX12_symbols_4 (K30 : Int32 → hM → hR) (v1 : Int32) : Nat → Int32 → Int32 → hM → hR
  | 0, _, _, _ => none
  | f + 1, v2, v3, m => bJX12_symbols_4 (fun v2 v3 m => JX12_symbols_4 K30 v1 f v2 v3 m) K30 v1 v2 v3 m
theorem BJX12_symbols_4 (K30 : Int32 → hM → hR) (v1 : Int32) (h30 : ∀ (v2 : Int32) (m : hM), G mX12_symbols 4 30 [(2, .inl v2)] [] m (K30 v2 m)) : ∀ (f : Nat) (v2 : Int32) (v3 : Int32) (m : hM), G mX12_symbols 4 4 [(0, .inr (.inr (40, 0))), (1, .inl v1), (2, .inl v2), (3, .inl v3)] [] m (JX12_symbols_4 K30 v1 f v2 v3 m)
  | 0, _, _, _ => g_none
  | f + 1, v2, v3, m => BbJX12_symbols_4  _ K30 v1 (fun v2 v3 m => BJX12_symbols_4  K30 v1 h30 f v2 v3 m) h30 v2 v3 m
def JX12_symbols (a1 : Int32) (m : hM) : hR :=
  JX12_symbols_4 (fun v2 m4 => some (some (.inl v2), m4)) a1 FU 0 0 m
set_option maxRecDepth 20000 in
theorem CX12_symbols (a1 : Int32) (m : hM) : Cn mX12_symbols 4 [.inr (.inr (40, 0)), .inl a1] m (JX12_symbols a1 m) := by
  refine cn_of (by decide +kernel) (by simp only [List.map, vcat, List.sum_cons, List.sum_nil]; decide) ?_
  unfold JX12_symbols
  show G mX12_symbols 4 0 [(0, .inr (.inr (40, 0))), (1, .inl a1)] [] m _
  refine g_iconst (v := 0) (kdX12_symbols 0 rfl) (by decide) ?_
  refine g_istore_n (L2 := [(2, .inl 0), (0, .inr (.inr (40, 0))), (1, .inl a1)]) (kdX12_symbols 1 rfl) rfl (by decide) ?_
  refine g_iconst (v := 0) (kdX12_symbols 2 rfl) (by decide) ?_
  refine g_istore_n (L2 := [(3, .inl 0), (2, .inl 0), (0, .inr (.inr (40, 0))), (1, .inl a1)]) (kdX12_symbols 3 rfl) rfl (by decide) ?_
  refine g_fgt [2, 3, 1, 0] rfl (BJX12_symbols_4  _ a1 ?_ FU 0 0 m)
  · intro v2 m4
    refine g_iload_n 0 (kdX12_symbols 18 rfl) rfl ?_
    exact g_iret rfl (kdX12_symbols 19 rfl)
def JX12_weighRow_78 (K23 : Int32 → Int32 → hM → hR) (K87 : Int32 → hM → hR) (v1 : Int32) (v2 : Int32) (v3 : Int32) (v4 : Int32) (v5 : Int32) (v7 : Int32) (v100 : Int32) (v101 : Int32) (m : hM) : hR :=
  lt (v101 + v100) fun x6 =>
  K23 x6 (v7 + 1) m
set_option maxRecDepth 20000 in
theorem BX12_weighRow_78 (v1 : Int32) (v2 : Int32) (v3 : Int32) (v4 : Int32) (v5 : Int32) (K23 : Int32 → Int32 → hM → hR) (K87 : Int32 → hM → hR) (h23 : ∀ (v6 : Int32) (v7 : Int32) (m : hM), G mX12_weighRow 1 23 [(0, .inr (.inr (40, 0))), (1, .inl v1), (2, .inl v2), (3, .inl v3), (4, .inl v4), (5, .inl v5), (6, .inl v6), (7, .inl v7)] [] m (K23 v6 v7 m)) (h87 : ∀ (v6 : Int32) (m : hM), G mX12_weighRow 1 87 [(0, .inr (.inr (40, 0))), (1, .inl v1), (2, .inl v2), (3, .inl v3), (4, .inl v4), (5, .inl v5), (6, .inl v6)] [] m (K87 v6 m)) (v7 : Int32) (v100 : Int32) (v101 : Int32) (m : hM) : G mX12_weighRow 1 78 [(0, .inr (.inr (40, 0))), (1, .inl v1), (2, .inl v2), (3, .inl v3), (4, .inl v4), (5, .inl v5), (7, .inl v7)] [.inl v100, .inl v101] m (JX12_weighRow_78 K23 K87 v1 v2 v3 v4 v5 v7 v100 v101 m) := by
  unfold JX12_weighRow_78
  refine g_iadd (kdX12_weighRow 49 rfl) ?_
  refine g_lt (fun x6 => ?_)
  refine g_istore (L2 := [(6, .inl x6), (0, .inr (.inr (40, 0))), (1, .inl v1), (2, .inl v2), (3, .inl v3), (4, .inl v4), (5, .inl v5), (7, .inl v7)]) (kdX12_weighRow 50 rfl) rfl (by decide) ?_
  refine g_iinc (v := v7 + 1) (L2 := [(7, .inl (v7 + 1)), (6, .inl x6), (0, .inr (.inr (40, 0))), (1, .inl v1), (2, .inl v2), (3, .inl v3), (4, .inl v4), (5, .inl v5)]) 7 (kdX12_weighRow 51 rfl) rfl rfl rfl (by decide) ?_
  refine g_goto (tgt := 23) (kdX12_weighRow 52 rfl) (by decide) ?_
  exact g_fgt [2, 3, 4, 5, 6, 7, 1, 0] rfl (h23 x6 (v7 + 1) m)
def bJX12_weighRow_23 (K23 : Int32 → Int32 → hM → hR) (K87 : Int32 → hM → hR) (v1 : Int32) (v2 : Int32) (v3 : Int32) (v4 : Int32) (v5 : Int32) (v6 : Int32) (v7 : Int32) (m : hM) : hR :=
  ald m 45 0 0 fun x2 =>
  if x2 ≤ ((4 * v7) + v2) then (K87 v6 m) else (calI (JX12_has v1 (v5 + v7) m) fun x4 m3 =>
  if x4 = 0 then (ald m3 46 0 ((4 * v7) + v2) fun x5 =>
  JX12_weighRow_78 K23 K87 v1 v2 v3 v4 v5 v7 (-x5) v6 m3) else (ald m3 46 0 ((4 * v7) + v2) fun x7 =>
  JX12_weighRow_78 K23 K87 v1 v2 v3 v4 v5 v7 x7 v6 m3))
set_option maxRecDepth 20000 in
theorem BbJX12_weighRow_23 (K23 : Int32 → Int32 → hM → hR) (K87 : Int32 → hM → hR) (v1 : Int32) (v2 : Int32) (v3 : Int32) (v4 : Int32) (v5 : Int32) (h23 : ∀ (v6 : Int32) (v7 : Int32) (m : hM), G mX12_weighRow 1 23 [(0, .inr (.inr (40, 0))), (1, .inl v1), (2, .inl v2), (3, .inl v3), (4, .inl v4), (5, .inl v5), (6, .inl v6), (7, .inl v7)] [] m (K23 v6 v7 m)) (h87 : ∀ (v6 : Int32) (m : hM), G mX12_weighRow 1 87 [(0, .inr (.inr (40, 0))), (1, .inl v1), (2, .inl v2), (3, .inl v3), (4, .inl v4), (5, .inl v5), (6, .inl v6)] [] m (K87 v6 m)) (v6 : Int32) (v7 : Int32) (m : hM) : G mX12_weighRow 1 23 [(0, .inr (.inr (40, 0))), (1, .inl v1), (2, .inl v2), (3, .inl v3), (4, .inl v4), (5, .inl v5), (6, .inl v6), (7, .inl v7)] [] m (bJX12_weighRow_23 K23 K87 v1 v2 v3 v4 v5 v6 v7 m) := by
  unfold bJX12_weighRow_23
  refine g_iconst (v := 4) (kdX12_weighRow 14 rfl) (by decide) ?_
  refine g_iload 7 (kdX12_weighRow 15 rfl) rfl ?_
  refine g_imul (kdX12_weighRow 16 rfl) ?_
  refine g_iload_n 2 (kdX12_weighRow 17 rfl) rfl ?_
  refine g_iadd (kdX12_weighRow 18 rfl) ?_
  refine g_aload_n 0 (kdX12_weighRow 19 rfl) rfl ?_
  refine g_get (v := .inr (.inr (45, 0))) (kdX12_weighRow 20 rfl) fX12_22 rfl ?_
  refine g_iconst (v := 0) (kdX12_weighRow 21 rfl) (by decide) ?_
  refine g_iald (kdX12_weighRow 22 rfl) (fun x2 => ?_)
  refine g_icmp_ge (tgt := 87) (kdX12_weighRow 23 rfl) (by decide) (fun _ => ?_) (fun _ => ?_)
  · exact g_fgt [0, 1, 2, 3, 4, 5, 6] rfl (h87 v6 m)
  · refine g_iload 6 (kdX12_weighRow 24 rfl) rfl ?_
    refine g_iload_n 1 (kdX12_weighRow 25 rfl) rfl ?_
    refine g_iload 5 (kdX12_weighRow 26 rfl) rfl ?_
    refine g_iload 7 (kdX12_weighRow 27 rfl) rfl ?_
    refine g_iadd (kdX12_weighRow 28 rfl) ?_
    refine g_calI (ck_S (As := [.inl v1, .inl (v5 + v7)]) (S := [.inl v6]) (kdX12_weighRow 29 rfl) iX12_has lX12_178 rfl rfl rfl (by decide) (by simp only [List.map, vcat, List.sum_cons, List.sum_nil]; decide)) (CX12_has v1 (v5 + v7) m) (fun x4 m3 => ?_)
    refine g_if_eq (tgt := 66) (kdX12_weighRow 30 rfl) (by decide) (fun _ => ?_) (fun _ => ?_)
    · refine g_aload_n 0 (kdX12_weighRow 40 rfl) rfl ?_
      refine g_get (v := .inr (.inr (46, 0))) (kdX12_weighRow 41 rfl) fX12_25 rfl ?_
      refine g_iconst (v := 4) (kdX12_weighRow 42 rfl) (by decide) ?_
      refine g_iload 7 (kdX12_weighRow 43 rfl) rfl ?_
      refine g_imul (kdX12_weighRow 44 rfl) ?_
      refine g_iload_n 2 (kdX12_weighRow 45 rfl) rfl ?_
      refine g_iadd (kdX12_weighRow 46 rfl) ?_
      refine g_iald (kdX12_weighRow 47 rfl) (fun x5 => ?_)
      refine g_ineg (kdX12_weighRow 48 rfl) ?_
      exact g_fgt [0, 1, 2, 3, 4, 5, 7] rfl (BX12_weighRow_78 v1 v2 v3 v4 v5 _ _ h23 h87 v7 (-x5) v6 m3)
    · refine g_aload_n 0 (kdX12_weighRow 31 rfl) rfl ?_
      refine g_get (v := .inr (.inr (46, 0))) (kdX12_weighRow 32 rfl) fX12_25 rfl ?_
      refine g_iconst (v := 4) (kdX12_weighRow 33 rfl) (by decide) ?_
      refine g_iload 7 (kdX12_weighRow 34 rfl) rfl ?_
      refine g_imul (kdX12_weighRow 35 rfl) ?_
      refine g_iload_n 2 (kdX12_weighRow 36 rfl) rfl ?_
      refine g_iadd (kdX12_weighRow 37 rfl) ?_
      refine g_iald (kdX12_weighRow 38 rfl) (fun x7 => ?_)
      refine g_goto (tgt := 78) (kdX12_weighRow 39 rfl) (by decide) ?_
      exact g_fgt [0, 1, 2, 3, 4, 5, 7] rfl (BX12_weighRow_78 v1 v2 v3 v4 v5 _ _ h23 h87 v7 x7 v6 m3)
def JX12_weighRow_23 (K87 : Int32 → hM → hR) (v1 : Int32) (v2 : Int32) (v3 : Int32) (v4 : Int32) (v5 : Int32) : Nat → Int32 → Int32 → hM → hR
  | 0, _, _, _ => none
  | f + 1, v6, v7, m => bJX12_weighRow_23 (fun v6 v7 m => JX12_weighRow_23 K87 v1 v2 v3 v4 v5 f v6 v7 m) K87 v1 v2 v3 v4 v5 v6 v7 m
theorem BJX12_weighRow_23 (K87 : Int32 → hM → hR) (v1 : Int32) (v2 : Int32) (v3 : Int32) (v4 : Int32) (v5 : Int32) (h87 : ∀ (v6 : Int32) (m : hM), G mX12_weighRow 1 87 [(0, .inr (.inr (40, 0))), (1, .inl v1), (2, .inl v2), (3, .inl v3), (4, .inl v4), (5, .inl v5), (6, .inl v6)] [] m (K87 v6 m)) : ∀ (f : Nat) (v6 : Int32) (v7 : Int32) (m : hM), G mX12_weighRow 1 23 [(0, .inr (.inr (40, 0))), (1, .inl v1), (2, .inl v2), (3, .inl v3), (4, .inl v4), (5, .inl v5), (6, .inl v6), (7, .inl v7)] [] m (JX12_weighRow_23 K87 v1 v2 v3 v4 v5 f v6 v7 m)
  | 0, _, _, _ => g_none
  | f + 1, v6, v7, m => BbJX12_weighRow_23  _ K87 v1 v2 v3 v4 v5 (fun v6 v7 m => BJX12_weighRow_23  K87 v1 v2 v3 v4 v5 h87 f v6 v7 m) h87 v6 v7 m
def bJX12_weighRow_6 (K6 : Int32 → Int32 → hM → hR) (K110 : Int32 → hM → hR) (v1 : Int32) (v2 : Int32) (v3 : Int32) (v4 : Int32) (v5 : Int32) (m : hM) : hR :=
  ald m 45 0 1 fun x1 =>
  if x1 ≤ v5 then (K110 v4 m) else (JX12_weighRow_23 (fun v6 m8 => ald m8 50 0 (0 + v5) fun x9 =>
  lt (v4 + (x9 * v6)) fun x10 =>
  K6 x10 (v5 + 1) m8) v1 v2 v3 v4 v5 FU 0 0 m)
set_option maxRecDepth 20000 in
theorem BbJX12_weighRow_6 (K6 : Int32 → Int32 → hM → hR) (K110 : Int32 → hM → hR) (v1 : Int32) (v2 : Int32) (v3 : Int32) (h6 : ∀ (v4 : Int32) (v5 : Int32) (m : hM), G mX12_weighRow 1 6 [(0, .inr (.inr (40, 0))), (1, .inl v1), (2, .inl v2), (3, .inl v3), (4, .inl v4), (5, .inl v5)] [] m (K6 v4 v5 m)) (h110 : ∀ (v4 : Int32) (m : hM), G mX12_weighRow 1 110 [(0, .inr (.inr (40, 0))), (1, .inl v1), (3, .inl v3), (4, .inl v4)] [] m (K110 v4 m)) (v4 : Int32) (v5 : Int32) (m : hM) : G mX12_weighRow 1 6 [(0, .inr (.inr (40, 0))), (1, .inl v1), (2, .inl v2), (3, .inl v3), (4, .inl v4), (5, .inl v5)] [] m (bJX12_weighRow_6 K6 K110 v1 v2 v3 v4 v5 m) := by
  unfold bJX12_weighRow_6
  refine g_iload 5 (kdX12_weighRow 4 rfl) rfl ?_
  refine g_aload_n 0 (kdX12_weighRow 5 rfl) rfl ?_
  refine g_get (v := .inr (.inr (45, 0))) (kdX12_weighRow 6 rfl) fX12_22 rfl ?_
  refine g_iconst (v := 1) (kdX12_weighRow 7 rfl) (by decide) ?_
  refine g_iald (kdX12_weighRow 8 rfl) (fun x1 => ?_)
  refine g_icmp_ge (tgt := 110) (kdX12_weighRow 9 rfl) (by decide) (fun _ => ?_) (fun _ => ?_)
  · exact g_fgt [0, 1, 3, 4] rfl (h110 v4 m)
  · refine g_iconst (v := 0) (kdX12_weighRow 10 rfl) (by decide) ?_
    refine g_istore (L2 := [(6, .inl 0), (0, .inr (.inr (40, 0))), (1, .inl v1), (2, .inl v2), (3, .inl v3), (4, .inl v4), (5, .inl v5)]) (kdX12_weighRow 11 rfl) rfl (by decide) ?_
    refine g_iconst (v := 0) (kdX12_weighRow 12 rfl) (by decide) ?_
    refine g_istore (L2 := [(7, .inl 0), (6, .inl 0), (0, .inr (.inr (40, 0))), (1, .inl v1), (2, .inl v2), (3, .inl v3), (4, .inl v4), (5, .inl v5)]) (kdX12_weighRow 13 rfl) rfl (by decide) ?_
    refine g_fgt [2, 3, 4, 5, 6, 7, 1, 0] rfl (BJX12_weighRow_23  _ v1 v2 v3 v4 v5 ?_ FU 0 0 m)
    · intro v6 m8
      refine g_iload 4 (kdX12_weighRow 53 rfl) rfl ?_
      refine g_aload_n 0 (kdX12_weighRow 54 rfl) rfl ?_
      refine g_get (v := .inr (.inr (50, 0))) (kdX12_weighRow 55 rfl) fX12_37 rfl ?_
      refine g_iconst (v := 0) (kdX12_weighRow 56 rfl) (by decide) ?_
      refine g_iload 5 (kdX12_weighRow 57 rfl) rfl ?_
      refine g_iadd (kdX12_weighRow 58 rfl) ?_
      refine g_iald (kdX12_weighRow 59 rfl) (fun x9 => ?_)
      refine g_iload 6 (kdX12_weighRow 60 rfl) rfl ?_
      refine g_imul (kdX12_weighRow 61 rfl) ?_
      refine g_iadd (kdX12_weighRow 62 rfl) ?_
      refine g_lt (fun x10 => ?_)
      refine g_istore (L2 := [(4, .inl x10), (0, .inr (.inr (40, 0))), (1, .inl v1), (2, .inl v2), (3, .inl v3), (5, .inl v5), (6, .inl v6)]) (kdX12_weighRow 63 rfl) rfl (by decide) ?_
      refine g_iinc (v := v5 + 1) (L2 := [(5, .inl (v5 + 1)), (4, .inl x10), (0, .inr (.inr (40, 0))), (1, .inl v1), (2, .inl v2), (3, .inl v3), (6, .inl v6)]) 5 (kdX12_weighRow 64 rfl) rfl rfl rfl (by decide) ?_
      refine g_goto (tgt := 6) (kdX12_weighRow 65 rfl) (by decide) ?_
      exact g_fgt [2, 3, 4, 5, 1, 0] rfl (h6 x10 (v5 + 1) m8)
def JX12_weighRow_6 (K110 : Int32 → hM → hR) (v1 : Int32) (v2 : Int32) (v3 : Int32) : Nat → Int32 → Int32 → hM → hR
  | 0, _, _, _ => none
  | f + 1, v4, v5, m => bJX12_weighRow_6 (fun v4 v5 m => JX12_weighRow_6 K110 v1 v2 v3 f v4 v5 m) K110 v1 v2 v3 v4 v5 m
theorem BJX12_weighRow_6 (K110 : Int32 → hM → hR) (v1 : Int32) (v2 : Int32) (v3 : Int32) (h110 : ∀ (v4 : Int32) (m : hM), G mX12_weighRow 1 110 [(0, .inr (.inr (40, 0))), (1, .inl v1), (3, .inl v3), (4, .inl v4)] [] m (K110 v4 m)) : ∀ (f : Nat) (v4 : Int32) (v5 : Int32) (m : hM), G mX12_weighRow 1 6 [(0, .inr (.inr (40, 0))), (1, .inl v1), (2, .inl v2), (3, .inl v3), (4, .inl v4), (5, .inl v5)] [] m (JX12_weighRow_6 K110 v1 v2 v3 f v4 v5 m)
  | 0, _, _, _ => g_none
  | f + 1, v4, v5, m => BbJX12_weighRow_6  _ K110 v1 v2 v3 (fun v4 v5 m => BJX12_weighRow_6  K110 v1 v2 v3 h110 f v4 v5 m) h110 v4 v5 m
def JX12_weighRow_200 (K113 : Int32 → Int32 → hM → hR) (K210 : Int32 → hM → hR) (v1 : Int32) (v3 : Int32) (v5 : Int32) (v100 : Int32) (v101 : Int32) (v102 : Int32) (m : hM) : hR :=
  lt (v102 - (v101 * v100)) fun x20 =>
  K113 x20 (v5 + 1) m
set_option maxRecDepth 20000 in
theorem BX12_weighRow_200 (v1 : Int32) (v3 : Int32) (K113 : Int32 → Int32 → hM → hR) (K210 : Int32 → hM → hR) (h113 : ∀ (v4 : Int32) (v5 : Int32) (m : hM), G mX12_weighRow 1 113 [(0, .inr (.inr (40, 0))), (1, .inl v1), (3, .inl v3), (4, .inl v4), (5, .inl v5)] [] m (K113 v4 v5 m)) (h210 : ∀ (v4 : Int32) (m : hM), G mX12_weighRow 1 210 [(4, .inl v4)] [] m (K210 v4 m)) (v5 : Int32) (v100 : Int32) (v101 : Int32) (v102 : Int32) (m : hM) : G mX12_weighRow 1 200 [(0, .inr (.inr (40, 0))), (1, .inl v1), (3, .inl v3), (5, .inl v5)] [.inl v100, .inl v101, .inl v102] m (JX12_weighRow_200 K113 K210 v1 v3 v5 v100 v101 v102 m) := by
  unfold JX12_weighRow_200
  refine g_imul (kdX12_weighRow 120 rfl) ?_
  refine g_isub (kdX12_weighRow 121 rfl) ?_
  refine g_lt (fun x20 => ?_)
  refine g_istore (L2 := [(4, .inl x20), (0, .inr (.inr (40, 0))), (1, .inl v1), (3, .inl v3), (5, .inl v5)]) (kdX12_weighRow 122 rfl) rfl (by decide) ?_
  refine g_iinc (v := v5 + 1) (L2 := [(5, .inl (v5 + 1)), (4, .inl x20), (0, .inr (.inr (40, 0))), (1, .inl v1), (3, .inl v3)]) 4 (kdX12_weighRow 123 rfl) rfl rfl rfl (by decide) ?_
  refine g_goto (tgt := 113) (kdX12_weighRow 124 rfl) (by decide) ?_
  exact g_fgt [2, 3, 4, 1, 0] rfl (h113 x20 (v5 + 1) m)
def JX12_weighRow_153 (K113 : Int32 → Int32 → hM → hR) (K210 : Int32 → hM → hR) (v1 : Int32) (v3 : Int32) (v4 : Int32) (v5 : Int32) (v100 : Int32) (m : hM) : hR :=
  if v100 = 0 then (ald m 45 0 1 fun x18 =>
  ald m 50 0 ((0 + x18) + v5) fun x19 =>
  JX12_weighRow_200 K113 K210 v1 v3 v5 (-x19) 64 v4 m) else (ald m 45 0 1 fun x21 =>
  ald m 50 0 ((0 + x21) + v5) fun x22 =>
  JX12_weighRow_200 K113 K210 v1 v3 v5 x22 64 v4 m)
set_option maxRecDepth 20000 in
theorem BX12_weighRow_153 (v1 : Int32) (v3 : Int32) (K113 : Int32 → Int32 → hM → hR) (K210 : Int32 → hM → hR) (h113 : ∀ (v4 : Int32) (v5 : Int32) (m : hM), G mX12_weighRow 1 113 [(0, .inr (.inr (40, 0))), (1, .inl v1), (3, .inl v3), (4, .inl v4), (5, .inl v5)] [] m (K113 v4 v5 m)) (h210 : ∀ (v4 : Int32) (m : hM), G mX12_weighRow 1 210 [(4, .inl v4)] [] m (K210 v4 m)) (v4 : Int32) (v5 : Int32) (v100 : Int32) (m : hM) : G mX12_weighRow 1 153 [(0, .inr (.inr (40, 0))), (1, .inl v1), (3, .inl v3), (4, .inl v4), (5, .inl v5)] [.inl v100] m (JX12_weighRow_153 K113 K210 v1 v3 v4 v5 v100 m) := by
  unfold JX12_weighRow_153
  refine g_istore (L2 := [(6, .inl v100), (0, .inr (.inr (40, 0))), (1, .inl v1), (3, .inl v3), (4, .inl v4), (5, .inl v5)]) (kdX12_weighRow 91 rfl) rfl (by decide) ?_
  refine g_iload 4 (kdX12_weighRow 92 rfl) rfl ?_
  refine g_bipush (v := 64) (kdX12_weighRow 93 rfl) (by decide) ?_
  refine g_iload 0 (kdX12_weighRow 94 rfl) rfl ?_
  refine g_if_eq (tgt := 183) (kdX12_weighRow 95 rfl) (by decide) (fun _ => ?_) (fun _ => ?_)
  · refine g_aload_n 1 (kdX12_weighRow 108 rfl) rfl ?_
    refine g_get (v := .inr (.inr (50, 0))) (kdX12_weighRow 109 rfl) fX12_37 rfl ?_
    refine g_iconst (v := 0) (kdX12_weighRow 110 rfl) (by decide) ?_
    refine g_aload_n 1 (kdX12_weighRow 111 rfl) rfl ?_
    refine g_get (v := .inr (.inr (45, 0))) (kdX12_weighRow 112 rfl) fX12_22 rfl ?_
    refine g_iconst (v := 1) (kdX12_weighRow 113 rfl) (by decide) ?_
    refine g_iald (kdX12_weighRow 114 rfl) (fun x18 => ?_)
    refine g_iadd (kdX12_weighRow 115 rfl) ?_
    refine g_iload 5 (kdX12_weighRow 116 rfl) rfl ?_
    refine g_iadd (kdX12_weighRow 117 rfl) ?_
    refine g_iald (kdX12_weighRow 118 rfl) (fun x19 => ?_)
    refine g_ineg (kdX12_weighRow 119 rfl) ?_
    exact g_fgt [1, 2, 3, 5] rfl (BX12_weighRow_200 v1 v3 _ _ h113 h210 v5 (-x19) 64 v4 m)
  · refine g_aload_n 1 (kdX12_weighRow 96 rfl) rfl ?_
    refine g_get (v := .inr (.inr (50, 0))) (kdX12_weighRow 97 rfl) fX12_37 rfl ?_
    refine g_iconst (v := 0) (kdX12_weighRow 98 rfl) (by decide) ?_
    refine g_aload_n 1 (kdX12_weighRow 99 rfl) rfl ?_
    refine g_get (v := .inr (.inr (45, 0))) (kdX12_weighRow 100 rfl) fX12_22 rfl ?_
    refine g_iconst (v := 1) (kdX12_weighRow 101 rfl) (by decide) ?_
    refine g_iald (kdX12_weighRow 102 rfl) (fun x21 => ?_)
    refine g_iadd (kdX12_weighRow 103 rfl) ?_
    refine g_iload 5 (kdX12_weighRow 104 rfl) rfl ?_
    refine g_iadd (kdX12_weighRow 105 rfl) ?_
    refine g_iald (kdX12_weighRow 106 rfl) (fun x22 => ?_)
    refine g_goto (tgt := 200) (kdX12_weighRow 107 rfl) (by decide) ?_
    exact g_fgt [1, 2, 3, 5] rfl (BX12_weighRow_200 v1 v3 _ _ h113 h210 v5 x22 64 v4 m)
def bJX12_weighRow_113 (K113 : Int32 → Int32 → hM → hR) (K210 : Int32 → hM → hR) (v1 : Int32) (v3 : Int32) (v4 : Int32) (v5 : Int32) (m : hM) : hR :=
  ald m 45 0 2 fun x12 =>
  if x12 ≤ v5 then (K210 v4 m) else (ald m 45 0 3 fun x13 =>
  calI (JX12_has v1 ((x13 + 1) + v5) m) fun x15 m14 =>
  calI (JX12_has v3 v5 m14) fun x17 m16 =>
  if x15 = x17 then (JX12_weighRow_153 K113 K210 v1 v3 v4 v5 0 m16) else (JX12_weighRow_153 K113 K210 v1 v3 v4 v5 1 m16))
set_option maxRecDepth 20000 in
theorem BbJX12_weighRow_113 (K113 : Int32 → Int32 → hM → hR) (K210 : Int32 → hM → hR) (v1 : Int32) (v3 : Int32) (h113 : ∀ (v4 : Int32) (v5 : Int32) (m : hM), G mX12_weighRow 1 113 [(0, .inr (.inr (40, 0))), (1, .inl v1), (3, .inl v3), (4, .inl v4), (5, .inl v5)] [] m (K113 v4 v5 m)) (h210 : ∀ (v4 : Int32) (m : hM), G mX12_weighRow 1 210 [(4, .inl v4)] [] m (K210 v4 m)) (v4 : Int32) (v5 : Int32) (m : hM) : G mX12_weighRow 1 113 [(0, .inr (.inr (40, 0))), (1, .inl v1), (3, .inl v3), (4, .inl v4), (5, .inl v5)] [] m (bJX12_weighRow_113 K113 K210 v1 v3 v4 v5 m) := by
  unfold bJX12_weighRow_113
  refine g_iload 4 (kdX12_weighRow 68 rfl) rfl ?_
  refine g_aload_n 0 (kdX12_weighRow 69 rfl) rfl ?_
  refine g_get (v := .inr (.inr (45, 0))) (kdX12_weighRow 70 rfl) fX12_22 rfl ?_
  refine g_iconst (v := 2) (kdX12_weighRow 71 rfl) (by decide) ?_
  refine g_iald (kdX12_weighRow 72 rfl) (fun x12 => ?_)
  refine g_icmp_ge (tgt := 210) (kdX12_weighRow 73 rfl) (by decide) (fun _ => ?_) (fun _ => ?_)
  · exact g_fgt [3] rfl (h210 v4 m)
  · refine g_iload_n 1 (kdX12_weighRow 74 rfl) rfl ?_
    refine g_aload_n 0 (kdX12_weighRow 75 rfl) rfl ?_
    refine g_get (v := .inr (.inr (45, 0))) (kdX12_weighRow 76 rfl) fX12_22 rfl ?_
    refine g_iconst (v := 3) (kdX12_weighRow 77 rfl) (by decide) ?_
    refine g_iald (kdX12_weighRow 78 rfl) (fun x13 => ?_)
    refine g_iconst (v := 1) (kdX12_weighRow 79 rfl) (by decide) ?_
    refine g_iadd (kdX12_weighRow 80 rfl) ?_
    refine g_iload 4 (kdX12_weighRow 81 rfl) rfl ?_
    refine g_iadd (kdX12_weighRow 82 rfl) ?_
    refine g_calI (ck_S (As := [.inl v1, .inl ((x13 + 1) + v5)]) (S := []) (kdX12_weighRow 83 rfl) iX12_has lX12_178 rfl rfl rfl (by decide) (by simp only [List.map, vcat, List.sum_cons, List.sum_nil]; decide)) (CX12_has v1 ((x13 + 1) + v5) m) (fun x15 m14 => ?_)
    refine g_iload_n 2 (kdX12_weighRow 84 rfl) rfl ?_
    refine g_iload 4 (kdX12_weighRow 85 rfl) rfl ?_
    refine g_calI (ck_S (As := [.inl v3, .inl v5]) (S := [.inl x15]) (kdX12_weighRow 86 rfl) iX12_has lX12_178 rfl rfl rfl (by decide) (by simp only [List.map, vcat, List.sum_cons, List.sum_nil]; decide)) (CX12_has v3 v5 m14) (fun x17 m16 => ?_)
    refine g_icmp_eq (tgt := 152) (kdX12_weighRow 87 rfl) (by decide) (fun _ => ?_) (fun _ => ?_)
    · refine g_iconst (v := 0) (kdX12_weighRow 90 rfl) (by decide) ?_
      exact g_fgt [0, 1, 2, 3, 4] rfl (BX12_weighRow_153 v1 v3 _ _ h113 h210 v4 v5 0 m16)
    · refine g_iconst (v := 1) (kdX12_weighRow 88 rfl) (by decide) ?_
      refine g_goto (tgt := 153) (kdX12_weighRow 89 rfl) (by decide) ?_
      exact g_fgt [0, 1, 2, 3, 4] rfl (BX12_weighRow_153 v1 v3 _ _ h113 h210 v4 v5 1 m16)
def JX12_weighRow_113 (K210 : Int32 → hM → hR) (v1 : Int32) (v3 : Int32) : Nat → Int32 → Int32 → hM → hR
  | 0, _, _, _ => none
  | f + 1, v4, v5, m => bJX12_weighRow_113 (fun v4 v5 m => JX12_weighRow_113 K210 v1 v3 f v4 v5 m) K210 v1 v3 v4 v5 m
theorem BJX12_weighRow_113 (K210 : Int32 → hM → hR) (v1 : Int32) (v3 : Int32) (h210 : ∀ (v4 : Int32) (m : hM), G mX12_weighRow 1 210 [(4, .inl v4)] [] m (K210 v4 m)) : ∀ (f : Nat) (v4 : Int32) (v5 : Int32) (m : hM), G mX12_weighRow 1 113 [(0, .inr (.inr (40, 0))), (1, .inl v1), (3, .inl v3), (4, .inl v4), (5, .inl v5)] [] m (JX12_weighRow_113 K210 v1 v3 f v4 v5 m)
  | 0, _, _, _ => g_none
  | f + 1, v4, v5, m => BbJX12_weighRow_113  _ K210 v1 v3 (fun v4 v5 m => BJX12_weighRow_113  K210 v1 v3 h210 f v4 v5 m) h210 v4 v5 m
def JX12_weighRow (a1 : Int32) (a2 : Int32) (a3 : Int32) (m : hM) : hR :=
  JX12_weighRow_6 (fun v4 m11 => JX12_weighRow_113 (fun v4 m23 => some (some (.inl v4), m23)) a1 a3 FU v4 0 m11) a1 a2 a3 FU 0 0 m
set_option maxRecDepth 20000 in
theorem CX12_weighRow (a1 : Int32) (a2 : Int32) (a3 : Int32) (m : hM) : Cn mX12_weighRow 1 [.inr (.inr (40, 0)), .inl a1, .inl a2, .inl a3] m (JX12_weighRow a1 a2 a3 m) := by
  refine cn_of (by decide +kernel) (by simp only [List.map, vcat, List.sum_cons, List.sum_nil]; decide) ?_
  unfold JX12_weighRow
  show G mX12_weighRow 1 0 [(0, .inr (.inr (40, 0))), (1, .inl a1), (2, .inl a2), (3, .inl a3)] [] m _
  refine g_iconst (v := 0) (kdX12_weighRow 0 rfl) (by decide) ?_
  refine g_istore (L2 := [(4, .inl 0), (0, .inr (.inr (40, 0))), (1, .inl a1), (2, .inl a2), (3, .inl a3)]) (kdX12_weighRow 1 rfl) rfl (by decide) ?_
  refine g_iconst (v := 0) (kdX12_weighRow 2 rfl) (by decide) ?_
  refine g_istore (L2 := [(5, .inl 0), (4, .inl 0), (0, .inr (.inr (40, 0))), (1, .inl a1), (2, .inl a2), (3, .inl a3)]) (kdX12_weighRow 3 rfl) rfl (by decide) ?_
  refine g_fgt [2, 3, 4, 5, 1, 0] rfl (BJX12_weighRow_6  _ a1 a2 a3 ?_ FU 0 0 m)
  · intro v4 m11
    refine g_iconst (v := 0) (kdX12_weighRow 66 rfl) (by decide) ?_
    refine g_istore (L2 := [(5, .inl 0), (0, .inr (.inr (40, 0))), (1, .inl a1), (3, .inl a3), (4, .inl v4)]) (kdX12_weighRow 67 rfl) rfl (by decide) ?_
    refine g_fgt [1, 2, 3, 4, 0] rfl (BJX12_weighRow_113  _ a1 a3 ?_ FU v4 0 m11)
    · intro v4 m23
      refine g_iload 0 (kdX12_weighRow 125 rfl) rfl ?_
      exact g_iret rfl (kdX12_weighRow 126 rfl)
def JX12_layOpening_70 (K16 : Int32 → hM → hR) (K76 : hM → hR) (v1 : Int32) (v2 : Int32) (m : hM) : hR :=
  K16 (v2 + 1) m
set_option maxRecDepth 20000 in
theorem BX12_layOpening_70 (v1 : Int32) (K16 : Int32 → hM → hR) (K76 : hM → hR) (h16 : ∀ (v2 : Int32) (m : hM), G mX12_layOpening 2 16 [(0, .inr (.inr (40, 0))), (1, .inl v1), (2, .inl v2)] [] m (K16 v2 m)) (h76 : ∀ (m : hM), G mX12_layOpening 2 76 [] [] m (K76 m)) (v2 : Int32) (m : hM) : G mX12_layOpening 2 70 [(0, .inr (.inr (40, 0))), (1, .inl v1), (2, .inl v2)] [] m (JX12_layOpening_70 K16 K76 v1 v2 m) := by
  unfold JX12_layOpening_70
  refine g_iinc (v := v2 + 1) (L2 := [(2, .inl (v2 + 1)), (0, .inr (.inr (40, 0))), (1, .inl v1)]) 2 (kdX12_layOpening 37 rfl) rfl rfl rfl (by decide) ?_
  refine g_goto (tgt := 16) (kdX12_layOpening 38 rfl) (by decide) ?_
  exact g_fgt [1, 2, 0] rfl (h16 (v2 + 1) m)
def bJX12_layOpening_16 (K16 : Int32 → hM → hR) (K76 : hM → hR) (v1 : Int32) (v2 : Int32) (m : hM) : hR :=
  if 64 ≤ v2 then (K76 m) else (calI (JX12_weighRow v2 v1 0 m) fun x4 m3 =>
  ald m3 45 0 3 fun x5 =>
  calI (JX12_has v2 x5 m3) fun x7 m6 =>
  if x7 = 0 then (calI (JJ9_max_7cf53 (m6.1 40 0 26) x4 m6) fun x9 m8 =>
  stI m8 40 0 26 x9 fun m10 =>
  JX12_layOpening_70 K16 K76 v1 v2 m10) else (calI (JJ9_min_7cf53 (m6.1 40 0 25) x4 m6) fun x12 m11 =>
  stI m11 40 0 25 x12 fun m13 =>
  JX12_layOpening_70 K16 K76 v1 v2 m13))
set_option maxRecDepth 20000 in
theorem BbJX12_layOpening_16 (K16 : Int32 → hM → hR) (K76 : hM → hR) (v1 : Int32) (h16 : ∀ (v2 : Int32) (m : hM), G mX12_layOpening 2 16 [(0, .inr (.inr (40, 0))), (1, .inl v1), (2, .inl v2)] [] m (K16 v2 m)) (h76 : ∀ (m : hM), G mX12_layOpening 2 76 [] [] m (K76 m)) (v2 : Int32) (m : hM) : G mX12_layOpening 2 16 [(0, .inr (.inr (40, 0))), (1, .inl v1), (2, .inl v2)] [] m (bJX12_layOpening_16 K16 K76 v1 v2 m) := by
  unfold bJX12_layOpening_16
  refine g_iload_n 2 (kdX12_layOpening 8 rfl) rfl ?_
  refine g_bipush (v := 64) (kdX12_layOpening 9 rfl) (by decide) ?_
  refine g_icmp_ge (tgt := 76) (kdX12_layOpening 10 rfl) (by decide) (fun _ => ?_) (fun _ => ?_)
  · exact g_fgt [] rfl (h76 m)
  · refine g_aload_n 0 (kdX12_layOpening 11 rfl) rfl ?_
    refine g_iload_n 2 (kdX12_layOpening 12 rfl) rfl ?_
    refine g_iload_n 1 (kdX12_layOpening 13 rfl) rfl ?_
    refine g_iconst (v := 0) (kdX12_layOpening 14 rfl) (by decide) ?_
    refine g_calI (ck_V (As := [.inl v2, .inl v1, .inl 0]) (S := []) (t := 40) (o := 0) (kdX12_layOpening 15 rfl) iX12_weighRow lX12_301 rc_40 rfl rfl rfl (by decide) (by simp only [List.map, vcat, List.sum_cons, List.sum_nil]; decide)) (CX12_weighRow v2 v1 0 m) (fun x4 m3 => ?_)
    refine g_istore_n (L2 := [(3, .inl x4), (0, .inr (.inr (40, 0))), (1, .inl v1), (2, .inl v2)]) (kdX12_layOpening 16 rfl) rfl (by decide) ?_
    refine g_iload_n 3 (kdX12_layOpening 17 rfl) rfl ?_
    refine g_aload_n 1 (kdX12_layOpening 18 rfl) rfl ?_
    refine g_get (v := .inr (.inr (45, 0))) (kdX12_layOpening 19 rfl) fX12_22 rfl ?_
    refine g_iconst (v := 3) (kdX12_layOpening 20 rfl) (by decide) ?_
    refine g_iald (kdX12_layOpening 21 rfl) (fun x5 => ?_)
    refine g_calI (ck_S (As := [.inl v2, .inl x5]) (S := []) (kdX12_layOpening 22 rfl) iX12_has lX12_178 rfl rfl rfl (by decide) (by simp only [List.map, vcat, List.sum_cons, List.sum_nil]; decide)) (CX12_has v2 x5 m3) (fun x7 m6 => ?_)
    refine g_if_eq (tgt := 58) (kdX12_layOpening 23 rfl) (by decide) (fun _ => ?_) (fun _ => ?_)
    · refine g_aload_n 1 (kdX12_layOpening 31 rfl) rfl ?_
      refine g_aload_n 1 (kdX12_layOpening 32 rfl) rfl ?_
      refine g_get (v := .inl (m6.1 40 0 26)) (kdX12_layOpening 33 rfl) fX12_298 rfl ?_
      refine g_iload_n 0 (kdX12_layOpening 34 rfl) rfl ?_
      refine g_calI (ck_S (As := [.inl (m6.1 40 0 26), .inl x4]) (S := [.inr (.inr (40, 0))]) (kdX12_layOpening 35 rfl) iJ9_max_7cf53 lX12_253 rfl rfl rfl (by decide) (by simp only [List.map, vcat, List.sum_cons, List.sum_nil]; decide)) (CJ9_max_7cf53 (m6.1 40 0 26) x4 m6) (fun x9 m8 => ?_)
      refine g_putI (kdX12_layOpening 36 rfl) fX12_298 rfl (fun m10 => ?_)
      exact g_fgt [1, 2, 3] rfl (BX12_layOpening_70 v1 _ _ h16 h76 v2 m10)
    · refine g_aload_n 1 (kdX12_layOpening 24 rfl) rfl ?_
      refine g_aload_n 1 (kdX12_layOpening 25 rfl) rfl ?_
      refine g_get (v := .inl (m6.1 40 0 25)) (kdX12_layOpening 26 rfl) fX12_294 rfl ?_
      refine g_iload_n 0 (kdX12_layOpening 27 rfl) rfl ?_
      refine g_calI (ck_S (As := [.inl (m6.1 40 0 25), .inl x4]) (S := [.inr (.inr (40, 0))]) (kdX12_layOpening 28 rfl) iJ9_min_7cf53 lX12_234 rfl rfl rfl (by decide) (by simp only [List.map, vcat, List.sum_cons, List.sum_nil]; decide)) (CJ9_min_7cf53 (m6.1 40 0 25) x4 m6) (fun x12 m11 => ?_)
      refine g_putI (kdX12_layOpening 29 rfl) fX12_294 rfl (fun m13 => ?_)
      refine g_goto (tgt := 70) (kdX12_layOpening 30 rfl) (by decide) ?_
      exact g_fgt [1, 2, 3] rfl (BX12_layOpening_70 v1 _ _ h16 h76 v2 m13)
def JX12_layOpening_16 (K76 : hM → hR) (v1 : Int32) : Nat → Int32 → hM → hR
  | 0, _, _ => none
  | f + 1, v2, m => bJX12_layOpening_16 (fun v2 m => JX12_layOpening_16 K76 v1 f v2 m) K76 v1 v2 m
theorem BJX12_layOpening_16 (K76 : hM → hR) (v1 : Int32) (h76 : ∀ (m : hM), G mX12_layOpening 2 76 [] [] m (K76 m)) : ∀ (f : Nat) (v2 : Int32) (m : hM), G mX12_layOpening 2 16 [(0, .inr (.inr (40, 0))), (1, .inl v1), (2, .inl v2)] [] m (JX12_layOpening_16 K76 v1 f v2 m)
  | 0, _, _ => g_none
  | f + 1, v2, m => BbJX12_layOpening_16  _ K76 v1 (fun v2 m => BJX12_layOpening_16  K76 v1 h76 f v2 m) h76 v2 m
def JX12_layOpening (a1 : Int32) (m : hM) : hR :=
  stI m 40 0 25 2147483647 fun m1 =>
  stI m1 40 0 26 (-2147483648) fun m2 =>
  JX12_layOpening_16 (fun m14 => some (none, m14)) a1 FU 0 m2
set_option maxRecDepth 20000 in
theorem CX12_layOpening (a1 : Int32) (m : hM) : Cn mX12_layOpening 2 [.inr (.inr (40, 0)), .inl a1] m (JX12_layOpening a1 m) := by
  refine cn_of (by decide +kernel) (by simp only [List.map, vcat, List.sum_cons, List.sum_nil]; decide) ?_
  unfold JX12_layOpening
  show G mX12_layOpening 2 0 [(0, .inr (.inr (40, 0))), (1, .inl a1)] [] m _
  refine g_aload_n 0 (kdX12_layOpening 0 rfl) rfl ?_
  refine g_ldcw (kdX12_layOpening 1 rfl) cX12_293 ?_
  refine g_putI (kdX12_layOpening 2 rfl) fX12_294 rfl (fun m1 => ?_)
  refine g_aload_n 0 (kdX12_layOpening 3 rfl) rfl ?_
  refine g_ldcw (kdX12_layOpening 4 rfl) cX12_297 ?_
  refine g_putI (kdX12_layOpening 5 rfl) fX12_298 rfl (fun m2 => ?_)
  refine g_iconst (v := 0) (kdX12_layOpening 6 rfl) (by decide) ?_
  refine g_istore_n (L2 := [(2, .inl 0), (0, .inr (.inr (40, 0))), (1, .inl a1)]) (kdX12_layOpening 7 rfl) rfl (by decide) ?_
  refine g_fgt [1, 2, 0] rfl (BJX12_layOpening_16  _ a1 ?_ FU 0 m2)
  · intro m14
    exact g_vret rfl (kdX12_layOpening 39 rfl)
def JX12_heightOf (a1 : Int32) (m : hM) : hR :=
  calV (JX12_layOpening a1 m) fun m1 =>
  some (some (.inl ((m1.1 40 0 25) - (m1.1 40 0 26))), m1)
set_option maxRecDepth 20000 in
theorem CX12_heightOf (a1 : Int32) (m : hM) : Cn mX12_heightOf 3 [.inr (.inr (40, 0)), .inl a1] m (JX12_heightOf a1 m) := by
  refine cn_of (by decide +kernel) (by simp only [List.map, vcat, List.sum_cons, List.sum_nil]; decide) ?_
  unfold JX12_heightOf
  show G mX12_heightOf 3 0 [(0, .inr (.inr (40, 0))), (1, .inl a1)] [] m _
  refine g_aload_n 0 (kdX12_heightOf 0 rfl) rfl ?_
  refine g_iload_n 1 (kdX12_heightOf 1 rfl) rfl ?_
  refine g_calV (ck_V (As := [.inl a1]) (S := []) (t := 40) (o := 0) (kdX12_heightOf 2 rfl) iX12_layOpening lX12_304 rc_40 rfl rfl rfl (by decide) (by simp only [List.map, vcat, List.sum_cons, List.sum_nil]; decide)) (CX12_layOpening a1 m) (fun m1 => ?_)
  refine g_aload_n 0 (kdX12_heightOf 3 rfl) rfl ?_
  refine g_get (v := .inl (m1.1 40 0 25)) (kdX12_heightOf 4 rfl) fX12_294 rfl ?_
  refine g_aload_n 0 (kdX12_heightOf 5 rfl) rfl ?_
  refine g_get (v := .inl (m1.1 40 0 26)) (kdX12_heightOf 6 rfl) fX12_298 rfl ?_
  refine g_isub (kdX12_heightOf 7 rfl) ?_
  exact g_iret rfl (kdX12_heightOf 8 rfl)
def JX12_better_51 (K13 : Int32 → Int32 → Int32 → hM → hR) (K57 : Int32 → hM → hR) (v1 : Int32) (v2 : Int32) (v3 : Int32) (v4 : Int32) (m : hM) : hR :=
  K13 v2 v3 (v4 + 2) m
set_option maxRecDepth 20000 in
theorem BX12_better_51 (v1 : Int32) (K13 : Int32 → Int32 → Int32 → hM → hR) (K57 : Int32 → hM → hR) (h13 : ∀ (v2 : Int32) (v3 : Int32) (v4 : Int32) (m : hM), G mX12_better 4 13 [(0, .inr (.inr (40, 0))), (1, .inl v1), (2, .inl v2), (3, .inl v3), (4, .inl v4)] [] m (K13 v2 v3 v4 m)) (h57 : ∀ (v2 : Int32) (m : hM), G mX12_better 4 57 [(2, .inl v2)] [] m (K57 v2 m)) (v2 : Int32) (v3 : Int32) (v4 : Int32) (m : hM) : G mX12_better 4 51 [(0, .inr (.inr (40, 0))), (1, .inl v1), (2, .inl v2), (3, .inl v3), (4, .inl v4)] [] m (JX12_better_51 K13 K57 v1 v2 v3 v4 m) := by
  unfold JX12_better_51
  refine g_iinc (v := v4 + 2) (L2 := [(4, .inl (v4 + 2)), (0, .inr (.inr (40, 0))), (1, .inl v1), (2, .inl v2), (3, .inl v3)]) 4 (kdX12_better 31 rfl) rfl rfl rfl (by decide) ?_
  refine g_goto (tgt := 13) (kdX12_better 32 rfl) (by decide) ?_
  exact g_fgt [1, 2, 3, 4, 0] rfl (h13 v2 v3 (v4 + 2) m)
def bJX12_better_13 (K13 : Int32 → Int32 → Int32 → hM → hR) (K57 : Int32 → hM → hR) (v1 : Int32) (v2 : Int32) (v3 : Int32) (v4 : Int32) (m : hM) : hR :=
  if (v1 + 1) < v4 then (K57 v2 m) else (calI (JX12_in v4 0 3 m) fun x5 m4 =>
  if x5 = 0 then (JX12_better_51 K13 K57 v1 v2 v3 v4 m4) else (calI (JX12_heightOf v4 m4) fun x7 m6 =>
  if x7 ≤ v3 then (JX12_better_51 K13 K57 v1 v2 v3 v4 m6) else (calI (JX12_heightOf v4 m6) fun x9 m8 =>
  JX12_better_51 K13 K57 v1 v4 x9 v4 m8)))
set_option maxRecDepth 20000 in
theorem BbJX12_better_13 (K13 : Int32 → Int32 → Int32 → hM → hR) (K57 : Int32 → hM → hR) (v1 : Int32) (h13 : ∀ (v2 : Int32) (v3 : Int32) (v4 : Int32) (m : hM), G mX12_better 4 13 [(0, .inr (.inr (40, 0))), (1, .inl v1), (2, .inl v2), (3, .inl v3), (4, .inl v4)] [] m (K13 v2 v3 v4 m)) (h57 : ∀ (v2 : Int32) (m : hM), G mX12_better 4 57 [(2, .inl v2)] [] m (K57 v2 m)) (v2 : Int32) (v3 : Int32) (v4 : Int32) (m : hM) : G mX12_better 4 13 [(0, .inr (.inr (40, 0))), (1, .inl v1), (2, .inl v2), (3, .inl v3), (4, .inl v4)] [] m (bJX12_better_13 K13 K57 v1 v2 v3 v4 m) := by
  unfold bJX12_better_13
  refine g_iload 4 (kdX12_better 10 rfl) rfl ?_
  refine g_iload_n 1 (kdX12_better 11 rfl) rfl ?_
  refine g_iconst (v := 1) (kdX12_better 12 rfl) (by decide) ?_
  refine g_iadd (kdX12_better 13 rfl) ?_
  refine g_icmp_gt (tgt := 57) (kdX12_better 14 rfl) (by decide) (fun _ => ?_) (fun _ => ?_)
  · exact g_fgt [2] rfl (h57 v2 m)
  · refine g_iload 4 (kdX12_better 15 rfl) rfl ?_
    refine g_iconst (v := 0) (kdX12_better 16 rfl) (by decide) ?_
    refine g_iconst (v := 3) (kdX12_better 17 rfl) (by decide) ?_
    refine g_calI (ck_S (As := [.inl v4, .inl 0, .inl 3]) (S := []) (kdX12_better 18 rfl) iX12_in lX12_89 rfl rfl rfl (by decide) (by simp only [List.map, vcat, List.sum_cons, List.sum_nil]; decide)) (CX12_in v4 0 3 m) (fun x5 m4 => ?_)
    refine g_if_eq (tgt := 51) (kdX12_better 19 rfl) (by decide) (fun _ => ?_) (fun _ => ?_)
    · exact g_fgt [0, 1, 2, 3, 4] rfl (BX12_better_51 v1 _ _ h13 h57 v2 v3 v4 m4)
    · refine g_aload_n 0 (kdX12_better 20 rfl) rfl ?_
      refine g_iload 4 (kdX12_better 21 rfl) rfl ?_
      refine g_calI (ck_V (As := [.inl v4]) (S := []) (t := 40) (o := 0) (kdX12_better 22 rfl) iX12_heightOf lX12_307 rc_40 rfl rfl rfl (by decide) (by simp only [List.map, vcat, List.sum_cons, List.sum_nil]; decide)) (CX12_heightOf v4 m4) (fun x7 m6 => ?_)
      refine g_iload_n 3 (kdX12_better 23 rfl) rfl ?_
      refine g_icmp_le (tgt := 51) (kdX12_better 24 rfl) (by decide) (fun _ => ?_) (fun _ => ?_)
      · exact g_fgt [0, 1, 2, 3, 4] rfl (BX12_better_51 v1 _ _ h13 h57 v2 v3 v4 m6)
      · refine g_iload 4 (kdX12_better 25 rfl) rfl ?_
        refine g_istore_n (L2 := [(2, .inl v4), (0, .inr (.inr (40, 0))), (1, .inl v1), (3, .inl v3), (4, .inl v4)]) (kdX12_better 26 rfl) rfl (by decide) ?_
        refine g_aload_n 1 (kdX12_better 27 rfl) rfl ?_
        refine g_iload 4 (kdX12_better 28 rfl) rfl ?_
        refine g_calI (ck_V (As := [.inl v4]) (S := []) (t := 40) (o := 0) (kdX12_better 29 rfl) iX12_heightOf lX12_307 rc_40 rfl rfl rfl (by decide) (by simp only [List.map, vcat, List.sum_cons, List.sum_nil]; decide)) (CX12_heightOf v4 m6) (fun x9 m8 => ?_)
        refine g_istore_n (L2 := [(3, .inl x9), (2, .inl v4), (0, .inr (.inr (40, 0))), (1, .inl v1), (4, .inl v4)]) (kdX12_better 30 rfl) rfl (by decide) ?_
        exact g_fgt [2, 3, 1, 0, 4] rfl (BX12_better_51 v1 _ _ h13 h57 v4 x9 v4 m8)
def JX12_better_13 (K57 : Int32 → hM → hR) (v1 : Int32) : Nat → Int32 → Int32 → Int32 → hM → hR
  | 0, _, _, _, _ => none
  | f + 1, v2, v3, v4, m => bJX12_better_13 (fun v2 v3 v4 m => JX12_better_13 K57 v1 f v2 v3 v4 m) K57 v1 v2 v3 v4 m
theorem BJX12_better_13 (K57 : Int32 → hM → hR) (v1 : Int32) (h57 : ∀ (v2 : Int32) (m : hM), G mX12_better 4 57 [(2, .inl v2)] [] m (K57 v2 m)) : ∀ (f : Nat) (v2 : Int32) (v3 : Int32) (v4 : Int32) (m : hM), G mX12_better 4 13 [(0, .inr (.inr (40, 0))), (1, .inl v1), (2, .inl v2), (3, .inl v3), (4, .inl v4)] [] m (JX12_better_13 K57 v1 f v2 v3 v4 m)
  | 0, _, _, _, _ => g_none
  | f + 1, v2, v3, v4, m => BbJX12_better_13  _ K57 v1 (fun v2 v3 v4 m => BJX12_better_13  K57 v1 h57 f v2 v3 v4 m) h57 v2 v3 v4 m
def JX12_better (a1 : Int32) (m : hM) : hR :=
  calI (JX12_heightOf a1 m) fun x2 m1 =>
  lt (a1 - 1) fun x3 =>
  JX12_better_13 (fun v2 m10 => some (some (.inl v2), m10)) a1 FU (-1) x2 x3 m1
set_option maxRecDepth 20000 in
theorem CX12_better (a1 : Int32) (m : hM) : Cn mX12_better 4 [.inr (.inr (40, 0)), .inl a1] m (JX12_better a1 m) := by
  refine cn_of (by decide +kernel) (by simp only [List.map, vcat, List.sum_cons, List.sum_nil]; decide) ?_
  unfold JX12_better
  show G mX12_better 4 0 [(0, .inr (.inr (40, 0))), (1, .inl a1)] [] m _
  refine g_iconst (v := (-1)) (kdX12_better 0 rfl) (by decide) ?_
  refine g_istore_n (L2 := [(2, .inl (-1)), (0, .inr (.inr (40, 0))), (1, .inl a1)]) (kdX12_better 1 rfl) rfl (by decide) ?_
  refine g_aload_n 1 (kdX12_better 2 rfl) rfl ?_
  refine g_iload_n 2 (kdX12_better 3 rfl) rfl ?_
  refine g_calI (ck_V (As := [.inl a1]) (S := []) (t := 40) (o := 0) (kdX12_better 4 rfl) iX12_heightOf lX12_307 rc_40 rfl rfl rfl (by decide) (by simp only [List.map, vcat, List.sum_cons, List.sum_nil]; decide)) (CX12_heightOf a1 m) (fun x2 m1 => ?_)
  refine g_istore_n (L2 := [(3, .inl x2), (2, .inl (-1)), (0, .inr (.inr (40, 0))), (1, .inl a1)]) (kdX12_better 5 rfl) rfl (by decide) ?_
  refine g_iload_n 3 (kdX12_better 6 rfl) rfl ?_
  refine g_iconst (v := 1) (kdX12_better 7 rfl) (by decide) ?_
  refine g_isub (kdX12_better 8 rfl) ?_
  refine g_lt (fun x3 => ?_)
  refine g_istore (L2 := [(4, .inl x3), (3, .inl x2), (2, .inl (-1)), (0, .inr (.inr (40, 0))), (1, .inl a1)]) (kdX12_better 9 rfl) rfl (by decide) ?_
  refine g_fgt [3, 4, 2, 1, 0] rfl (BJX12_better_13  _ a1 ?_ FU (-1) x2 x3 m1)
  · intro v2 m10
    refine g_iload_n 0 (kdX12_better 33 rfl) rfl ?_
    exact g_iret rfl (kdX12_better 34 rfl)
def bJX12_seekNow_12 (K12 : Int32 → hM → hR) (K34 : hM → hR) (v1 : Int32) (m : hM) : hR :=
  if v1 = (-1) then (K34 m) else (ast m 50 0 14 v1 fun m4 =>
  calI (JX12_better v1 m4) fun x6 m5 =>
  K12 x6 m5)
set_option maxRecDepth 20000 in
theorem BbJX12_seekNow_12 (K12 : Int32 → hM → hR) (K34 : hM → hR) (h12 : ∀ (v1 : Int32) (m : hM), G mX12_seekNow 5 12 [(0, .inr (.inr (40, 0))), (1, .inl v1)] [] m (K12 v1 m)) (h34 : ∀ (m : hM), G mX12_seekNow 5 34 [] [] m (K34 m)) (v1 : Int32) (m : hM) : G mX12_seekNow 5 12 [(0, .inr (.inr (40, 0))), (1, .inl v1)] [] m (bJX12_seekNow_12 K12 K34 v1 m) := by
  unfold bJX12_seekNow_12
  refine g_iload_n 1 (kdX12_seekNow 7 rfl) rfl ?_
  refine g_iconst (v := (-1)) (kdX12_seekNow 8 rfl) (by decide) ?_
  refine g_icmp_eq (tgt := 34) (kdX12_seekNow 9 rfl) (by decide) (fun _ => ?_) (fun _ => ?_)
  · exact g_fgt [] rfl (h34 m)
  · refine g_aload_n 0 (kdX12_seekNow 10 rfl) rfl ?_
    refine g_get (v := .inr (.inr (50, 0))) (kdX12_seekNow 11 rfl) fX12_37 rfl ?_
    refine g_bipush (v := 14) (kdX12_seekNow 12 rfl) (by decide) ?_
    refine g_iload_n 1 (kdX12_seekNow 13 rfl) rfl ?_
    refine g_iast (kdX12_seekNow 14 rfl) (fun m4 => ?_)
    refine g_aload_n 0 (kdX12_seekNow 15 rfl) rfl ?_
    refine g_iload_n 1 (kdX12_seekNow 16 rfl) rfl ?_
    refine g_calI (ck_V (As := [.inl v1]) (S := []) (t := 40) (o := 0) (kdX12_seekNow 17 rfl) iX12_better lX12_310 rc_40 rfl rfl rfl (by decide) (by simp only [List.map, vcat, List.sum_cons, List.sum_nil]; decide)) (CX12_better v1 m4) (fun x6 m5 => ?_)
    refine g_istore_n (L2 := [(1, .inl x6), (0, .inr (.inr (40, 0)))]) (kdX12_seekNow 18 rfl) rfl (by decide) ?_
    refine g_goto (tgt := 12) (kdX12_seekNow 19 rfl) (by decide) ?_
    exact g_fgt [1, 0] rfl (h12 x6 m5)
def JX12_seekNow_12 (K34 : hM → hR) : Nat → Int32 → hM → hR
  | 0, _, _ => none
  | f + 1, v1, m => bJX12_seekNow_12 (fun v1 m => JX12_seekNow_12 K34  f v1 m) K34  v1 m
theorem BJX12_seekNow_12 (K34 : hM → hR) (h34 : ∀ (m : hM), G mX12_seekNow 5 34 [] [] m (K34 m)) : ∀ (f : Nat) (v1 : Int32) (m : hM), G mX12_seekNow 5 12 [(0, .inr (.inr (40, 0))), (1, .inl v1)] [] m (JX12_seekNow_12 K34  f v1 m)
  | 0, _, _ => g_none
  | f + 1, v1, m => BbJX12_seekNow_12  _ K34  (fun v1 m => BJX12_seekNow_12  K34  h34 f v1 m) h34 v1 m
def JX12_seekNow  (m : hM) : hR :=
  ald m 50 0 14 fun x1 =>
  calI (JX12_better x1 m) fun x3 m2 =>
  JX12_seekNow_12 (fun m7 => some (none, m7))  FU x3 m2
set_option maxRecDepth 20000 in
theorem CX12_seekNow  (m : hM) : Cn mX12_seekNow 5 [.inr (.inr (40, 0))] m (JX12_seekNow  m) := by
  refine cn_of (by decide +kernel) (by simp only [List.map, vcat, List.sum_cons, List.sum_nil]; decide) ?_
  unfold JX12_seekNow
  show G mX12_seekNow 5 0 [(0, .inr (.inr (40, 0)))] [] m _
  refine g_aload_n 0 (kdX12_seekNow 0 rfl) rfl ?_
  refine g_aload_n 0 (kdX12_seekNow 1 rfl) rfl ?_
  refine g_get (v := .inr (.inr (50, 0))) (kdX12_seekNow 2 rfl) fX12_37 rfl ?_
  refine g_bipush (v := 14) (kdX12_seekNow 3 rfl) (by decide) ?_
  refine g_iald (kdX12_seekNow 4 rfl) (fun x1 => ?_)
  refine g_calI (ck_V (As := [.inl x1]) (S := []) (t := 40) (o := 0) (kdX12_seekNow 5 rfl) iX12_better lX12_310 rc_40 rfl rfl rfl (by decide) (by simp only [List.map, vcat, List.sum_cons, List.sum_nil]; decide)) (CX12_better x1 m) (fun x3 m2 => ?_)
  refine g_istore_n (L2 := [(1, .inl x3), (0, .inr (.inr (40, 0)))]) (kdX12_seekNow 6 rfl) rfl (by decide) ?_
  refine g_fgt [1, 0] rfl (BJX12_seekNow_12  _  ?_ FU x3 m2)
  · intro m7
    exact g_vret rfl (kdX12_seekNow 20 rfl)
def bJX12_keep_54 (K54 : Int32 → hM → hR) (K88 : hM → hR) (v1 : Int32) (m : hM) : hR :=
  if 232 ≤ v1 then (K88 m) else (ald m 50 0 v1 fun x1 =>
  ast m 52 0 ((232 * (m.1 40 0 28)) + v1) x1 fun m2 =>
  K54 (v1 + 1) m2)
set_option maxRecDepth 20000 in
theorem BbJX12_keep_54 (K54 : Int32 → hM → hR) (K88 : hM → hR) (h54 : ∀ (v1 : Int32) (m : hM), G mX12_keep 0 54 [(0, .inr (.inr (40, 0))), (1, .inl v1)] [] m (K54 v1 m)) (h88 : ∀ (m : hM), G mX12_keep 0 88 [(0, .inr (.inr (40, 0)))] [] m (K88 m)) (v1 : Int32) (m : hM) : G mX12_keep 0 54 [(0, .inr (.inr (40, 0))), (1, .inl v1)] [] m (bJX12_keep_54 K54 K88 v1 m) := by
  unfold bJX12_keep_54
  refine g_iload_n 1 (kdX12_keep 29 rfl) rfl ?_
  refine g_sipush (v := 232) (kdX12_keep 30 rfl) (by decide) ?_
  refine g_icmp_ge (tgt := 88) (kdX12_keep 31 rfl) (by decide) (fun _ => ?_) (fun _ => ?_)
  · exact g_fgt [0] rfl (h88 m)
  · refine g_aload_n 0 (kdX12_keep 32 rfl) rfl ?_
    refine g_get (v := .inr (.inr (52, 0))) (kdX12_keep 33 rfl) fX12_54 rfl ?_
    refine g_sipush (v := 232) (kdX12_keep 34 rfl) (by decide) ?_
    refine g_aload_n 0 (kdX12_keep 35 rfl) rfl ?_
    refine g_get (v := .inl (m.1 40 0 28)) (kdX12_keep 36 rfl) fX12_207 rfl ?_
    refine g_imul (kdX12_keep 37 rfl) ?_
    refine g_iload_n 1 (kdX12_keep 38 rfl) rfl ?_
    refine g_iadd (kdX12_keep 39 rfl) ?_
    refine g_aload_n 0 (kdX12_keep 40 rfl) rfl ?_
    refine g_get (v := .inr (.inr (50, 0))) (kdX12_keep 41 rfl) fX12_37 rfl ?_
    refine g_iload_n 1 (kdX12_keep 42 rfl) rfl ?_
    refine g_iald (kdX12_keep 43 rfl) (fun x1 => ?_)
    refine g_iast (kdX12_keep 44 rfl) (fun m2 => ?_)
    refine g_iinc (v := v1 + 1) (L2 := [(1, .inl (v1 + 1)), (0, .inr (.inr (40, 0)))]) 1 (kdX12_keep 45 rfl) rfl rfl rfl (by decide) ?_
    refine g_goto (tgt := 54) (kdX12_keep 46 rfl) (by decide) ?_
    exact g_fgt [1, 0] rfl (h54 (v1 + 1) m2)
def JX12_keep_54 (K88 : hM → hR) : Nat → Int32 → hM → hR
  | 0, _, _ => none
  | f + 1, v1, m => bJX12_keep_54 (fun v1 m => JX12_keep_54 K88  f v1 m) K88  v1 m
theorem BJX12_keep_54 (K88 : hM → hR) (h88 : ∀ (m : hM), G mX12_keep 0 88 [(0, .inr (.inr (40, 0)))] [] m (K88 m)) : ∀ (f : Nat) (v1 : Int32) (m : hM), G mX12_keep 0 54 [(0, .inr (.inr (40, 0))), (1, .inl v1)] [] m (JX12_keep_54 K88  f v1 m)
  | 0, _, _ => g_none
  | f + 1, v1, m => BbJX12_keep_54  _ K88  (fun v1 m => BJX12_keep_54  K88  h88 f v1 m) h88 v1 m
def JX12_keep_52 (m : hM) : hR :=
  JX12_keep_54 (fun m3 => stI m3 40 0 28 ((m3.1 40 0 28) + 1) fun m4 =>
  some (none, m4))  FU 0 m
set_option maxRecDepth 20000 in
theorem BX12_keep_52 (m : hM) : G mX12_keep 0 52 [(0, .inr (.inr (40, 0)))] [] m (JX12_keep_52 m) := by
  unfold JX12_keep_52
  refine g_iconst (v := 0) (kdX12_keep 27 rfl) (by decide) ?_
  refine g_istore_n (L2 := [(1, .inl 0), (0, .inr (.inr (40, 0)))]) (kdX12_keep 28 rfl) rfl (by decide) ?_
  refine g_fgt [1, 0] rfl (BJX12_keep_54  _  ?_ FU 0 m)
  · intro m3
    refine g_aload_n 0 (kdX12_keep 47 rfl) rfl ?_
    refine g_dup (kdX12_keep 48 rfl) rfl ?_
    refine g_get (v := .inl (m3.1 40 0 28)) (kdX12_keep 49 rfl) fX12_207 rfl ?_
    refine g_iconst (v := 1) (kdX12_keep 50 rfl) (by decide) ?_
    refine g_iadd (kdX12_keep 51 rfl) ?_
    refine g_putI (kdX12_keep 52 rfl) fX12_207 rfl (fun m4 => ?_)
    exact g_vret rfl (kdX12_keep 53 rfl)
def bJX12_keep_13 (K13 : Int32 → hM → hR) (K42 : hM → hR) (v1 : Int32) (m : hM) : hR :=
  if 9280 ≤ v1 then (K42 m) else (ald m 52 0 v1 fun x5 =>
  ast m 52 0 (v1 - 232) x5 fun m6 =>
  K13 (v1 + 1) m6)
set_option maxRecDepth 20000 in
theorem BbJX12_keep_13 (K13 : Int32 → hM → hR) (K42 : hM → hR) (h13 : ∀ (v1 : Int32) (m : hM), G mX12_keep 0 13 [(0, .inr (.inr (40, 0))), (1, .inl v1)] [] m (K13 v1 m)) (h42 : ∀ (m : hM), G mX12_keep 0 42 [(0, .inr (.inr (40, 0)))] [] m (K42 m)) (v1 : Int32) (m : hM) : G mX12_keep 0 13 [(0, .inr (.inr (40, 0))), (1, .inl v1)] [] m (bJX12_keep_13 K13 K42 v1 m) := by
  unfold bJX12_keep_13
  refine g_iload_n 1 (kdX12_keep 6 rfl) rfl ?_
  refine g_sipush (v := 9280) (kdX12_keep 7 rfl) (by decide) ?_
  refine g_icmp_ge (tgt := 42) (kdX12_keep 8 rfl) (by decide) (fun _ => ?_) (fun _ => ?_)
  · exact g_fgt [0] rfl (h42 m)
  · refine g_aload_n 0 (kdX12_keep 9 rfl) rfl ?_
    refine g_get (v := .inr (.inr (52, 0))) (kdX12_keep 10 rfl) fX12_54 rfl ?_
    refine g_iload_n 1 (kdX12_keep 11 rfl) rfl ?_
    refine g_sipush (v := 232) (kdX12_keep 12 rfl) (by decide) ?_
    refine g_isub (kdX12_keep 13 rfl) ?_
    refine g_aload_n 0 (kdX12_keep 14 rfl) rfl ?_
    refine g_get (v := .inr (.inr (52, 0))) (kdX12_keep 15 rfl) fX12_54 rfl ?_
    refine g_iload_n 1 (kdX12_keep 16 rfl) rfl ?_
    refine g_iald (kdX12_keep 17 rfl) (fun x5 => ?_)
    refine g_iast (kdX12_keep 18 rfl) (fun m6 => ?_)
    refine g_iinc (v := v1 + 1) (L2 := [(1, .inl (v1 + 1)), (0, .inr (.inr (40, 0)))]) 1 (kdX12_keep 19 rfl) rfl rfl rfl (by decide) ?_
    refine g_goto (tgt := 13) (kdX12_keep 20 rfl) (by decide) ?_
    exact g_fgt [1, 0] rfl (h13 (v1 + 1) m6)
def JX12_keep_13 (K42 : hM → hR) : Nat → Int32 → hM → hR
  | 0, _, _ => none
  | f + 1, v1, m => bJX12_keep_13 (fun v1 m => JX12_keep_13 K42  f v1 m) K42  v1 m
theorem BJX12_keep_13 (K42 : hM → hR) (h42 : ∀ (m : hM), G mX12_keep 0 42 [(0, .inr (.inr (40, 0)))] [] m (K42 m)) : ∀ (f : Nat) (v1 : Int32) (m : hM), G mX12_keep 0 13 [(0, .inr (.inr (40, 0))), (1, .inl v1)] [] m (JX12_keep_13 K42  f v1 m)
  | 0, _, _ => g_none
  | f + 1, v1, m => BbJX12_keep_13  _ K42  (fun v1 m => BJX12_keep_13  K42  h42 f v1 m) h42 v1 m
def JX12_keep  (m : hM) : hR :=
  if (m.1 40 0 28) = 40 then (JX12_keep_13 (fun m7 => stI m7 40 0 28 ((m7.1 40 0 28) - 1) fun m8 =>
  JX12_keep_52 m8)  FU 232 m) else (JX12_keep_52 m)
set_option maxRecDepth 20000 in
theorem CX12_keep  (m : hM) : Cn mX12_keep 0 [.inr (.inr (40, 0))] m (JX12_keep  m) := by
  refine cn_of (by decide +kernel) (by simp only [List.map, vcat, List.sum_cons, List.sum_nil]; decide) ?_
  unfold JX12_keep
  show G mX12_keep 0 0 [(0, .inr (.inr (40, 0)))] [] m _
  refine g_aload_n 0 (kdX12_keep 0 rfl) rfl ?_
  refine g_get (v := .inl (m.1 40 0 28)) (kdX12_keep 1 rfl) fX12_207 rfl ?_
  refine g_bipush (v := 40) (kdX12_keep 2 rfl) (by decide) ?_
  refine g_icmp_ne (tgt := 52) (kdX12_keep 3 rfl) (by decide) (fun _ => ?_) (fun _ => ?_)
  · exact g_fgt [0] rfl (BX12_keep_52 m)
  · refine g_sipush (v := 232) (kdX12_keep 4 rfl) (by decide) ?_
    refine g_istore_n (L2 := [(1, .inl 232), (0, .inr (.inr (40, 0)))]) (kdX12_keep 5 rfl) rfl (by decide) ?_
    refine g_fgt [1, 0] rfl (BJX12_keep_13  _  ?_ FU 232 m)
    · intro m7
      refine g_aload_n 0 (kdX12_keep 21 rfl) rfl ?_
      refine g_dup (kdX12_keep 22 rfl) rfl ?_
      refine g_get (v := .inl (m7.1 40 0 28)) (kdX12_keep 23 rfl) fX12_207 rfl ?_
      refine g_iconst (v := 1) (kdX12_keep 24 rfl) (by decide) ?_
      refine g_isub (kdX12_keep 25 rfl) ?_
      refine g_putI (kdX12_keep 26 rfl) fX12_207 rfl (fun m8 => ?_)
      exact g_fgt [0] rfl (BX12_keep_52 m8)
def JX12_isRefused_15 (v1 : Int32) (m : hM) : hR :=
  if v1 = (-1) then (jretZ 0 m) else (jretZ 1 m)
set_option maxRecDepth 20000 in
theorem BX12_isRefused_15 (v1 : Int32) (m : hM) : G mX12_isRefused 0 15 [(1, .inl v1)] [] m (JX12_isRefused_15 v1 m) := by
  unfold JX12_isRefused_15
  refine g_iload_n 0 (kdX12_isRefused 11 rfl) rfl ?_
  refine g_iconst (v := (-1)) (kdX12_isRefused 12 rfl) (by decide) ?_
  refine g_icmp_eq (tgt := 24) (kdX12_isRefused 13 rfl) (by decide) (fun _ => ?_) (fun _ => ?_)
  · refine g_iconst (v := 0) (kdX12_isRefused 16 rfl) (by decide) ?_
    exact g_zret rfl (kdX12_isRefused 17 rfl)
  · refine g_iconst (v := 1) (kdX12_isRefused 14 rfl) (by decide) ?_
    refine g_goto (tgt := 25) (kdX12_isRefused 15 rfl) (by decide) ?_
    exact g_zret rfl (kdX12_isRefused 17 rfl)
def JX12_isRefused (a1 : Int32) (m : hM) : hR :=
  if a1 = (-1) then (JX12_isRefused_15 a1 m) else (ald m 51 0 a1 fun x1 =>
  ast m 51 0 a1 (x1 + 1) fun m2 =>
  JX12_isRefused_15 a1 m2)
set_option maxRecDepth 20000 in
theorem CX12_isRefused (a1 : Int32) (m : hM) : Cn mX12_isRefused 0 [.inr (.inr (40, 0)), .inl a1] m (JX12_isRefused a1 m) := by
  refine cn_of (by decide +kernel) (by simp only [List.map, vcat, List.sum_cons, List.sum_nil]; decide) ?_
  unfold JX12_isRefused
  show G mX12_isRefused 0 0 [(0, .inr (.inr (40, 0))), (1, .inl a1)] [] m _
  refine g_iload_n 1 (kdX12_isRefused 0 rfl) rfl ?_
  refine g_iconst (v := (-1)) (kdX12_isRefused 1 rfl) (by decide) ?_
  refine g_icmp_eq (tgt := 15) (kdX12_isRefused 2 rfl) (by decide) (fun _ => ?_) (fun _ => ?_)
  · exact g_fgt [1] rfl (BX12_isRefused_15 a1 m)
  · refine g_aload_n 0 (kdX12_isRefused 3 rfl) rfl ?_
    refine g_get (v := .inr (.inr (51, 0))) (kdX12_isRefused 4 rfl) fX12_40 rfl ?_
    refine g_iload_n 1 (kdX12_isRefused 5 rfl) rfl ?_
    refine g_dup2 (kdX12_isRefused 6 rfl) rfl rfl ?_
    refine g_iald (kdX12_isRefused 7 rfl) (fun x1 => ?_)
    refine g_iconst (v := 1) (kdX12_isRefused 8 rfl) (by decide) ?_
    refine g_iadd (kdX12_isRefused 9 rfl) ?_
    refine g_iast (kdX12_isRefused 10 rfl) (fun m2 => ?_)
    exact g_fgt [1] rfl (BX12_isRefused_15 a1 m2)
def JX12_isTap (a1 : Int32) (m : hM) : hR :=
  calI (JX12_taps m) fun x2 m1 =>
  calI (JX12_in a1 0 (x2 - 1) m1) fun x4 m3 =>
  jretZ x4 m3
set_option maxRecDepth 20000 in
theorem CX12_isTap (a1 : Int32) (m : hM) : Cn mX12_isTap 1 [.inr (.inr (40, 0)), .inl a1] m (JX12_isTap a1 m) := by
  refine cn_of (by decide +kernel) (by simp only [List.map, vcat, List.sum_cons, List.sum_nil]; decide) ?_
  unfold JX12_isTap
  show G mX12_isTap 1 0 [(0, .inr (.inr (40, 0))), (1, .inl a1)] [] m _
  refine g_iload_n 1 (kdX12_isTap 0 rfl) rfl ?_
  refine g_iconst (v := 0) (kdX12_isTap 1 rfl) (by decide) ?_
  refine g_aload_n 0 (kdX12_isTap 2 rfl) rfl ?_
  refine g_calI (ck_V (As := []) (S := [.inl 0, .inl a1]) (t := 40) (o := 0) (kdX12_isTap 3 rfl) iX12_taps lX12_213 rc_40 rfl rfl rfl (by decide) (by simp only [List.map, vcat, List.sum_cons, List.sum_nil]; decide)) (CX12_taps m) (fun x2 m1 => ?_)
  refine g_iconst (v := 1) (kdX12_isTap 4 rfl) (by decide) ?_
  refine g_isub (kdX12_isTap 5 rfl) ?_
  refine g_calI (ck_S (As := [.inl a1, .inl 0, .inl (x2 - 1)]) (S := []) (kdX12_isTap 6 rfl) iX12_in lX12_89 rfl rfl rfl (by decide) (by simp only [List.map, vcat, List.sum_cons, List.sum_nil]; decide)) (CX12_in a1 0 (x2 - 1) m1) (fun x4 m3 => ?_)
  exact g_zret rfl (kdX12_isTap 7 rfl)
def JX12_send_46 (v1 : Int32) (v100 : Int32) (m : hM) : hR :=
  calI (JX12_isRefused v100 m) fun x5 m4 =>
  if x5 = 0 then (calV (JX12_keep m4) fun m6 =>
  calI (JX12_symbols v1 m6) fun x8 m7 =>
  some (some (.inl x8), m7)) else (some (some (.inl (-1)), m4))
set_option maxRecDepth 20000 in
theorem BX12_send_46 (v1 : Int32) (v100 : Int32) (m : hM) : G mX12_send 5 46 [(0, .inr (.inr (40, 0))), (1, .inl v1)] [.inl v100, .inr (.inr (40, 0))] m (JX12_send_46 v1 v100 m) := by
  unfold JX12_send_46
  refine g_calI (ck_V (As := [.inl v100]) (S := []) (t := 40) (o := 0) (kdX12_send 24 rfl) iX12_isRefused lX12_313 rc_40 rfl rfl rfl (by decide) (by simp only [List.map, vcat, List.sum_cons, List.sum_nil]; decide)) (CX12_isRefused v100 m) (fun x5 m4 => ?_)
  refine g_if_eq (tgt := 54) (kdX12_send 25 rfl) (by decide) (fun _ => ?_) (fun _ => ?_)
  · refine g_aload_n 0 (kdX12_send 28 rfl) rfl ?_
    refine g_calV (ck_V (As := []) (S := []) (t := 40) (o := 0) (kdX12_send 29 rfl) iX12_keep lX12_316 rc_40 rfl rfl rfl (by decide) (by simp only [List.map, vcat, List.sum_cons, List.sum_nil]; decide)) (CX12_keep m4) (fun m6 => ?_)
    refine g_aload_n 0 (kdX12_send 30 rfl) rfl ?_
    refine g_iload_n 1 (kdX12_send 31 rfl) rfl ?_
    refine g_calI (ck_V (As := [.inl v1]) (S := []) (t := 40) (o := 0) (kdX12_send 32 rfl) iX12_symbols lX12_319 rc_40 rfl rfl rfl (by decide) (by simp only [List.map, vcat, List.sum_cons, List.sum_nil]; decide)) (CX12_symbols v1 m6) (fun x8 m7 => ?_)
    exact g_iret rfl (kdX12_send 33 rfl)
  · refine g_iconst (v := (-1)) (kdX12_send 26 rfl) (by decide) ?_
    exact g_iret rfl (kdX12_send 27 rfl)
def JX12_send (a1 : Int32) (m : hM) : hR :=
  if (m.1 40 0 15) = 0 then (JX12_send_46 a1 0 m) else (calI (JX12_in a1 1 60 m) fun x2 m1 =>
  if x2 = 0 then (JX12_send_46 a1 1 m1) else (ald m1 50 0 18 fun x3 =>
  if (x3 + a1) ≤ 9999 then (JX12_send_46 a1 (-1) m1) else (JX12_send_46 a1 3 m1)))
set_option maxRecDepth 20000 in
theorem CX12_send (a1 : Int32) (m : hM) : Cn mX12_send 5 [.inr (.inr (40, 0)), .inl a1] m (JX12_send a1 m) := by
  refine cn_of (by decide +kernel) (by simp only [List.map, vcat, List.sum_cons, List.sum_nil]; decide) ?_
  unfold JX12_send
  show G mX12_send 5 0 [(0, .inr (.inr (40, 0))), (1, .inl a1)] [] m _
  refine g_aload_n 0 (kdX12_send 0 rfl) rfl ?_
  refine g_aload_n 0 (kdX12_send 1 rfl) rfl ?_
  refine g_get (v := .inl (m.1 40 0 15)) (kdX12_send 2 rfl) fX12_203 rfl ?_
  refine g_if_ne (tgt := 12) (kdX12_send 3 rfl) (by decide) (fun _ => ?_) (fun _ => ?_)
  · refine g_iload_n 1 (kdX12_send 6 rfl) rfl ?_
    refine g_iconst (v := 1) (kdX12_send 7 rfl) (by decide) ?_
    refine g_bipush (v := 60) (kdX12_send 8 rfl) (by decide) ?_
    refine g_calI (ck_S (As := [.inl a1, .inl 1, .inl 60]) (S := [.inr (.inr (40, 0))]) (kdX12_send 9 rfl) iX12_in lX12_89 rfl rfl rfl (by decide) (by simp only [List.map, vcat, List.sum_cons, List.sum_nil]; decide)) (CX12_in a1 1 60 m) (fun x2 m1 => ?_)
    refine g_if_ne (tgt := 26) (kdX12_send 10 rfl) (by decide) (fun _ => ?_) (fun _ => ?_)
    · refine g_aload_n 0 (kdX12_send 13 rfl) rfl ?_
      refine g_get (v := .inr (.inr (50, 0))) (kdX12_send 14 rfl) fX12_37 rfl ?_
      refine g_bipush (v := 18) (kdX12_send 15 rfl) (by decide) ?_
      refine g_iald (kdX12_send 16 rfl) (fun x3 => ?_)
      refine g_iload_n 1 (kdX12_send 17 rfl) rfl ?_
      refine g_iadd (kdX12_send 18 rfl) ?_
      refine g_sipush (v := 9999) (kdX12_send 19 rfl) (by decide) ?_
      refine g_icmp_le (tgt := 45) (kdX12_send 20 rfl) (by decide) (fun _ => ?_) (fun _ => ?_)
      · refine g_iconst (v := (-1)) (kdX12_send 23 rfl) (by decide) ?_
        exact g_fgt [0, 1] rfl (BX12_send_46 a1 (-1) m1)
      · refine g_iconst (v := 3) (kdX12_send 21 rfl) (by decide) ?_
        refine g_goto (tgt := 46) (kdX12_send 22 rfl) (by decide) ?_
        exact g_fgt [0, 1] rfl (BX12_send_46 a1 3 m1)
    · refine g_iconst (v := 1) (kdX12_send 11 rfl) (by decide) ?_
      refine g_goto (tgt := 46) (kdX12_send 12 rfl) (by decide) ?_
      exact g_fgt [0, 1] rfl (BX12_send_46 a1 1 m1)
  · refine g_iconst (v := 0) (kdX12_send 4 rfl) (by decide) ?_
    refine g_goto (tgt := 46) (kdX12_send 5 rfl) (by decide) ?_
    exact g_fgt [0, 1] rfl (BX12_send_46 a1 0 m)
def JX12_setOne_40 (v1 : Int32) (v2 : Int32) (v100 : Int32) (m : hM) : hR :=
  calI (JX12_isRefused v100 m) fun x5 m4 =>
  if x5 = 0 then (calV (JX12_keep m4) fun m6 =>
  ald m6 50 0 v1 fun x7 =>
  ast m6 50 0 v1 v2 fun m8 =>
  some (some (.inl x7), m8)) else (some (some (.inl (-1)), m4))
set_option maxRecDepth 20000 in
theorem BX12_setOne_40 (v1 : Int32) (v2 : Int32) (v100 : Int32) (m : hM) : G mX12_setOne 1 40 [(0, .inr (.inr (40, 0))), (1, .inl v1), (2, .inl v2)] [.inl v100, .inr (.inr (40, 0))] m (JX12_setOne_40 v1 v2 v100 m) := by
  unfold JX12_setOne_40
  refine g_calI (ck_V (As := [.inl v100]) (S := []) (t := 40) (o := 0) (kdX12_setOne 22 rfl) iX12_isRefused lX12_313 rc_40 rfl rfl rfl (by decide) (by simp only [List.map, vcat, List.sum_cons, List.sum_nil]; decide)) (CX12_isRefused v100 m) (fun x5 m4 => ?_)
  refine g_if_eq (tgt := 48) (kdX12_setOne 23 rfl) (by decide) (fun _ => ?_) (fun _ => ?_)
  · refine g_aload_n 0 (kdX12_setOne 26 rfl) rfl ?_
    refine g_calV (ck_V (As := []) (S := []) (t := 40) (o := 0) (kdX12_setOne 27 rfl) iX12_keep lX12_316 rc_40 rfl rfl rfl (by decide) (by simp only [List.map, vcat, List.sum_cons, List.sum_nil]; decide)) (CX12_keep m4) (fun m6 => ?_)
    refine g_aload_n 0 (kdX12_setOne 28 rfl) rfl ?_
    refine g_get (v := .inr (.inr (50, 0))) (kdX12_setOne 29 rfl) fX12_37 rfl ?_
    refine g_iload_n 1 (kdX12_setOne 30 rfl) rfl ?_
    refine g_iald (kdX12_setOne 31 rfl) (fun x7 => ?_)
    refine g_istore (L2 := [(4, .inl x7), (0, .inr (.inr (40, 0))), (1, .inl v1), (2, .inl v2)]) (kdX12_setOne 32 rfl) rfl (by decide) ?_
    refine g_aload_n 1 (kdX12_setOne 33 rfl) rfl ?_
    refine g_get (v := .inr (.inr (50, 0))) (kdX12_setOne 34 rfl) fX12_37 rfl ?_
    refine g_iload_n 2 (kdX12_setOne 35 rfl) rfl ?_
    refine g_iload_n 3 (kdX12_setOne 36 rfl) rfl ?_
    refine g_iast (kdX12_setOne 37 rfl) (fun m8 => ?_)
    refine g_iload 0 (kdX12_setOne 38 rfl) rfl ?_
    exact g_iret rfl (kdX12_setOne 39 rfl)
  · refine g_iconst (v := (-1)) (kdX12_setOne 24 rfl) (by decide) ?_
    exact g_iret rfl (kdX12_setOne 25 rfl)
def JX12_setOne (a1 : Int32) (a2 : Int32) (a3 : Int32) (m : hM) : hR :=
  if (m.1 40 0 15) = 0 then (JX12_setOne_40 a1 a2 0 m) else (calI (JX12_in a2 0 a3 m) fun x2 m1 =>
  if x2 = 0 then (JX12_setOne_40 a1 a2 1 m1) else (ald m1 50 0 a1 fun x3 =>
  if x3 = a2 then (JX12_setOne_40 a1 a2 2 m1) else (JX12_setOne_40 a1 a2 (-1) m1)))
set_option maxRecDepth 20000 in
theorem CX12_setOne (a1 : Int32) (a2 : Int32) (a3 : Int32) (m : hM) : Cn mX12_setOne 1 [.inr (.inr (40, 0)), .inl a1, .inl a2, .inl a3] m (JX12_setOne a1 a2 a3 m) := by
  refine cn_of (by decide +kernel) (by simp only [List.map, vcat, List.sum_cons, List.sum_nil]; decide) ?_
  unfold JX12_setOne
  show G mX12_setOne 1 0 [(0, .inr (.inr (40, 0))), (1, .inl a1), (2, .inl a2), (3, .inl a3)] [] m _
  refine g_aload_n 0 (kdX12_setOne 0 rfl) rfl ?_
  refine g_aload_n 0 (kdX12_setOne 1 rfl) rfl ?_
  refine g_get (v := .inl (m.1 40 0 15)) (kdX12_setOne 2 rfl) fX12_203 rfl ?_
  refine g_if_ne (tgt := 12) (kdX12_setOne 3 rfl) (by decide) (fun _ => ?_) (fun _ => ?_)
  · refine g_iload_n 2 (kdX12_setOne 6 rfl) rfl ?_
    refine g_iconst (v := 0) (kdX12_setOne 7 rfl) (by decide) ?_
    refine g_iload_n 3 (kdX12_setOne 8 rfl) rfl ?_
    refine g_calI (ck_S (As := [.inl a2, .inl 0, .inl a3]) (S := [.inr (.inr (40, 0))]) (kdX12_setOne 9 rfl) iX12_in lX12_89 rfl rfl rfl (by decide) (by simp only [List.map, vcat, List.sum_cons, List.sum_nil]; decide)) (CX12_in a2 0 a3 m) (fun x2 m1 => ?_)
    refine g_if_ne (tgt := 25) (kdX12_setOne 10 rfl) (by decide) (fun _ => ?_) (fun _ => ?_)
    · refine g_aload_n 0 (kdX12_setOne 13 rfl) rfl ?_
      refine g_get (v := .inr (.inr (50, 0))) (kdX12_setOne 14 rfl) fX12_37 rfl ?_
      refine g_iload_n 1 (kdX12_setOne 15 rfl) rfl ?_
      refine g_iald (kdX12_setOne 16 rfl) (fun x3 => ?_)
      refine g_iload_n 2 (kdX12_setOne 17 rfl) rfl ?_
      refine g_icmp_ne (tgt := 39) (kdX12_setOne 18 rfl) (by decide) (fun _ => ?_) (fun _ => ?_)
      · refine g_iconst (v := (-1)) (kdX12_setOne 21 rfl) (by decide) ?_
        exact g_fgt [0, 1, 2] rfl (BX12_setOne_40 a1 a2 (-1) m1)
      · refine g_iconst (v := 2) (kdX12_setOne 19 rfl) (by decide) ?_
        refine g_goto (tgt := 40) (kdX12_setOne 20 rfl) (by decide) ?_
        exact g_fgt [0, 1, 2] rfl (BX12_setOne_40 a1 a2 2 m1)
    · refine g_iconst (v := 1) (kdX12_setOne 11 rfl) (by decide) ?_
      refine g_goto (tgt := 40) (kdX12_setOne 12 rfl) (by decide) ?_
      exact g_fgt [0, 1, 2] rfl (BX12_setOne_40 a1 a2 1 m1)
  · refine g_iconst (v := 0) (kdX12_setOne 4 rfl) (by decide) ?_
    refine g_goto (tgt := 40) (kdX12_setOne 5 rfl) (by decide) ?_
    exact g_fgt [0, 1, 2] rfl (BX12_setOne_40 a1 a2 0 m)
def JX12_phase (a1 : Int32) (m : hM) : hR :=
  calI (JX12_setOne 14 a1 3 m) fun x2 m1 =>
  some (some (.inl x2), m1)
set_option maxRecDepth 20000 in
theorem CX12_phase (a1 : Int32) (m : hM) : Cn mX12_phase 2 [.inr (.inr (40, 0)), .inl a1] m (JX12_phase a1 m) := by
  refine cn_of (by decide +kernel) (by simp only [List.map, vcat, List.sum_cons, List.sum_nil]; decide) ?_
  unfold JX12_phase
  show G mX12_phase 2 0 [(0, .inr (.inr (40, 0))), (1, .inl a1)] [] m _
  refine g_aload_n 0 (kdX12_phase 0 rfl) rfl ?_
  refine g_bipush (v := 14) (kdX12_phase 1 rfl) (by decide) ?_
  refine g_iload_n 1 (kdX12_phase 2 rfl) rfl ?_
  refine g_iconst (v := 3) (kdX12_phase 3 rfl) (by decide) ?_
  refine g_calI (ck_V (As := [.inl 14, .inl a1, .inl 3]) (S := []) (t := 40) (o := 0) (kdX12_phase 4 rfl) iX12_setOne lX12_322 rc_40 rfl rfl rfl (by decide) (by simp only [List.map, vcat, List.sum_cons, List.sum_nil]; decide)) (CX12_setOne 14 a1 3 m) (fun x2 m1 => ?_)
  exact g_iret rfl (kdX12_phase 5 rfl)
def JX12_hold (a1 : Int32) (m : hM) : hR :=
  calI (JX12_setOne 16 a1 1 m) fun x2 m1 =>
  some (some (.inl x2), m1)
set_option maxRecDepth 20000 in
theorem CX12_hold (a1 : Int32) (m : hM) : Cn mX12_hold 2 [.inr (.inr (40, 0)), .inl a1] m (JX12_hold a1 m) := by
  refine cn_of (by decide +kernel) (by simp only [List.map, vcat, List.sum_cons, List.sum_nil]; decide) ?_
  unfold JX12_hold
  show G mX12_hold 2 0 [(0, .inr (.inr (40, 0))), (1, .inl a1)] [] m _
  refine g_aload_n 0 (kdX12_hold 0 rfl) rfl ?_
  refine g_bipush (v := 16) (kdX12_hold 1 rfl) (by decide) ?_
  refine g_iload_n 1 (kdX12_hold 2 rfl) rfl ?_
  refine g_iconst (v := 1) (kdX12_hold 3 rfl) (by decide) ?_
  refine g_calI (ck_V (As := [.inl 16, .inl a1, .inl 1]) (S := []) (t := 40) (o := 0) (kdX12_hold 4 rfl) iX12_setOne lX12_322 rc_40 rfl rfl rfl (by decide) (by simp only [List.map, vcat, List.sum_cons, List.sum_nil]; decide)) (CX12_setOne 16 a1 1 m) (fun x2 m1 => ?_)
  exact g_iret rfl (kdX12_hold 5 rfl)
def JX12_set_47 (v1 : Int32) (v2 : Int32) (v100 : Int32) (m : hM) : hR :=
  calI (JX12_isRefused v100 m) fun x7 m6 =>
  if x7 = 0 then (calV (JX12_keep m6) fun m8 =>
  ald m8 50 0 (0 + v1) fun x9 =>
  ast m8 50 0 (0 + v1) v2 fun m10 =>
  ast m10 50 0 (6 + v1) 0 fun m11 =>
  some (some (.inl x9), m11)) else (some (some (.inl (-1000000000)), m6))
set_option maxRecDepth 20000 in
theorem BX12_set_47 (v1 : Int32) (v2 : Int32) (v100 : Int32) (m : hM) : G mX12_set 2 47 [(0, .inr (.inr (40, 0))), (1, .inl v1), (2, .inl v2)] [.inl v100, .inr (.inr (40, 0))] m (JX12_set_47 v1 v2 v100 m) := by
  unfold JX12_set_47
  refine g_calI (ck_V (As := [.inl v100]) (S := []) (t := 40) (o := 0) (kdX12_set 25 rfl) iX12_isRefused lX12_313 rc_40 rfl rfl rfl (by decide) (by simp only [List.map, vcat, List.sum_cons, List.sum_nil]; decide)) (CX12_isRefused v100 m) (fun x7 m6 => ?_)
  refine g_if_eq (tgt := 56) (kdX12_set 26 rfl) (by decide) (fun _ => ?_) (fun _ => ?_)
  · refine g_aload_n 0 (kdX12_set 29 rfl) rfl ?_
    refine g_calV (ck_V (As := []) (S := []) (t := 40) (o := 0) (kdX12_set 30 rfl) iX12_keep lX12_316 rc_40 rfl rfl rfl (by decide) (by simp only [List.map, vcat, List.sum_cons, List.sum_nil]; decide)) (CX12_keep m6) (fun m8 => ?_)
    refine g_aload_n 0 (kdX12_set 31 rfl) rfl ?_
    refine g_get (v := .inr (.inr (50, 0))) (kdX12_set 32 rfl) fX12_37 rfl ?_
    refine g_iconst (v := 0) (kdX12_set 33 rfl) (by decide) ?_
    refine g_iload_n 1 (kdX12_set 34 rfl) rfl ?_
    refine g_iadd (kdX12_set 35 rfl) ?_
    refine g_iald (kdX12_set 36 rfl) (fun x9 => ?_)
    refine g_istore_n (L2 := [(3, .inl x9), (0, .inr (.inr (40, 0))), (1, .inl v1), (2, .inl v2)]) (kdX12_set 37 rfl) rfl (by decide) ?_
    refine g_aload_n 1 (kdX12_set 38 rfl) rfl ?_
    refine g_get (v := .inr (.inr (50, 0))) (kdX12_set 39 rfl) fX12_37 rfl ?_
    refine g_iconst (v := 0) (kdX12_set 40 rfl) (by decide) ?_
    refine g_iload_n 2 (kdX12_set 41 rfl) rfl ?_
    refine g_iadd (kdX12_set 42 rfl) ?_
    refine g_iload_n 3 (kdX12_set 43 rfl) rfl ?_
    refine g_iast (kdX12_set 44 rfl) (fun m10 => ?_)
    refine g_aload_n 1 (kdX12_set 45 rfl) rfl ?_
    refine g_get (v := .inr (.inr (50, 0))) (kdX12_set 46 rfl) fX12_37 rfl ?_
    refine g_bipush (v := 6) (kdX12_set 47 rfl) (by decide) ?_
    refine g_iload_n 2 (kdX12_set 48 rfl) rfl ?_
    refine g_iadd (kdX12_set 49 rfl) ?_
    refine g_iconst (v := 0) (kdX12_set 50 rfl) (by decide) ?_
    refine g_iast (kdX12_set 51 rfl) (fun m11 => ?_)
    refine g_iload_n 0 (kdX12_set 52 rfl) rfl ?_
    exact g_iret rfl (kdX12_set 53 rfl)
  · refine g_ldc (kdX12_set 27 rfl) cX12_50 ?_
    exact g_iret rfl (kdX12_set 28 rfl)
def JX12_set (a1 : Int32) (a2 : Int32) (m : hM) : hR :=
  calI (JX12_isTap a1 m) fun x2 m1 =>
  if x2 = 0 then (JX12_set_47 a1 a2 0 m1) else (calI (JX12_in a2 (-255) 255 m1) fun x4 m3 =>
  if x4 = 0 then (JX12_set_47 a1 a2 1 m3) else (ald m3 50 0 (0 + a1) fun x5 =>
  if x5 = a2 then (JX12_set_47 a1 a2 2 m3) else (JX12_set_47 a1 a2 (-1) m3)))
set_option maxRecDepth 20000 in
theorem CX12_set (a1 : Int32) (a2 : Int32) (m : hM) : Cn mX12_set 2 [.inr (.inr (40, 0)), .inl a1, .inl a2] m (JX12_set a1 a2 m) := by
  refine cn_of (by decide +kernel) (by simp only [List.map, vcat, List.sum_cons, List.sum_nil]; decide) ?_
  unfold JX12_set
  show G mX12_set 2 0 [(0, .inr (.inr (40, 0))), (1, .inl a1), (2, .inl a2)] [] m _
  refine g_aload_n 0 (kdX12_set 0 rfl) rfl ?_
  refine g_aload_n 0 (kdX12_set 1 rfl) rfl ?_
  refine g_iload_n 1 (kdX12_set 2 rfl) rfl ?_
  refine g_calI (ck_V (As := [.inl a1]) (S := [.inr (.inr (40, 0))]) (t := 40) (o := 0) (kdX12_set 3 rfl) iX12_isTap lX12_325 rc_40 rfl rfl rfl (by decide) (by simp only [List.map, vcat, List.sum_cons, List.sum_nil]; decide)) (CX12_isTap a1 m) (fun x2 m1 => ?_)
  refine g_if_ne (tgt := 13) (kdX12_set 4 rfl) (by decide) (fun _ => ?_) (fun _ => ?_)
  · refine g_iload_n 2 (kdX12_set 7 rfl) rfl ?_
    refine g_sipush (v := (-255)) (kdX12_set 8 rfl) (by decide) ?_
    refine g_sipush (v := 255) (kdX12_set 9 rfl) (by decide) ?_
    refine g_calI (ck_S (As := [.inl a2, .inl (-255), .inl 255]) (S := [.inr (.inr (40, 0))]) (kdX12_set 10 rfl) iX12_in lX12_89 rfl rfl rfl (by decide) (by simp only [List.map, vcat, List.sum_cons, List.sum_nil]; decide)) (CX12_in a2 (-255) 255 m1) (fun x4 m3 => ?_)
    refine g_if_ne (tgt := 30) (kdX12_set 11 rfl) (by decide) (fun _ => ?_) (fun _ => ?_)
    · refine g_aload_n 0 (kdX12_set 14 rfl) rfl ?_
      refine g_get (v := .inr (.inr (50, 0))) (kdX12_set 15 rfl) fX12_37 rfl ?_
      refine g_iconst (v := 0) (kdX12_set 16 rfl) (by decide) ?_
      refine g_iload_n 1 (kdX12_set 17 rfl) rfl ?_
      refine g_iadd (kdX12_set 18 rfl) ?_
      refine g_iald (kdX12_set 19 rfl) (fun x5 => ?_)
      refine g_iload_n 2 (kdX12_set 20 rfl) rfl ?_
      refine g_icmp_ne (tgt := 46) (kdX12_set 21 rfl) (by decide) (fun _ => ?_) (fun _ => ?_)
      · refine g_iconst (v := (-1)) (kdX12_set 24 rfl) (by decide) ?_
        exact g_fgt [0, 1, 2] rfl (BX12_set_47 a1 a2 (-1) m3)
      · refine g_iconst (v := 2) (kdX12_set 22 rfl) (by decide) ?_
        refine g_goto (tgt := 47) (kdX12_set 23 rfl) (by decide) ?_
        exact g_fgt [0, 1, 2] rfl (BX12_set_47 a1 a2 2 m3)
    · refine g_iconst (v := 1) (kdX12_set 12 rfl) (by decide) ?_
      refine g_goto (tgt := 47) (kdX12_set 13 rfl) (by decide) ?_
      exact g_fgt [0, 1, 2] rfl (BX12_set_47 a1 a2 1 m3)
  · refine g_iconst (v := 0) (kdX12_set 5 rfl) (by decide) ?_
    refine g_goto (tgt := 47) (kdX12_set 6 rfl) (by decide) ?_
    exact g_fgt [0, 1, 2] rfl (BX12_set_47 a1 a2 0 m1)
def JX12_drop_28 (v100 : Int32) (m : hM) : hR :=
  calI (JX12_isRefused v100 m) fun x3 m2 =>
  if x3 = 0 then (calV (JX12_keep m2) fun m4 =>
  ast m4 50 0 22 1 fun m5 =>
  ald m5 50 0 18 fun x6 =>
  some (some (.inl x6), m5)) else (some (some (.inl (-1)), m2))
set_option maxRecDepth 20000 in
theorem BX12_drop_28 (v100 : Int32) (m : hM) : G mX12_drop 1 28 [(0, .inr (.inr (40, 0)))] [.inl v100, .inr (.inr (40, 0))] m (JX12_drop_28 v100 m) := by
  unfold JX12_drop_28
  refine g_calI (ck_V (As := [.inl v100]) (S := []) (t := 40) (o := 0) (kdX12_drop 15 rfl) iX12_isRefused lX12_313 rc_40 rfl rfl rfl (by decide) (by simp only [List.map, vcat, List.sum_cons, List.sum_nil]; decide)) (CX12_isRefused v100 m) (fun x3 m2 => ?_)
  refine g_if_eq (tgt := 36) (kdX12_drop 16 rfl) (by decide) (fun _ => ?_) (fun _ => ?_)
  · refine g_aload_n 0 (kdX12_drop 19 rfl) rfl ?_
    refine g_calV (ck_V (As := []) (S := []) (t := 40) (o := 0) (kdX12_drop 20 rfl) iX12_keep lX12_316 rc_40 rfl rfl rfl (by decide) (by simp only [List.map, vcat, List.sum_cons, List.sum_nil]; decide)) (CX12_keep m2) (fun m4 => ?_)
    refine g_aload_n 0 (kdX12_drop 21 rfl) rfl ?_
    refine g_get (v := .inr (.inr (50, 0))) (kdX12_drop 22 rfl) fX12_37 rfl ?_
    refine g_bipush (v := 22) (kdX12_drop 23 rfl) (by decide) ?_
    refine g_iconst (v := 1) (kdX12_drop 24 rfl) (by decide) ?_
    refine g_iast (kdX12_drop 25 rfl) (fun m5 => ?_)
    refine g_aload_n 0 (kdX12_drop 26 rfl) rfl ?_
    refine g_get (v := .inr (.inr (50, 0))) (kdX12_drop 27 rfl) fX12_37 rfl ?_
    refine g_bipush (v := 18) (kdX12_drop 28 rfl) (by decide) ?_
    refine g_iald (kdX12_drop 29 rfl) (fun x6 => ?_)
    exact g_iret rfl (kdX12_drop 30 rfl)
  · refine g_iconst (v := (-1)) (kdX12_drop 17 rfl) (by decide) ?_
    exact g_iret rfl (kdX12_drop 18 rfl)
def JX12_drop  (m : hM) : hR :=
  if (m.1 40 0 15) = 0 then (JX12_drop_28 0 m) else (ald m 50 0 22 fun x1 =>
  if x1 = 1 then (JX12_drop_28 2 m) else (JX12_drop_28 (-1) m))
set_option maxRecDepth 20000 in
theorem CX12_drop  (m : hM) : Cn mX12_drop 1 [.inr (.inr (40, 0))] m (JX12_drop  m) := by
  refine cn_of (by decide +kernel) (by simp only [List.map, vcat, List.sum_cons, List.sum_nil]; decide) ?_
  unfold JX12_drop
  show G mX12_drop 1 0 [(0, .inr (.inr (40, 0)))] [] m _
  refine g_aload_n 0 (kdX12_drop 0 rfl) rfl ?_
  refine g_aload_n 0 (kdX12_drop 1 rfl) rfl ?_
  refine g_get (v := .inl (m.1 40 0 15)) (kdX12_drop 2 rfl) fX12_203 rfl ?_
  refine g_if_ne (tgt := 12) (kdX12_drop 3 rfl) (by decide) (fun _ => ?_) (fun _ => ?_)
  · refine g_aload_n 0 (kdX12_drop 6 rfl) rfl ?_
    refine g_get (v := .inr (.inr (50, 0))) (kdX12_drop 7 rfl) fX12_37 rfl ?_
    refine g_bipush (v := 22) (kdX12_drop 8 rfl) (by decide) ?_
    refine g_iald (kdX12_drop 9 rfl) (fun x1 => ?_)
    refine g_iconst (v := 1) (kdX12_drop 10 rfl) (by decide) ?_
    refine g_icmp_ne (tgt := 27) (kdX12_drop 11 rfl) (by decide) (fun _ => ?_) (fun _ => ?_)
    · refine g_iconst (v := (-1)) (kdX12_drop 14 rfl) (by decide) ?_
      exact g_fgt [0] rfl (BX12_drop_28 (-1) m)
    · refine g_iconst (v := 2) (kdX12_drop 12 rfl) (by decide) ?_
      refine g_goto (tgt := 28) (kdX12_drop 13 rfl) (by decide) ?_
      exact g_fgt [0] rfl (BX12_drop_28 2 m)
  · refine g_iconst (v := 0) (kdX12_drop 4 rfl) (by decide) ?_
    refine g_goto (tgt := 28) (kdX12_drop 5 rfl) (by decide) ?_
    exact g_fgt [0] rfl (BX12_drop_28 0 m)
def JX12_change_53 (v100 : Int32) (v101 : Int32) (v102 : Int32) (m : hM) : hR :=
  calI (JX12_setOne v102 v101 v100 m) fun x2 m1 =>
  some (some (.inl x2), m1)
set_option maxRecDepth 20000 in
theorem BX12_change_53 (v100 : Int32) (v101 : Int32) (v102 : Int32) (m : hM) : G mX12_change 2 53 [] [.inl v100, .inl v101, .inl v102, .inr (.inr (40, 0))] m (JX12_change_53 v100 v101 v102 m) := by
  unfold JX12_change_53
  refine g_calI (ck_V (As := [.inl v102, .inl v101, .inl v100]) (S := []) (t := 40) (o := 0) (kdX12_change 32 rfl) iX12_setOne lX12_322 rc_40 rfl rfl rfl (by decide) (by simp only [List.map, vcat, List.sum_cons, List.sum_nil]; decide)) (CX12_setOne v102 v101 v100 m) (fun x2 m1 => ?_)
  exact g_iret rfl (kdX12_change 33 rfl)
def JX12_change_41 (v1 : Int32) (v2 : Int32) (v100 : Int32) (m : hM) : hR :=
  if v1 = 1 then (JX12_change_53 99 v2 v100 m) else (JX12_change_53 4 v2 v100 m)
set_option maxRecDepth 20000 in
theorem BX12_change_41 (v1 : Int32) (v2 : Int32) (v100 : Int32) (m : hM) : G mX12_change 2 41 [(1, .inl v1), (2, .inl v2)] [.inl v100, .inr (.inr (40, 0))] m (JX12_change_41 v1 v2 v100 m) := by
  unfold JX12_change_41
  refine g_iload_n 1 (kdX12_change 25 rfl) rfl ?_
  refine g_iload_n 0 (kdX12_change 26 rfl) rfl ?_
  refine g_iconst (v := 1) (kdX12_change 27 rfl) (by decide) ?_
  refine g_icmp_ne (tgt := 52) (kdX12_change 28 rfl) (by decide) (fun _ => ?_) (fun _ => ?_)
  · refine g_iconst (v := 4) (kdX12_change 31 rfl) (by decide) ?_
    exact g_fgt [] rfl (BX12_change_53 4 v2 v100 m)
  · refine g_bipush (v := 99) (kdX12_change 29 rfl) (by decide) ?_
    refine g_goto (tgt := 53) (kdX12_change 30 rfl) (by decide) ?_
    exact g_fgt [] rfl (BX12_change_53 99 v2 v100 m)
def JX12_change_28 (v1 : Int32) (v2 : Int32) (m : hM) : hR :=
  if v1 = 1 then (JX12_change_41 v1 v2 19 m) else (JX12_change_41 v1 v2 20 m)
set_option maxRecDepth 20000 in
theorem BX12_change_28 (v1 : Int32) (v2 : Int32) (m : hM) : G mX12_change 2 28 [(0, .inr (.inr (40, 0))), (1, .inl v1), (2, .inl v2)] [] m (JX12_change_28 v1 v2 m) := by
  unfold JX12_change_28
  refine g_aload_n 0 (kdX12_change 18 rfl) rfl ?_
  refine g_iload_n 1 (kdX12_change 19 rfl) rfl ?_
  refine g_iconst (v := 1) (kdX12_change 20 rfl) (by decide) ?_
  refine g_icmp_ne (tgt := 39) (kdX12_change 21 rfl) (by decide) (fun _ => ?_) (fun _ => ?_)
  · refine g_bipush (v := 20) (kdX12_change 24 rfl) (by decide) ?_
    exact g_fgt [1, 2] rfl (BX12_change_41 v1 v2 20 m)
  · refine g_bipush (v := 19) (kdX12_change 22 rfl) (by decide) ?_
    refine g_goto (tgt := 41) (kdX12_change 23 rfl) (by decide) ?_
    exact g_fgt [1, 2] rfl (BX12_change_41 v1 v2 19 m)
def JX12_change (a1 : Int32) (a2 : Int32) (m : hM) : hR :=
  if (m.1 40 0 15) = 0 then (JX12_change_28 a1 a2 m) else (calI (JX12_in a1 0 1 m) fun x4 m3 =>
  if x4 = 0 then (ald m3 51 0 1 fun x5 =>
  ast m3 51 0 1 (x5 + 1) fun m6 =>
  some (some (.inl (-1)), m6)) else (JX12_change_28 a1 a2 m3))
set_option maxRecDepth 20000 in
theorem CX12_change (a1 : Int32) (a2 : Int32) (m : hM) : Cn mX12_change 2 [.inr (.inr (40, 0)), .inl a1, .inl a2] m (JX12_change a1 a2 m) := by
  refine cn_of (by decide +kernel) (by simp only [List.map, vcat, List.sum_cons, List.sum_nil]; decide) ?_
  unfold JX12_change
  show G mX12_change 2 0 [(0, .inr (.inr (40, 0))), (1, .inl a1), (2, .inl a2)] [] m _
  refine g_aload_n 0 (kdX12_change 0 rfl) rfl ?_
  refine g_get (v := .inl (m.1 40 0 15)) (kdX12_change 1 rfl) fX12_203 rfl ?_
  refine g_if_eq (tgt := 28) (kdX12_change 2 rfl) (by decide) (fun _ => ?_) (fun _ => ?_)
  · exact g_fgt [0, 1, 2] rfl (BX12_change_28 a1 a2 m)
  · refine g_iload_n 1 (kdX12_change 3 rfl) rfl ?_
    refine g_iconst (v := 0) (kdX12_change 4 rfl) (by decide) ?_
    refine g_iconst (v := 1) (kdX12_change 5 rfl) (by decide) ?_
    refine g_calI (ck_S (As := [.inl a1, .inl 0, .inl 1]) (S := []) (kdX12_change 6 rfl) iX12_in lX12_89 rfl rfl rfl (by decide) (by simp only [List.map, vcat, List.sum_cons, List.sum_nil]; decide)) (CX12_in a1 0 1 m) (fun x4 m3 => ?_)
    refine g_if_ne (tgt := 28) (kdX12_change 7 rfl) (by decide) (fun _ => ?_) (fun _ => ?_)
    · exact g_fgt [0, 1, 2] rfl (BX12_change_28 a1 a2 m3)
    · refine g_aload_n 0 (kdX12_change 8 rfl) rfl ?_
      refine g_get (v := .inr (.inr (51, 0))) (kdX12_change 9 rfl) fX12_40 rfl ?_
      refine g_iconst (v := 1) (kdX12_change 10 rfl) (by decide) ?_
      refine g_dup2 (kdX12_change 11 rfl) rfl rfl ?_
      refine g_iald (kdX12_change 12 rfl) (fun x5 => ?_)
      refine g_iconst (v := 1) (kdX12_change 13 rfl) (by decide) ?_
      refine g_iadd (kdX12_change 14 rfl) ?_
      refine g_iast (kdX12_change 15 rfl) (fun m6 => ?_)
      refine g_iconst (v := (-1)) (kdX12_change 16 rfl) (by decide) ?_
      exact g_iret rfl (kdX12_change 17 rfl)
def JX12_dice_13 (v1 : Int64) (v100 : Int32) (m : hM) : hR :=
  calI (JX12_isRefused v100 m) fun x2 m1 =>
  if x2 = 0 then (calV (JX12_keep m1) fun m3 =>
  ast m3 50 0 49 ((v1 >>> ((32 : Int32).toInt64 &&& 63)).toInt32) fun m4 =>
  ast m4 50 0 50 v1.toInt32 fun m5 =>
  ald m5 50 0 18 fun x6 =>
  some (some (.inl x6), m5)) else (some (some (.inl (-1)), m1))
set_option maxRecDepth 20000 in
theorem BX12_dice_13 (v1 : Int64) (v100 : Int32) (m : hM) : G mX12_dice 1 13 [(0, .inr (.inr (40, 0))), (1, .inr (.inl v1))] [.inl v100, .inr (.inr (40, 0))] m (JX12_dice_13 v1 v100 m) := by
  unfold JX12_dice_13
  refine g_calI (ck_V (As := [.inl v100]) (S := []) (t := 40) (o := 0) (kdX12_dice 7 rfl) iX12_isRefused lX12_313 rc_40 rfl rfl rfl (by decide) (by simp only [List.map, vcat, List.sum_cons, List.sum_nil]; decide)) (CX12_isRefused v100 m) (fun x2 m1 => ?_)
  refine g_if_eq (tgt := 21) (kdX12_dice 8 rfl) (by decide) (fun _ => ?_) (fun _ => ?_)
  · refine g_aload_n 0 (kdX12_dice 11 rfl) rfl ?_
    refine g_calV (ck_V (As := []) (S := []) (t := 40) (o := 0) (kdX12_dice 12 rfl) iX12_keep lX12_316 rc_40 rfl rfl rfl (by decide) (by simp only [List.map, vcat, List.sum_cons, List.sum_nil]; decide)) (CX12_keep m1) (fun m3 => ?_)
    refine g_aload_n 0 (kdX12_dice 13 rfl) rfl ?_
    refine g_get (v := .inr (.inr (50, 0))) (kdX12_dice 14 rfl) fX12_37 rfl ?_
    refine g_bipush (v := 49) (kdX12_dice 15 rfl) (by decide) ?_
    refine g_lload_n 1 (kdX12_dice 16 rfl) rfl ?_
    refine g_bipush (v := 32) (kdX12_dice 17 rfl) (by decide) ?_
    refine g_lshr (kdX12_dice 18 rfl) ?_
    refine g_l2i (kdX12_dice 19 rfl) ?_
    refine g_iast (kdX12_dice 20 rfl) (fun m4 => ?_)
    refine g_aload_n 0 (kdX12_dice 21 rfl) rfl ?_
    refine g_get (v := .inr (.inr (50, 0))) (kdX12_dice 22 rfl) fX12_37 rfl ?_
    refine g_bipush (v := 50) (kdX12_dice 23 rfl) (by decide) ?_
    refine g_lload_n 1 (kdX12_dice 24 rfl) rfl ?_
    refine g_l2i (kdX12_dice 25 rfl) ?_
    refine g_iast (kdX12_dice 26 rfl) (fun m5 => ?_)
    refine g_aload_n 0 (kdX12_dice 27 rfl) rfl ?_
    refine g_get (v := .inr (.inr (50, 0))) (kdX12_dice 28 rfl) fX12_37 rfl ?_
    refine g_bipush (v := 18) (kdX12_dice 29 rfl) (by decide) ?_
    refine g_iald (kdX12_dice 30 rfl) (fun x6 => ?_)
    exact g_iret rfl (kdX12_dice 31 rfl)
  · refine g_iconst (v := (-1)) (kdX12_dice 9 rfl) (by decide) ?_
    exact g_iret rfl (kdX12_dice 10 rfl)
def JX12_dice (a1 : Int64) (m : hM) : hR :=
  if (m.1 40 0 15) = 0 then (JX12_dice_13 a1 0 m) else (JX12_dice_13 a1 (-1) m)
set_option maxRecDepth 20000 in
theorem CX12_dice (a1 : Int64) (m : hM) : Cn mX12_dice 1 [.inr (.inr (40, 0)), .inr (.inl a1)] m (JX12_dice a1 m) := by
  refine cn_of (by decide +kernel) (by simp only [List.map, vcat, List.sum_cons, List.sum_nil]; decide) ?_
  unfold JX12_dice
  show G mX12_dice 1 0 [(0, .inr (.inr (40, 0))), (1, .inr (.inl a1))] [] m _
  refine g_aload_n 0 (kdX12_dice 0 rfl) rfl ?_
  refine g_aload_n 0 (kdX12_dice 1 rfl) rfl ?_
  refine g_get (v := .inl (m.1 40 0 15)) (kdX12_dice 2 rfl) fX12_203 rfl ?_
  refine g_if_ne (tgt := 12) (kdX12_dice 3 rfl) (by decide) (fun _ => ?_) (fun _ => ?_)
  · refine g_iconst (v := (-1)) (kdX12_dice 6 rfl) (by decide) ?_
    exact g_fgt [0, 1] rfl (BX12_dice_13 a1 (-1) m)
  · refine g_iconst (v := 0) (kdX12_dice 4 rfl) (by decide) ?_
    refine g_goto (tgt := 13) (kdX12_dice 5 rfl) (by decide) ?_
    exact g_fgt [0, 1] rfl (BX12_dice_13 a1 0 m)
def JX12_seek_32 (v100 : Int32) (m : hM) : hR :=
  calI (JX12_isRefused v100 m) fun x5 m4 =>
  if x5 = 0 then (calV (JX12_keep m4) fun m6 =>
  calV (JX12_seekNow m6) fun m7 =>
  ald m7 50 0 14 fun x8 =>
  some (some (.inl x8), m7)) else (some (some (.inl (-1)), m4))
set_option maxRecDepth 20000 in
theorem BX12_seek_32 (v100 : Int32) (m : hM) : G mX12_seek 6 32 [(0, .inr (.inr (40, 0)))] [.inl v100, .inr (.inr (40, 0))] m (JX12_seek_32 v100 m) := by
  unfold JX12_seek_32
  refine g_calI (ck_V (As := [.inl v100]) (S := []) (t := 40) (o := 0) (kdX12_seek 17 rfl) iX12_isRefused lX12_313 rc_40 rfl rfl rfl (by decide) (by simp only [List.map, vcat, List.sum_cons, List.sum_nil]; decide)) (CX12_isRefused v100 m) (fun x5 m4 => ?_)
  refine g_if_eq (tgt := 40) (kdX12_seek 18 rfl) (by decide) (fun _ => ?_) (fun _ => ?_)
  · refine g_aload_n 0 (kdX12_seek 21 rfl) rfl ?_
    refine g_calV (ck_V (As := []) (S := []) (t := 40) (o := 0) (kdX12_seek 22 rfl) iX12_keep lX12_316 rc_40 rfl rfl rfl (by decide) (by simp only [List.map, vcat, List.sum_cons, List.sum_nil]; decide)) (CX12_keep m4) (fun m6 => ?_)
    refine g_aload_n 0 (kdX12_seek 23 rfl) rfl ?_
    refine g_calV (ck_V (As := []) (S := []) (t := 40) (o := 0) (kdX12_seek 24 rfl) iX12_seekNow lX12_328 rc_40 rfl rfl rfl (by decide) (by simp only [List.map, vcat, List.sum_cons, List.sum_nil]; decide)) (CX12_seekNow m6) (fun m7 => ?_)
    refine g_aload_n 0 (kdX12_seek 25 rfl) rfl ?_
    refine g_get (v := .inr (.inr (50, 0))) (kdX12_seek 26 rfl) fX12_37 rfl ?_
    refine g_bipush (v := 14) (kdX12_seek 27 rfl) (by decide) ?_
    refine g_iald (kdX12_seek 28 rfl) (fun x8 => ?_)
    exact g_iret rfl (kdX12_seek 29 rfl)
  · refine g_iconst (v := (-1)) (kdX12_seek 19 rfl) (by decide) ?_
    exact g_iret rfl (kdX12_seek 20 rfl)
def JX12_seek  (m : hM) : hR :=
  if (m.1 40 0 15) = 0 then (JX12_seek_32 0 m) else (ald m 50 0 14 fun x1 =>
  calI (JX12_better x1 m) fun x3 m2 =>
  if x3 = (-1) then (JX12_seek_32 2 m2) else (JX12_seek_32 (-1) m2))
set_option maxRecDepth 20000 in
theorem CX12_seek  (m : hM) : Cn mX12_seek 6 [.inr (.inr (40, 0))] m (JX12_seek  m) := by
  refine cn_of (by decide +kernel) (by simp only [List.map, vcat, List.sum_cons, List.sum_nil]; decide) ?_
  unfold JX12_seek
  show G mX12_seek 6 0 [(0, .inr (.inr (40, 0)))] [] m _
  refine g_aload_n 0 (kdX12_seek 0 rfl) rfl ?_
  refine g_aload_n 0 (kdX12_seek 1 rfl) rfl ?_
  refine g_get (v := .inl (m.1 40 0 15)) (kdX12_seek 2 rfl) fX12_203 rfl ?_
  refine g_if_ne (tgt := 12) (kdX12_seek 3 rfl) (by decide) (fun _ => ?_) (fun _ => ?_)
  · refine g_aload_n 0 (kdX12_seek 6 rfl) rfl ?_
    refine g_aload_n 0 (kdX12_seek 7 rfl) rfl ?_
    refine g_get (v := .inr (.inr (50, 0))) (kdX12_seek 8 rfl) fX12_37 rfl ?_
    refine g_bipush (v := 14) (kdX12_seek 9 rfl) (by decide) ?_
    refine g_iald (kdX12_seek 10 rfl) (fun x1 => ?_)
    refine g_calI (ck_V (As := [.inl x1]) (S := [.inr (.inr (40, 0))]) (t := 40) (o := 0) (kdX12_seek 11 rfl) iX12_better lX12_310 rc_40 rfl rfl rfl (by decide) (by simp only [List.map, vcat, List.sum_cons, List.sum_nil]; decide)) (CX12_better x1 m) (fun x3 m2 => ?_)
    refine g_iconst (v := (-1)) (kdX12_seek 12 rfl) (by decide) ?_
    refine g_icmp_ne (tgt := 31) (kdX12_seek 13 rfl) (by decide) (fun _ => ?_) (fun _ => ?_)
    · refine g_iconst (v := (-1)) (kdX12_seek 16 rfl) (by decide) ?_
      exact g_fgt [0] rfl (BX12_seek_32 (-1) m2)
    · refine g_iconst (v := 2) (kdX12_seek 14 rfl) (by decide) ?_
      refine g_goto (tgt := 32) (kdX12_seek 15 rfl) (by decide) ?_
      exact g_fgt [0] rfl (BX12_seek_32 2 m2)
  · refine g_iconst (v := 0) (kdX12_seek 4 rfl) (by decide) ?_
    refine g_goto (tgt := 32) (kdX12_seek 5 rfl) (by decide) ?_
    exact g_fgt [0] rfl (BX12_seek_32 0 m)
def JX12_risk (a1 : Int32) (m : hM) : hR :=
  calI (JX12_in a1 0 9 m) fun x2 m1 =>
  if x2 = 0 then (jretZ 0 m1) else (if a1 = (m1.1 40 0 21) then (jretZ 0 m1) else (stI m1 40 0 21 a1 fun m3 =>
  jretZ 1 m3))
set_option maxRecDepth 20000 in
theorem CX12_risk (a1 : Int32) (m : hM) : Cn mX12_risk 1 [.inr (.inr (40, 0)), .inl a1] m (JX12_risk a1 m) := by
  refine cn_of (by decide +kernel) (by simp only [List.map, vcat, List.sum_cons, List.sum_nil]; decide) ?_
  unfold JX12_risk
  show G mX12_risk 1 0 [(0, .inr (.inr (40, 0))), (1, .inl a1)] [] m _
  refine g_iload_n 1 (kdX12_risk 0 rfl) rfl ?_
  refine g_iconst (v := 0) (kdX12_risk 1 rfl) (by decide) ?_
  refine g_bipush (v := 9) (kdX12_risk 2 rfl) (by decide) ?_
  refine g_calI (ck_S (As := [.inl a1, .inl 0, .inl 9]) (S := []) (kdX12_risk 3 rfl) iX12_in lX12_89 rfl rfl rfl (by decide) (by simp only [List.map, vcat, List.sum_cons, List.sum_nil]; decide)) (CX12_in a1 0 9 m) (fun x2 m1 => ?_)
  refine g_if_eq (tgt := 18) (kdX12_risk 4 rfl) (by decide) (fun _ => ?_) (fun _ => ?_)
  · refine g_iconst (v := 0) (kdX12_risk 9 rfl) (by decide) ?_
    exact g_zret rfl (kdX12_risk 10 rfl)
  · refine g_iload_n 1 (kdX12_risk 5 rfl) rfl ?_
    refine g_aload_n 0 (kdX12_risk 6 rfl) rfl ?_
    refine g_get (v := .inl (m1.1 40 0 21)) (kdX12_risk 7 rfl) fX12_43 rfl ?_
    refine g_icmp_ne (tgt := 20) (kdX12_risk 8 rfl) (by decide) (fun _ => ?_) (fun _ => ?_)
    · refine g_aload_n 0 (kdX12_risk 11 rfl) rfl ?_
      refine g_iload_n 1 (kdX12_risk 12 rfl) rfl ?_
      refine g_putI (kdX12_risk 13 rfl) fX12_43 rfl (fun m3 => ?_)
      refine g_iconst (v := 1) (kdX12_risk 14 rfl) (by decide) ?_
      exact g_zret rfl (kdX12_risk 15 rfl)
    · refine g_iconst (v := 0) (kdX12_risk 9 rfl) (by decide) ?_
      exact g_zret rfl (kdX12_risk 10 rfl)
def JX12_draw (a1 : Int32) (m : hM) : hR :=
  stL m 40 0 29 (((m.2 40 0 29) * 6364136223846793005) + 1442695040888963407) fun m1 =>
  jlrem (jlushr (m1.2 40 0 29) (33 : Int32)) a1.toInt64 fun x2 =>
  some (some (.inl x2.toInt32), m1)
set_option maxRecDepth 20000 in
theorem CX12_draw (a1 : Int32) (m : hM) : Cn mX12_draw 0 [.inr (.inr (40, 0)), .inl a1] m (JX12_draw a1 m) := by
  refine cn_of (by decide +kernel) (by simp only [List.map, vcat, List.sum_cons, List.sum_nil]; decide) ?_
  unfold JX12_draw
  show G mX12_draw 0 0 [(0, .inr (.inr (40, 0))), (1, .inl a1)] [] m _
  refine g_aload_n 0 (kdX12_draw 0 rfl) rfl ?_
  refine g_aload_n 0 (kdX12_draw 1 rfl) rfl ?_
  refine g_get (v := .inr (.inl (m.2 40 0 29))) (kdX12_draw 2 rfl) fX12_331 rfl ?_
  refine g_ldc2 (kdX12_draw 3 rfl) cX12_224 ?_
  refine g_lmul (kdX12_draw 4 rfl) ?_
  refine g_ldc2 (kdX12_draw 5 rfl) cX12_226 ?_
  refine g_ladd (kdX12_draw 6 rfl) ?_
  refine g_putL (kdX12_draw 7 rfl) fX12_331 rfl (fun m1 => ?_)
  refine g_aload_n 0 (kdX12_draw 8 rfl) rfl ?_
  refine g_get (v := .inr (.inl (m1.2 40 0 29))) (kdX12_draw 9 rfl) fX12_331 rfl ?_
  refine g_bipush (v := 33) (kdX12_draw 10 rfl) (by decide) ?_
  refine g_lushr (kdX12_draw 11 rfl) ?_
  refine g_iload_n 1 (kdX12_draw 12 rfl) rfl ?_
  refine g_i2l (kdX12_draw 13 rfl) ?_
  refine g_lremx (kdX12_draw 14 rfl) (fun x2 => ?_)
  refine g_l2i (kdX12_draw 15 rfl) ?_
  exact g_iret rfl (kdX12_draw 16 rfl)
def JX12_drawYear_101 (m : hM) : hR :=
  calI (JX12_draw 8 m) fun x4 m3 =>
  lt (x4 + 1) fun x5 =>
  ald m3 50 0 18 fun x6 =>
  calI (JJ9_min_7cf53 x5 (9999 - x6) m3) fun x8 m7 =>
  calI (JX12_symbols x8 m7) fun x10 m9 =>
  some (none, m9)
set_option maxRecDepth 20000 in
theorem BX12_drawYear_101 (m : hM) : G mX12_drawYear 5 101 [(0, .inr (.inr (40, 0)))] [] m (JX12_drawYear_101 m) := by
  unfold JX12_drawYear_101
  refine g_aload_n 0 (kdX12_drawYear 42 rfl) rfl ?_
  refine g_bipush (v := 8) (kdX12_drawYear 43 rfl) (by decide) ?_
  refine g_calI (ck_V (As := [.inl 8]) (S := []) (t := 40) (o := 0) (kdX12_drawYear 44 rfl) iX12_draw lX12_334 rc_40 rfl rfl rfl (by decide) (by simp only [List.map, vcat, List.sum_cons, List.sum_nil]; decide)) (CX12_draw 8 m) (fun x4 m3 => ?_)
  refine g_iconst (v := 1) (kdX12_drawYear 45 rfl) (by decide) ?_
  refine g_iadd (kdX12_drawYear 46 rfl) ?_
  refine g_lt (fun x5 => ?_)
  refine g_istore_n (L2 := [(1, .inl x5), (0, .inr (.inr (40, 0)))]) (kdX12_drawYear 47 rfl) rfl (by decide) ?_
  refine g_aload_n 1 (kdX12_drawYear 48 rfl) rfl ?_
  refine g_iload_n 0 (kdX12_drawYear 49 rfl) rfl ?_
  refine g_sipush (v := 9999) (kdX12_drawYear 50 rfl) (by decide) ?_
  refine g_aload_n 1 (kdX12_drawYear 51 rfl) rfl ?_
  refine g_get (v := .inr (.inr (50, 0))) (kdX12_drawYear 52 rfl) fX12_37 rfl ?_
  refine g_bipush (v := 18) (kdX12_drawYear 53 rfl) (by decide) ?_
  refine g_iald (kdX12_drawYear 54 rfl) (fun x6 => ?_)
  refine g_isub (kdX12_drawYear 55 rfl) ?_
  refine g_calI (ck_S (As := [.inl x5, .inl (9999 - x6)]) (S := [.inr (.inr (40, 0))]) (kdX12_drawYear 56 rfl) iJ9_min_7cf53 lX12_234 rfl rfl rfl (by decide) (by simp only [List.map, vcat, List.sum_cons, List.sum_nil]; decide)) (CJ9_min_7cf53 x5 (9999 - x6) m3) (fun x8 m7 => ?_)
  refine g_calI (ck_V (As := [.inl x8]) (S := []) (t := 40) (o := 0) (kdX12_drawYear 57 rfl) iX12_symbols lX12_319 rc_40 rfl rfl rfl (by decide) (by simp only [List.map, vcat, List.sum_cons, List.sum_nil]; decide)) (CX12_symbols x8 m7) (fun x10 m9 => ?_)
  refine g_pop (kdX12_drawYear 58 rfl) rfl ?_
  exact g_vret rfl (kdX12_drawYear 59 rfl)
def JX12_drawYear  (m : hM) : hR :=
  calI (JX12_draw 10 m) fun x2 m1 =>
  if (m1.1 40 0 21) ≤ x2 then (JX12_drawYear_101 m1) else (calI (JX12_draw 4 m1) fun x12 m11 =>
  swL x12 [(0, ast m11 50 0 22 1 fun m13 =>
  JX12_drawYear_101 m13), (1, calI (JX12_draw 4 m11) fun x15 m14 =>
  ast m14 50 0 14 x15 fun m16 =>
  JX12_drawYear_101 m16), (2, calI (JX12_draw 5 m11) fun x18 m17 =>
  ast m17 50 0 20 x18 fun m19 =>
  JX12_drawYear_101 m19)] (ald m11 50 0 16 fun x20 =>
  ast m11 50 0 16 (1 - x20) fun m21 =>
  JX12_drawYear_101 m21))
set_option maxRecDepth 20000 in
theorem CX12_drawYear  (m : hM) : Cn mX12_drawYear 5 [.inr (.inr (40, 0))] m (JX12_drawYear  m) := by
  refine cn_of (by decide +kernel) (by simp only [List.map, vcat, List.sum_cons, List.sum_nil]; decide) ?_
  unfold JX12_drawYear
  show G mX12_drawYear 5 0 [(0, .inr (.inr (40, 0)))] [] m _
  refine g_aload_n 0 (kdX12_drawYear 0 rfl) rfl ?_
  refine g_bipush (v := 10) (kdX12_drawYear 1 rfl) (by decide) ?_
  refine g_calI (ck_V (As := [.inl 10]) (S := []) (t := 40) (o := 0) (kdX12_drawYear 2 rfl) iX12_draw lX12_334 rc_40 rfl rfl rfl (by decide) (by simp only [List.map, vcat, List.sum_cons, List.sum_nil]; decide)) (CX12_draw 10 m) (fun x2 m1 => ?_)
  refine g_aload_n 0 (kdX12_drawYear 3 rfl) rfl ?_
  refine g_get (v := .inl (m1.1 40 0 21)) (kdX12_drawYear 4 rfl) fX12_43 rfl ?_
  refine g_icmp_ge (tgt := 101) (kdX12_drawYear 5 rfl) (by decide) (fun _ => ?_) (fun _ => ?_)
  · exact g_fgt [0] rfl (BX12_drawYear_101 m1)
  · refine g_aload_n 0 (kdX12_drawYear 6 rfl) rfl ?_
    refine g_iconst (v := 4) (kdX12_drawYear 7 rfl) (by decide) ?_
    refine g_calI (ck_V (As := [.inl 4]) (S := []) (t := 40) (o := 0) (kdX12_drawYear 8 rfl) iX12_draw lX12_334 rc_40 rfl rfl rfl (by decide) (by simp only [List.map, vcat, List.sum_cons, List.sum_nil]; decide)) (CX12_draw 4 m1) (fun x12 m11 => ?_)
    refine g_table (offs := [26, 37, 52]) (dt := 85) (kdX12_drawYear 9 rfl) (by simp only [swK]; decide) rfl (by decide) ⟨⟨44, by decide, ?_⟩, ⟨55, by decide, ?_⟩, ⟨70, by decide, ?_⟩, trivial⟩ ?_
    · refine g_aload_n 0 (kdX12_drawYear 10 rfl) rfl ?_
      refine g_get (v := .inr (.inr (50, 0))) (kdX12_drawYear 11 rfl) fX12_37 rfl ?_
      refine g_bipush (v := 22) (kdX12_drawYear 12 rfl) (by decide) ?_
      refine g_iconst (v := 1) (kdX12_drawYear 13 rfl) (by decide) ?_
      refine g_iast (kdX12_drawYear 14 rfl) (fun m13 => ?_)
      refine g_goto (tgt := 101) (kdX12_drawYear 15 rfl) (by decide) ?_
      exact g_fgt [0] rfl (BX12_drawYear_101 m13)
    · refine g_aload_n 0 (kdX12_drawYear 16 rfl) rfl ?_
      refine g_get (v := .inr (.inr (50, 0))) (kdX12_drawYear 17 rfl) fX12_37 rfl ?_
      refine g_bipush (v := 14) (kdX12_drawYear 18 rfl) (by decide) ?_
      refine g_aload_n 0 (kdX12_drawYear 19 rfl) rfl ?_
      refine g_iconst (v := 4) (kdX12_drawYear 20 rfl) (by decide) ?_
      refine g_calI (ck_V (As := [.inl 4]) (S := [.inl 14, .inr (.inr (50, 0))]) (t := 40) (o := 0) (kdX12_drawYear 21 rfl) iX12_draw lX12_334 rc_40 rfl rfl rfl (by decide) (by simp only [List.map, vcat, List.sum_cons, List.sum_nil]; decide)) (CX12_draw 4 m11) (fun x15 m14 => ?_)
      refine g_iast (kdX12_drawYear 22 rfl) (fun m16 => ?_)
      refine g_goto (tgt := 101) (kdX12_drawYear 23 rfl) (by decide) ?_
      exact g_fgt [0] rfl (BX12_drawYear_101 m16)
    · refine g_aload_n 0 (kdX12_drawYear 24 rfl) rfl ?_
      refine g_get (v := .inr (.inr (50, 0))) (kdX12_drawYear 25 rfl) fX12_37 rfl ?_
      refine g_bipush (v := 20) (kdX12_drawYear 26 rfl) (by decide) ?_
      refine g_aload_n 0 (kdX12_drawYear 27 rfl) rfl ?_
      refine g_iconst (v := 5) (kdX12_drawYear 28 rfl) (by decide) ?_
      refine g_calI (ck_V (As := [.inl 5]) (S := [.inl 20, .inr (.inr (50, 0))]) (t := 40) (o := 0) (kdX12_drawYear 29 rfl) iX12_draw lX12_334 rc_40 rfl rfl rfl (by decide) (by simp only [List.map, vcat, List.sum_cons, List.sum_nil]; decide)) (CX12_draw 5 m11) (fun x18 m17 => ?_)
      refine g_iast (kdX12_drawYear 30 rfl) (fun m19 => ?_)
      refine g_goto (tgt := 101) (kdX12_drawYear 31 rfl) (by decide) ?_
      exact g_fgt [0] rfl (BX12_drawYear_101 m19)
    · refine g_aload_n 0 (kdX12_drawYear 32 rfl) rfl ?_
      refine g_get (v := .inr (.inr (50, 0))) (kdX12_drawYear 33 rfl) fX12_37 rfl ?_
      refine g_bipush (v := 16) (kdX12_drawYear 34 rfl) (by decide) ?_
      refine g_iconst (v := 1) (kdX12_drawYear 35 rfl) (by decide) ?_
      refine g_aload_n 0 (kdX12_drawYear 36 rfl) rfl ?_
      refine g_get (v := .inr (.inr (50, 0))) (kdX12_drawYear 37 rfl) fX12_37 rfl ?_
      refine g_bipush (v := 16) (kdX12_drawYear 38 rfl) (by decide) ?_
      refine g_iald (kdX12_drawYear 39 rfl) (fun x20 => ?_)
      refine g_isub (kdX12_drawYear 40 rfl) ?_
      refine g_iast (kdX12_drawYear 41 rfl) (fun m21 => ?_)
      exact g_fgt [0] rfl (BX12_drawYear_101 m21)
