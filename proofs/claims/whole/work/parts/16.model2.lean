abbrev mX12_readScript : hMt := (yX12_readScript, cX12_readScript, 5, some .int)
def tX12_readScript : hTb := [(0, .aload_n 0, 1, 1), (1, .iconst 0, 1, 2), (2, .putfield 93, 3, 5), (5, .aload_n 0, 1, 6), (6, .iconst (-1), 1, 7), (7, .putfield 132, 3, 10), (10, .aload_n 0, 1, 11), (11, .getfield 34, 3, 14), (14, .iload_n 1, 1, 15), (15, .iconst 0, 1, 16), (16, .iastore, 1, 17), (17, .iconst 1, 1, 18), (18, .istore_n 2, 1, 19), (19, .iload_n 2, 1, 20), (20, .ifCond .eq 123, 3, 23), (23, .aload_n 0, 1, 24), (24, .invokevirtual 154, 3, 27), (27, .aload_n 0, 1, 28), (28, .iconst 1, 1, 29), (29, .invokevirtual 174, 3, 32), (32, .istore_n 3, 1, 33), (33, .iconst 3, 1, 34), (34, .bipush 12, 2, 36), (36, .iload_n 1, 1, 37), (37, .imul, 1, 38), (38, .aload_n 0, 1, 39), (39, .getfield 34, 3, 42), (42, .iload_n 1, 1, 43), (43, .iaload, 1, 44), (44, .iadd, 1, 45), (45, .imul, 1, 46), (46, .istore 4, 2, 48), (48, .iload_n 3, 1, 49), (49, .iconst (-1), 1, 50), (50, .if_icmp .ne 10, 3, 53), (53, .aload_n 0, 1, 54), (54, .invokevirtual 164, 3, 57), (57, .goto 40, 3, 60), (60, .aload_n 0, 1, 61), (61, .getfield 31, 3, 64), (64, .iload 4, 2, 66), (66, .iload_n 3, 1, 67), (67, .iastore, 1, 68), (68, .aload_n 0, 1, 69), (69, .getfield 31, 3, 72), (72, .iload 4, 2, 74), (74, .iconst 1, 1, 75), (75, .iadd, 1, 76), (76, .ldc 50, 2, 78), (78, .iastore, 1, 79), (79, .aload_n 0, 1, 80), (80, .getfield 31, 3, 83), (83, .iload 4, 2, 85), (85, .iconst 2, 1, 86), (86, .iadd, 1, 87), (87, .ldc 50, 2, 89), (89, .iastore, 1, 90), (90, .aload_n 0, 1, 91), (91, .iload_n 3, 1, 92), (92, .iload 4, 2, 94), (94, .invokevirtual 193, 3, 97), (97, .aload_n 0, 1, 98), (98, .getfield 34, 3, 101), (101, .iload_n 1, 1, 102), (102, .dup2, 1, 103), (103, .iaload, 1, 104), (104, .iconst 1, 1, 105), (105, .iadd, 1, 106), (106, .iastore, 1, 107), (107, .aload_n 0, 1, 108), (108, .getfield 132, 3, 111), (111, .iconst (-1), 1, 112), (112, .if_icmp .ne 26, 3, 115), (115, .aload_n 0, 1, 116), (116, .getfield 96, 3, 119), (119, .iconst 3, 1, 120), (120, .if_icmp .ne 18, 3, 123), (123, .aload_n 0, 1, 124), (124, .getfield 34, 3, 127), (127, .iload_n 1, 1, 128), (128, .iaload, 1, 129), (129, .bipush 12, 2, 131), (131, .if_icmp .ge 7, 3, 134), (134, .iconst 1, 1, 135), (135, .goto 4, 3, 138), (138, .iconst 0, 1, 139), (139, .istore_n 2, 1, 140), (140, .goto (-121), 3, 143), (143, .aload_n 0, 1, 144), (144, .getfield 132, 3, 147), (147, .iconst (-1), 1, 148), (148, .if_icmp .ne 14, 3, 151), (151, .aload_n 0, 1, 152), (152, .getfield 96, 3, 155), (155, .ifCond .eq 7, 3, 158), (158, .aload_n 0, 1, 159), (159, .invokevirtual 164, 3, 162), (162, .aload_n 0, 1, 163), (163, .getfield 132, 3, 166), (166, .ireturn, 1, 167)]
theorem ktX12_readScript : TbOK mX12_readScript tX12_readScript := by
  unfold TbOK
  decide +kernel
theorem kdX12_readScript (k : Nat) {pc : Nat} {i : Instr} {len nx : Nat} (hk : tX12_readScript[k]? = some (pc, i, len, nx)) : Dc mX12_readScript pc i len nx := dc_of ktX12_readScript k hk
theorem iX12_readScript : MiV mX12_readScript := ⟨⟨gdw_of (i := 1642) (by decide +kernel) (by decide +kernel), gdw_of (i := 124) (by decide +kernel) (by decide +kernel), by decide, by decide, by decide⟩, gdw_of (i := 1641) (by decide +kernel) (by decide +kernel), gdw_of (i := 66) (by decide +kernel) (by decide +kernel)⟩
abbrev mX12_fault : hMt := (yX12_fault, cX12_fault, 2, some .int)
def tX12_fault : hTb := [(0, .iload_n 1, 1, 1), (1, .ifCond .ne 10, 3, 4), (4, .aload_n 0, 1, 5), (5, .invokevirtual 197, 3, 8), (8, .goto 18, 3, 11), (11, .iload_n 1, 1, 12), (12, .iconst 1, 1, 13), (13, .if_icmp .ne 11, 3, 16), (16, .aload_n 0, 1, 17), (17, .iconst 4, 1, 18), (18, .invokevirtual 200, 3, 21), (21, .goto 5, 3, 24), (24, .bipush (-2), 2, 26), (26, .ireturn, 1, 27)]
theorem ktX12_fault : TbOK mX12_fault tX12_fault := by
  unfold TbOK
  decide +kernel
theorem kdX12_fault (k : Nat) {pc : Nat} {i : Instr} {len nx : Nat} (hk : tX12_fault[k]? = some (pc, i, len, nx)) : Dc mX12_fault pc i len nx := dc_of ktX12_fault k hk
theorem iX12_fault : MiV mX12_fault := ⟨⟨gdw_of (i := 1567) (by decide +kernel) (by decide +kernel), gdw_of (i := 124) (by decide +kernel) (by decide +kernel), by decide, by decide, by decide⟩, gdw_of (i := 1565) (by decide +kernel) (by decide +kernel), gdw_of (i := 1566) (by decide +kernel) (by decide +kernel)⟩
abbrev mX12_taps : hMt := (yX12_taps, cX12_taps, 1, some .int)
def tX12_taps : hTb := [(0, .aload_n 0, 1, 1), (1, .getfield 203, 3, 4), (4, .ifCond .eq 19, 3, 7), (7, .aload_n 0, 1, 8), (8, .getfield 22, 3, 11), (11, .iconst 1, 1, 12), (12, .iaload, 1, 13), (13, .aload_n 0, 1, 14), (14, .getfield 22, 3, 17), (17, .iconst 2, 1, 18), (18, .iaload, 1, 19), (19, .iadd, 1, 20), (20, .goto 4, 3, 23), (23, .iconst 0, 1, 24), (24, .ireturn, 1, 25)]
theorem ktX12_taps : TbOK mX12_taps tX12_taps := by
  unfold TbOK
  decide +kernel
theorem kdX12_taps (k : Nat) {pc : Nat} {i : Instr} {len nx : Nat} (hk : tX12_taps[k]? = some (pc, i, len, nx)) : Dc mX12_taps pc i len nx := dc_of ktX12_taps k hk
theorem iX12_taps : MiV mX12_taps := ⟨⟨gdw_of (i := 1664) (by decide +kernel) (by decide +kernel), gdw_of (i := 124) (by decide +kernel) (by decide +kernel), by decide, by decide, by decide⟩, gdw_of (i := 1663) (by decide +kernel) (by decide +kernel), gdw_of (i := 69) (by decide +kernel) (by decide +kernel)⟩
abbrev mX12_takeLine : hMt := (yX12_takeLine, cX12_takeLine, 2, some .int)
def tX12_takeLine : hTb := [(0, .aload_n 0, 1, 1), (1, .iconst 1, 1, 2), (2, .putfield 203, 3, 5), (5, .iconst 0, 1, 6), (6, .istore_n 1, 1, 7), (7, .iload_n 1, 1, 8), (8, .bipush 13, 2, 10), (10, .if_icmp .ge 21, 3, 13), (13, .aload_n 0, 1, 14), (14, .getfield 22, 3, 17), (17, .iload_n 1, 1, 18), (18, .aload_n 0, 1, 19), (19, .getfield 13, 3, 22), (22, .iload_n 1, 1, 23), (23, .iaload, 1, 24), (24, .iastore, 1, 25), (25, .iinc 1 1, 3, 28), (28, .goto (-21), 3, 31), (31, .iconst 0, 1, 32), (32, .istore_n 1, 1, 33), (33, .iload_n 1, 1, 34), (34, .bipush 16, 2, 36), (36, .if_icmp .ge 33, 3, 39), (39, .aload_n 0, 1, 40), (40, .getfield 25, 3, 43), (43, .iload_n 1, 1, 44), (44, .aload_n 0, 1, 45), (45, .getfield 16, 3, 48), (48, .iload_n 1, 1, 49), (49, .iaload, 1, 50), (50, .iastore, 1, 51), (51, .aload_n 0, 1, 52), (52, .getfield 28, 3, 55), (55, .iload_n 1, 1, 56), (56, .aload_n 0, 1, 57), (57, .getfield 19, 3, 60), (60, .iload_n 1, 1, 61), (61, .iaload, 1, 62), (62, .iastore, 1, 63), (63, .iinc 1 1, 3, 66), (66, .goto (-33), 3, 69), (69, .iconst 0, 1, 70), (70, .istore_n 1, 1, 71), (71, .iload_n 1, 1, 72), (72, .sipush 232, 3, 75), (75, .if_icmp .ge 16, 3, 78), (78, .aload_n 0, 1, 79), (79, .getfield 37, 3, 82), (82, .iload_n 1, 1, 83), (83, .iconst 0, 1, 84), (84, .iastore, 1, 85), (85, .iinc 1 1, 3, 88), (88, .goto (-17), 3, 91), (91, .aload_n 0, 1, 92), (92, .getfield 37, 3, 95), (95, .iconst 0, 1, 96), (96, .bipush 64, 2, 98), (98, .iastore, 1, 99), (99, .aload_n 0, 1, 100), (100, .getfield 37, 3, 103), (103, .bipush 12, 2, 105), (105, .aload_n 0, 1, 106), (106, .getfield 22, 3, 109), (109, .iconst 4, 1, 110), (110, .iaload, 1, 111), (111, .iastore, 1, 112), (112, .aload_n 0, 1, 113), (113, .getfield 37, 3, 116), (116, .bipush 19, 2, 118), (118, .aload_n 0, 1, 119), (119, .getfield 22, 3, 122), (122, .bipush 8, 2, 124), (124, .iaload, 1, 125), (125, .iastore, 1, 126), (126, .aload_n 0, 1, 127), (127, .getfield 37, 3, 130), (130, .bipush 20, 2, 132), (132, .aload_n 0, 1, 133), (133, .getfield 22, 3, 136), (136, .bipush 7, 2, 138), (138, .iaload, 1, 139), (139, .iastore, 1, 140), (140, .aload_n 0, 1, 141), (141, .getfield 37, 3, 144), (144, .bipush 21, 2, 146), (146, .aload_n 0, 1, 147), (147, .getfield 22, 3, 150), (150, .bipush 9, 2, 152), (152, .iaload, 1, 153), (153, .iastore, 1, 154), (154, .aload_n 0, 1, 155), (155, .aload_n 0, 1, 156), (156, .getfield 22, 3, 159), (159, .iconst 5, 1, 160), (160, .iaload, 1, 161), (161, .putfield 47, 3, 164), (164, .aload_n 0, 1, 165), (165, .iconst 0, 1, 166), (166, .putfield 207, 3, 169), (169, .aload_n 0, 1, 170), (170, .iconst 0, 1, 171), (171, .putfield 210, 3, 174), (174, .aload_n 0, 1, 175), (175, .invokevirtual 213, 3, 178), (178, .ireturn, 1, 179)]
theorem ktX12_takeLine : TbOK mX12_takeLine tX12_takeLine := by
  unfold TbOK
  decide +kernel
theorem kdX12_takeLine (k : Nat) {pc : Nat} {i : Instr} {len nx : Nat} (hk : tX12_takeLine[k]? = some (pc, i, len, nx)) : Dc mX12_takeLine pc i len nx := dc_of ktX12_takeLine k hk
theorem iX12_takeLine : MiV mX12_takeLine := ⟨⟨gdw_of (i := 1660) (by decide +kernel) (by decide +kernel), gdw_of (i := 124) (by decide +kernel) (by decide +kernel), by decide, by decide, by decide⟩, gdw_of (i := 1659) (by decide +kernel) (by decide +kernel), gdw_of (i := 68) (by decide +kernel) (by decide +kernel)⟩
abbrev mX12_text : hMt := (yX12_text, cX12_text, 2, some .int)
def tX12_text : hTb := [(0, .iload_n 1, 1, 1), (1, .ifCond .ne 21, 3, 4), (4, .aload_n 0, 1, 5), (5, .invokevirtual 197, 3, 8), (8, .iconst (-1), 1, 9), (9, .if_icmp .ne 13, 3, 12), (12, .aload_n 0, 1, 13), (13, .iconst 0, 1, 14), (14, .putfield 86, 3, 17), (17, .aload_n 0, 1, 18), (18, .invokevirtual 216, 3, 21), (21, .ireturn, 1, 22), (22, .iload_n 1, 1, 23), (23, .iconst 1, 1, 24), (24, .if_icmp .ne 45, 3, 27), (27, .aload_n 0, 1, 28), (28, .getfield 219, 3, 31), (31, .iconst 4, 1, 32), (32, .if_icmp .ge 37, 3, 35), (35, .aload_n 0, 1, 36), (36, .aload_n 0, 1, 37), (37, .getfield 219, 3, 40), (40, .invokevirtual 200, 3, 43), (43, .iconst (-1), 1, 44), (44, .if_icmp .ne 25, 3, 47), (47, .aload_n 0, 1, 48), (48, .iconst 0, 1, 49), (49, .putfield 86, 3, 52), (52, .aload_n 0, 1, 53), (53, .dup, 1, 54), (54, .getfield 219, 3, 57), (57, .iconst 1, 1, 58), (58, .iadd, 1, 59), (59, .putfield 219, 3, 62), (62, .aload_n 0, 1, 63), (63, .getfield 219, 3, 66), (66, .iconst 1, 1, 67), (67, .isub, 1, 68), (68, .ireturn, 1, 69), (69, .iconst (-1), 1, 70), (70, .ireturn, 1, 71)]
theorem ktX12_text : TbOK mX12_text tX12_text := by
  unfold TbOK
  decide +kernel
theorem kdX12_text (k : Nat) {pc : Nat} {i : Instr} {len nx : Nat} (hk : tX12_text[k]? = some (pc, i, len, nx)) : Dc mX12_text pc i len nx := dc_of ktX12_text k hk
theorem iX12_text : MiV mX12_text := ⟨⟨gdw_of (i := 1656) (by decide +kernel) (by decide +kernel), gdw_of (i := 124) (by decide +kernel) (by decide +kernel), by decide, by decide, by decide⟩, gdw_of (i := 1654) (by decide +kernel) (by decide +kernel), gdw_of (i := 1655) (by decide +kernel) (by decide +kernel)⟩
abbrev mX12_drawNoise : hMt := (yX12_drawNoise, cX12_drawNoise, 4, some .int)
def tX12_drawNoise : hTb := [(0, .aload_n 0, 1, 1), (1, .getfield 37, 3, 4), (4, .bipush 49, 2, 6), (6, .iaload, 1, 7), (7, .i2l, 1, 8), (8, .bipush 32, 2, 10), (10, .lshl, 1, 11), (11, .aload_n 0, 1, 12), (12, .getfield 37, 3, 15), (15, .bipush 50, 2, 17), (17, .iaload, 1, 18), (18, .i2l, 1, 19), (19, .ldc2_w 222, 3, 22), (22, .land, 1, 23), (23, .lor, 1, 24), (24, .lstore_n 2, 1, 25), (25, .lload_n 2, 1, 26), (26, .ldc2_w 224, 3, 29), (29, .lmul, 1, 30), (30, .ldc2_w 226, 3, 33), (33, .ladd, 1, 34), (34, .lstore_n 2, 1, 35), (35, .aload_n 0, 1, 36), (36, .getfield 37, 3, 39), (39, .bipush 49, 2, 41), (41, .lload_n 2, 1, 42), (42, .bipush 32, 2, 44), (44, .lshr, 1, 45), (45, .l2i, 1, 46), (46, .iastore, 1, 47), (47, .aload_n 0, 1, 48), (48, .getfield 37, 3, 51), (51, .bipush 50, 2, 53), (53, .lload_n 2, 1, 54), (54, .l2i, 1, 55), (55, .iastore, 1, 56), (56, .lload_n 2, 1, 57), (57, .bipush 33, 2, 59), (59, .lushr, 1, 60), (60, .iload_n 1, 1, 61), (61, .i2l, 1, 62), (62, .lrem, 1, 63), (63, .l2i, 1, 64), (64, .ireturn, 1, 65)]
theorem ktX12_drawNoise : TbOK mX12_drawNoise tX12_drawNoise := by
  unfold TbOK
  decide +kernel
theorem kdX12_drawNoise (k : Nat) {pc : Nat} {i : Instr} {len nx : Nat} (hk : tX12_drawNoise[k]? = some (pc, i, len, nx)) : Dc mX12_drawNoise pc i len nx := dc_of ktX12_drawNoise k hk
theorem iX12_drawNoise : MiV mX12_drawNoise := ⟨⟨gdw_of (i := 1704) (by decide +kernel) (by decide +kernel), gdw_of (i := 124) (by decide +kernel) (by decide +kernel), by decide, by decide, by decide⟩, gdw_of (i := 1703) (by decide +kernel) (by decide +kernel), gdw_of (i := 78) (by decide +kernel) (by decide +kernel)⟩
abbrev mX12_nextBit : hMt := (yX12_nextBit, cX12_nextBit, 2, some .int)
def tX12_nextBit : hTb := [(0, .aload_n 0, 1, 1), (1, .getfield 22, 3, 4), (4, .bipush 12, 2, 6), (6, .iaload, 1, 7), (7, .ifCond .le 24, 3, 10), (10, .aload_n 0, 1, 11), (11, .getfield 28, 3, 14), (14, .aload_n 0, 1, 15), (15, .getfield 37, 3, 18), (18, .bipush 18, 2, 20), (20, .iaload, 1, 21), (21, .aload_n 0, 1, 22), (22, .getfield 22, 3, 25), (25, .bipush 12, 2, 27), (27, .iaload, 1, 28), (28, .irem, 1, 29), (29, .iaload, 1, 30), (30, .ireturn, 1, 31), (31, .aload_n 0, 1, 32), (32, .getfield 37, 3, 35), (35, .bipush 21, 2, 37), (37, .iaload, 1, 38), (38, .istore_n 1, 1, 39), (39, .aload_n 0, 1, 40), (40, .getfield 37, 3, 43), (43, .bipush 21, 2, 45), (45, .iload_n 1, 1, 46), (46, .iconst 1, 1, 47), (47, .ishr, 1, 48), (48, .iload_n 1, 1, 49), (49, .iconst 1, 1, 50), (50, .iand, 1, 51), (51, .iload_n 1, 1, 52), (52, .iconst 1, 1, 53), (53, .ishr, 1, 54), (54, .iconst 1, 1, 55), (55, .iand, 1, 56), (56, .ixor, 1, 57), (57, .bipush 6, 2, 59), (59, .ishl, 1, 60), (60, .ior, 1, 61), (61, .iastore, 1, 62), (62, .iload_n 1, 1, 63), (63, .iconst 1, 1, 64), (64, .iand, 1, 65), (65, .ireturn, 1, 66)]
theorem ktX12_nextBit : TbOK mX12_nextBit tX12_nextBit := by
  unfold TbOK
  decide +kernel
theorem kdX12_nextBit (k : Nat) {pc : Nat} {i : Instr} {len nx : Nat} (hk : tX12_nextBit[k]? = some (pc, i, len, nx)) : Dc mX12_nextBit pc i len nx := dc_of ktX12_nextBit k hk
theorem iX12_nextBit : MiV mX12_nextBit := ⟨⟨gdw_of (i := 1688) (by decide +kernel) (by decide +kernel), gdw_of (i := 124) (by decide +kernel) (by decide +kernel), by decide, by decide, by decide⟩, gdw_of (i := 1687) (by decide +kernel) (by decide +kernel), gdw_of (i := 74) (by decide +kernel) (by decide +kernel)⟩
abbrev mX12_shift : hMt := (yX12_shift, cX12_shift, 5, none)
def tX12_shift : hTb := [(0, .iload_n 2, 1, 1), (1, .iconst 1, 1, 2), (2, .isub, 1, 3), (3, .istore 4, 2, 5), (5, .iload 4, 2, 7), (7, .ifCond .le 29, 3, 10), (10, .aload_n 0, 1, 11), (11, .getfield 37, 3, 14), (14, .iload_n 1, 1, 15), (15, .iload 4, 2, 17), (17, .iadd, 1, 18), (18, .aload_n 0, 1, 19), (19, .getfield 37, 3, 22), (22, .iload_n 1, 1, 23), (23, .iload 4, 2, 25), (25, .iadd, 1, 26), (26, .iconst 1, 1, 27), (27, .isub, 1, 28), (28, .iaload, 1, 29), (29, .iastore, 1, 30), (30, .iinc 4 (-1), 3, 33), (33, .goto (-28), 3, 36), (36, .aload_n 0, 1, 37), (37, .getfield 37, 3, 40), (40, .iload_n 1, 1, 41), (41, .iload_n 3, 1, 42), (42, .iastore, 1, 43), (43, .return_, 1, 44)]
theorem ktX12_shift : TbOK mX12_shift tX12_shift := by
  unfold TbOK
  decide +kernel
theorem kdX12_shift (k : Nat) {pc : Nat} {i : Instr} {len nx : Nat} (hk : tX12_shift[k]? = some (pc, i, len, nx)) : Dc mX12_shift pc i len nx := dc_of ktX12_shift k hk
theorem iX12_shift : MiV mX12_shift := ⟨⟨gdw_of (i := 1692) (by decide +kernel) (by decide +kernel), gdw_of (i := 124) (by decide +kernel) (by decide +kernel), by decide, by decide, by decide⟩, gdw_of (i := 1691) (by decide +kernel) (by decide +kernel), gdw_of (i := 75) (by decide +kernel) (by decide +kernel)⟩
abbrev mX12_clean : hMt := (yX12_clean, cX12_clean, 4, some .int)
def tX12_clean : hTb := [(0, .iconst 0, 1, 1), (1, .istore_n 2, 1, 2), (2, .iconst 0, 1, 3), (3, .istore_n 3, 1, 4), (4, .iconst 4, 1, 5), (5, .iload_n 3, 1, 6), (6, .imul, 1, 7), (7, .iload_n 1, 1, 8), (8, .iadd, 1, 9), (9, .aload_n 0, 1, 10), (10, .getfield 22, 3, 13), (13, .iconst 0, 1, 14), (14, .iaload, 1, 15), (15, .if_icmp .ge 32, 3, 18), (18, .iload_n 2, 1, 19), (19, .aload_n 0, 1, 20), (20, .getfield 25, 3, 23), (23, .iconst 4, 1, 24), (24, .iload_n 3, 1, 25), (25, .imul, 1, 26), (26, .iload_n 1, 1, 27), (27, .iadd, 1, 28), (28, .iaload, 1, 29), (29, .aload_n 0, 1, 30), (30, .getfield 37, 3, 33), (33, .bipush 31, 2, 35), (35, .iload_n 3, 1, 36), (36, .iadd, 1, 37), (37, .iaload, 1, 38), (38, .imul, 1, 39), (39, .iadd, 1, 40), (40, .istore_n 2, 1, 41), (41, .iinc 3 1, 3, 44), (44, .goto (-40), 3, 47), (47, .iload_n 2, 1, 48), (48, .ireturn, 1, 49)]
theorem ktX12_clean : TbOK mX12_clean tX12_clean := by
  unfold TbOK
  decide +kernel
theorem kdX12_clean (k : Nat) {pc : Nat} {i : Instr} {len nx : Nat} (hk : tX12_clean[k]? = some (pc, i, len, nx)) : Dc mX12_clean pc i len nx := dc_of ktX12_clean k hk
theorem iX12_clean : MiV mX12_clean := ⟨⟨gdw_of (i := 1696) (by decide +kernel) (by decide +kernel), gdw_of (i := 124) (by decide +kernel) (by decide +kernel), by decide, by decide, by decide⟩, gdw_of (i := 1695) (by decide +kernel) (by decide +kernel), gdw_of (i := 76) (by decide +kernel) (by decide +kernel)⟩
abbrev mX12_noise : hMt := (yX12_noise, cX12_noise, 1, some .int)
def tX12_noise : hTb := [(0, .aload_n 0, 1, 1), (1, .getfield 37, 3, 4), (4, .bipush 20, 2, 6), (6, .iaload, 1, 7), (7, .ifCond .ne 5, 3, 10), (10, .iconst 0, 1, 11), (11, .ireturn, 1, 12), (12, .aload_n 0, 1, 13), (13, .getfield 51, 3, 16), (16, .ldc 50, 2, 18), (18, .if_icmp .eq 10, 3, 21), (21, .aload_n 0, 1, 22), (22, .getfield 51, 3, 25), (25, .goto 26, 3, 28), (28, .aload_n 0, 1, 29), (29, .iconst 2, 1, 30), (30, .aload_n 0, 1, 31), (31, .getfield 37, 3, 34), (34, .bipush 20, 2, 36), (36, .iaload, 1, 37), (37, .imul, 1, 38), (38, .iconst 1, 1, 39), (39, .iadd, 1, 40), (40, .invokevirtual 228, 3, 43), (43, .aload_n 0, 1, 44), (44, .getfield 37, 3, 47), (47, .bipush 20, 2, 49), (49, .iaload, 1, 50), (50, .isub, 1, 51), (51, .ireturn, 1, 52)]
theorem ktX12_noise : TbOK mX12_noise tX12_noise := by
  unfold TbOK
  decide +kernel
theorem kdX12_noise (k : Nat) {pc : Nat} {i : Instr} {len nx : Nat} (hk : tX12_noise[k]? = some (pc, i, len, nx)) : Dc mX12_noise pc i len nx := dc_of ktX12_noise k hk
theorem iX12_noise : MiV mX12_noise := ⟨⟨gdw_of (i := 1700) (by decide +kernel) (by decide +kernel), gdw_of (i := 124) (by decide +kernel) (by decide +kernel), by decide, by decide, by decide⟩, gdw_of (i := 1699) (by decide +kernel) (by decide +kernel), gdw_of (i := 77) (by decide +kernel) (by decide +kernel)⟩
abbrev mX12_takenOff : hMt := (yX12_takenOff, cX12_takenOff, 3, some .int)
def tX12_takenOff : hTb := [(0, .iconst 0, 1, 1), (1, .istore_n 1, 1, 2), (2, .iconst 0, 1, 3), (3, .istore_n 2, 1, 4), (4, .iload_n 2, 1, 5), (5, .aload_n 0, 1, 6), (6, .getfield 22, 3, 9), (9, .iconst 2, 1, 10), (10, .iaload, 1, 11), (11, .if_icmp .ge 31, 3, 14), (14, .iload_n 1, 1, 15), (15, .aload_n 0, 1, 16), (16, .getfield 37, 3, 19), (19, .bipush 46, 2, 21), (21, .iload_n 2, 1, 22), (22, .iadd, 1, 23), (23, .iaload, 1, 24), (24, .aload_n 0, 1, 25), (25, .getfield 37, 3, 28), (28, .bipush 37, 2, 30), (30, .iload_n 2, 1, 31), (31, .iadd, 1, 32), (32, .iaload, 1, 33), (33, .imul, 1, 34), (34, .iadd, 1, 35), (35, .istore_n 1, 1, 36), (36, .iinc 2 1, 3, 39), (39, .goto (-35), 3, 42), (42, .bipush 64, 2, 44), (44, .iload_n 1, 1, 45), (45, .imul, 1, 46), (46, .ireturn, 1, 47)]
theorem ktX12_takenOff : TbOK mX12_takenOff tX12_takenOff := by
  unfold TbOK
  decide +kernel
theorem kdX12_takenOff (k : Nat) {pc : Nat} {i : Instr} {len nx : Nat} (hk : tX12_takenOff[k]? = some (pc, i, len, nx)) : Dc mX12_takenOff pc i len nx := dc_of ktX12_takenOff k hk
theorem iX12_takenOff : MiV mX12_takenOff := ⟨⟨gdw_of (i := 1715) (by decide +kernel) (by decide +kernel), gdw_of (i := 124) (by decide +kernel) (by decide +kernel), by decide, by decide, by decide⟩, gdw_of (i := 1714) (by decide +kernel) (by decide +kernel), gdw_of (i := 80) (by decide +kernel) (by decide +kernel)⟩
abbrev mX12_weighNow : hMt := (yX12_weighNow, cX12_weighNow, 3, none)
def tX12_weighNow : hTb := [(0, .iconst 0, 1, 1), (1, .istore_n 1, 1, 2), (2, .iconst 0, 1, 3), (3, .istore_n 2, 1, 4), (4, .iload_n 2, 1, 5), (5, .aload_n 0, 1, 6), (6, .getfield 22, 3, 9), (9, .iconst 1, 1, 10), (10, .iaload, 1, 11), (11, .if_icmp .ge 30, 3, 14), (14, .iload_n 1, 1, 15), (15, .aload_n 0, 1, 16), (16, .getfield 37, 3, 19), (19, .iconst 0, 1, 20), (20, .iload_n 2, 1, 21), (21, .iadd, 1, 22), (22, .iaload, 1, 23), (23, .aload_n 0, 1, 24), (24, .getfield 37, 3, 27), (27, .bipush 40, 2, 29), (29, .iload_n 2, 1, 30), (30, .iadd, 1, 31), (31, .iaload, 1, 32), (32, .imul, 1, 33), (33, .iadd, 1, 34), (34, .istore_n 1, 1, 35), (35, .iinc 2 1, 3, 38), (38, .goto (-34), 3, 41), (41, .aload_n 0, 1, 42), (42, .getfield 37, 3, 45), (45, .bipush 45, 2, 47), (47, .iload_n 1, 1, 48), (48, .iastore, 1, 49), (49, .iconst 0, 1, 50), (50, .istore_n 2, 1, 51), (51, .iload_n 2, 1, 52), (52, .aload_n 0, 1, 53), (53, .getfield 22, 3, 56), (56, .iconst 2, 1, 57), (57, .iaload, 1, 58), (58, .if_icmp .ge 33, 3, 61), (61, .aload_n 0, 1, 62), (62, .getfield 37, 3, 65), (65, .bipush 46, 2, 67), (67, .iload_n 2, 1, 68), (68, .iadd, 1, 69), (69, .aload_n 0, 1, 70), (70, .getfield 37, 3, 73), (73, .iconst 0, 1, 74), (74, .aload_n 0, 1, 75), (75, .getfield 22, 3, 78), (78, .iconst 1, 1, 79), (79, .iaload, 1, 80), (80, .iadd, 1, 81), (81, .iload_n 2, 1, 82), (82, .iadd, 1, 83), (83, .iaload, 1, 84), (84, .iastore, 1, 85), (85, .iinc 2 1, 3, 88), (88, .goto (-37), 3, 91), (91, .aload_n 0, 1, 92), (92, .getfield 37, 3, 95), (95, .bipush 44, 2, 97), (97, .iload_n 1, 1, 98), (98, .aload_n 0, 1, 99), (99, .invokevirtual 231, 3, 102), (102, .isub, 1, 103), (103, .iastore, 1, 104), (104, .return_, 1, 105)]
theorem ktX12_weighNow : TbOK mX12_weighNow tX12_weighNow := by
  unfold TbOK
  decide +kernel
theorem kdX12_weighNow (k : Nat) {pc : Nat} {i : Instr} {len nx : Nat} (hk : tX12_weighNow[k]? = some (pc, i, len, nx)) : Dc mX12_weighNow pc i len nx := dc_of ktX12_weighNow k hk
theorem iX12_weighNow : MiV mX12_weighNow := ⟨⟨gdw_of (i := 1711) (by decide +kernel) (by decide +kernel), gdw_of (i := 124) (by decide +kernel) (by decide +kernel), by decide, by decide, by decide⟩, gdw_of (i := 1710) (by decide +kernel) (by decide +kernel), gdw_of (i := 79) (by decide +kernel) (by decide +kernel)⟩
abbrev mX12_hush : hMt := (yX12_hush, cX12_hush, 2, none)
def tX12_hush : hTb := [(0, .aload_n 0, 1, 1), (1, .getfield 37, 3, 4), (4, .bipush 23, 2, 6), (6, .iload_n 1, 1, 7), (7, .ifCond .eq 19, 3, 10), (10, .iconst 4, 1, 11), (11, .aload_n 0, 1, 12), (12, .getfield 37, 3, 15), (15, .bipush 23, 2, 17), (17, .iaload, 1, 18), (18, .iconst 1, 1, 19), (19, .iadd, 1, 20), (20, .invokestatic 234, 3, 23), (23, .goto 4, 3, 26), (26, .iconst 0, 1, 27), (27, .iastore, 1, 28), (28, .aload_n 0, 1, 29), (29, .getfield 37, 3, 32), (32, .bipush 24, 2, 34), (34, .iload_n 1, 1, 35), (35, .ifCond .eq 7, 3, 38), (38, .iconst 0, 1, 39), (39, .goto 16, 3, 42), (42, .iconst 4, 1, 43), (43, .aload_n 0, 1, 44), (44, .getfield 37, 3, 47), (47, .bipush 24, 2, 49), (49, .iaload, 1, 50), (50, .iconst 1, 1, 51), (51, .iadd, 1, 52), (52, .invokestatic 234, 3, 55), (55, .iastore, 1, 56), (56, .aload_n 0, 1, 57), (57, .getfield 37, 3, 60), (60, .bipush 23, 2, 62), (62, .iaload, 1, 63), (63, .iconst 4, 1, 64), (64, .if_icmp .eq 14, 3, 67), (67, .aload_n 0, 1, 68), (68, .getfield 37, 3, 71), (71, .bipush 24, 2, 73), (73, .iaload, 1, 74), (74, .iconst 4, 1, 75), (75, .if_icmp .ne 26, 3, 78), (78, .aload_n 0, 1, 79), (79, .getfield 37, 3, 82), (82, .bipush 17, 2, 84), (84, .aload_n 0, 1, 85), (85, .getfield 37, 3, 88), (88, .bipush 23, 2, 90), (90, .iaload, 1, 91), (91, .iconst 4, 1, 92), (92, .if_icmp .ne 7, 3, 95), (95, .iconst 1, 1, 96), (96, .goto 4, 3, 99), (99, .iconst 0, 1, 100), (100, .iastore, 1, 101), (101, .return_, 1, 102)]
theorem ktX12_hush : TbOK mX12_hush tX12_hush := by
  unfold TbOK
  decide +kernel
theorem kdX12_hush (k : Nat) {pc : Nat} {i : Instr} {len nx : Nat} (hk : tX12_hush[k]? = some (pc, i, len, nx)) : Dc mX12_hush pc i len nx := dc_of ktX12_hush k hk
theorem iX12_hush : MiV mX12_hush := ⟨⟨gdw_of (i := 1726) (by decide +kernel) (by decide +kernel), gdw_of (i := 124) (by decide +kernel) (by decide +kernel), by decide, by decide, by decide⟩, gdw_of (i := 1725) (by decide +kernel) (by decide +kernel), gdw_of (i := 81) (by decide +kernel) (by decide +kernel)⟩
abbrev mX12_vote : hMt := (yX12_vote, cX12_vote, 7, none)
def tX12_vote : hTb := [(0, .aload_n 0, 1, 1), (1, .getfield 37, 3, 4), (4, .iload_n 1, 1, 5), (5, .dup2, 1, 6), (6, .iaload, 1, 7), (7, .iload_n 2, 1, 8), (8, .iadd, 1, 9), (9, .iastore, 1, 10), (10, .aload_n 0, 1, 11), (11, .getfield 37, 3, 14), (14, .iload_n 1, 1, 15), (15, .iaload, 1, 16), (16, .invokestatic 239, 3, 19), (19, .iload_n 3, 1, 20), (20, .if_icmp .lt 41, 3, 23), (23, .aload_n 0, 1, 24), (24, .getfield 37, 3, 27), (27, .iload 4, 2, 29), (29, .aload_n 0, 1, 30), (30, .getfield 37, 3, 33), (33, .iload 4, 2, 35), (35, .iaload, 1, 36), (36, .aload_n 0, 1, 37), (37, .getfield 37, 3, 40), (40, .iload_n 1, 1, 41), (41, .iaload, 1, 42), (42, .invokestatic 242, 3, 45), (45, .iadd, 1, 46), (46, .iload 5, 2, 48), (48, .iload 6, 2, 50), (50, .invokestatic 245, 3, 53), (53, .iastore, 1, 54), (54, .aload_n 0, 1, 55), (55, .getfield 37, 3, 58), (58, .iload_n 1, 1, 59), (59, .iconst 0, 1, 60), (60, .iastore, 1, 61), (61, .return_, 1, 62)]
theorem ktX12_vote : TbOK mX12_vote tX12_vote := by
  unfold TbOK
  decide +kernel
theorem kdX12_vote (k : Nat) {pc : Nat} {i : Instr} {len nx : Nat} (hk : tX12_vote[k]? = some (pc, i, len, nx)) : Dc mX12_vote pc i len nx := dc_of ktX12_vote k hk
theorem iX12_vote : MiV mX12_vote := ⟨⟨gdw_of (i := 1735) (by decide +kernel) (by decide +kernel), gdw_of (i := 124) (by decide +kernel) (by decide +kernel), by decide, by decide, by decide⟩, gdw_of (i := 1734) (by decide +kernel) (by decide +kernel), gdw_of (i := 83) (by decide +kernel) (by decide +kernel)⟩
abbrev mX12_learn : hMt := (yX12_learn, cX12_learn, 4, none)
def tX12_learn : hTb := [(0, .aload_n 0, 1, 1), (1, .getfield 37, 3, 4), (4, .bipush 26, 2, 6), (6, .dup2, 1, 7), (7, .iaload, 1, 8), (8, .iconst 1, 1, 9), (9, .iadd, 1, 10), (10, .iastore, 1, 11), (11, .iconst 0, 1, 12), (12, .istore_n 3, 1, 13), (13, .iload_n 3, 1, 14), (14, .aload_n 0, 1, 15), (15, .getfield 22, 3, 18), (18, .iconst 1, 1, 19), (19, .iaload, 1, 20), (20, .if_icmp .ge 45, 3, 23), (23, .aload_n 0, 1, 24), (24, .bipush 6, 2, 26), (26, .iload_n 3, 1, 27), (27, .iadd, 1, 28), (28, .aload_n 0, 1, 29), (29, .getfield 37, 3, 32), (32, .bipush 40, 2, 34), (34, .iload_n 3, 1, 35), (35, .iadd, 1, 36), (36, .iaload, 1, 37), (37, .invokestatic 242, 3, 40), (40, .ineg, 1, 41), (41, .iload_n 1, 1, 42), (42, .imul, 1, 43), (43, .aload_n 0, 1, 44), (44, .getfield 47, 3, 47), (47, .iconst 0, 1, 48), (48, .iload_n 3, 1, 49), (49, .iadd, 1, 50), (50, .sipush (-255), 3, 53), (53, .sipush 255, 3, 56), (56, .invokevirtual 249, 3, 59), (59, .iinc 3 1, 3, 62), (62, .goto (-49), 3, 65), (65, .iconst 0, 1, 66), (66, .istore_n 3, 1, 67), (67, .iload_n 3, 1, 68), (68, .aload_n 0, 1, 69), (69, .getfield 22, 3, 72), (72, .iconst 2, 1, 73), (73, .iaload, 1, 74), (74, .if_icmp .ge 55, 3, 77), (77, .aload_n 0, 1, 78), (78, .bipush 6, 2, 80), (80, .aload_n 0, 1, 81), (81, .getfield 22, 3, 84), (84, .iconst 1, 1, 85), (85, .iaload, 1, 86), (86, .iadd, 1, 87), (87, .iload_n 3, 1, 88), (88, .iadd, 1, 89), (89, .aload_n 0, 1, 90), (90, .getfield 37, 3, 93), (93, .bipush 37, 2, 95), (95, .iload_n 3, 1, 96), (96, .iadd, 1, 97), (97, .iaload, 1, 98), (98, .iload_n 1, 1, 99), (99, .imul, 1, 100), (100, .aload_n 0, 1, 101), (101, .getfield 47, 3, 104), (104, .iconst 0, 1, 105), (105, .aload_n 0, 1, 106), (106, .getfield 22, 3, 109), (109, .iconst 1, 1, 110), (110, .iaload, 1, 111), (111, .iadd, 1, 112), (112, .iload_n 3, 1, 113), (113, .iadd, 1, 114), (114, .sipush (-255), 3, 117), (117, .sipush 255, 3, 120), (120, .invokevirtual 249, 3, 123), (123, .iinc 3 1, 3, 126), (126, .goto (-59), 3, 129), (129, .aload_n 0, 1, 130), (130, .getfield 22, 3, 133), (133, .bipush 10, 2, 135), (135, .iaload, 1, 136), (136, .iconst 1, 1, 137), (137, .if_icmp .ne 21, 3, 140), (140, .aload_n 0, 1, 141), (141, .bipush 13, 2, 143), (143, .iload_n 2, 1, 144), (144, .iload_n 1, 1, 145), (145, .imul, 1, 146), (146, .aload_n 0, 1, 147), (147, .getfield 47, 3, 150), (150, .bipush 12, 2, 152), (152, .iconst 1, 1, 153), (153, .bipush 99, 2, 155), (155, .invokevirtual 249, 3, 158), (158, .aload_n 0, 1, 159), (159, .getfield 22, 3, 162), (162, .bipush 11, 2, 164), (164, .iaload, 1, 165), (165, .ifCond .le 39, 3, 168), (168, .aload_n 0, 1, 169), (169, .bipush 15, 2, 171), (171, .iload_n 1, 1, 172), (172, .aload_n 0, 1, 173), (173, .getfield 37, 3, 176), (176, .bipush 37, 2, 178), (178, .iaload, 1, 179), (179, .imul, 1, 180), (180, .aload_n 0, 1, 181), (181, .getfield 37, 3, 184), (184, .bipush 43, 2, 186), (186, .iaload, 1, 187), (187, .iload_n 2, 1, 188), (188, .imul, 1, 189), (189, .isub, 1, 190), (190, .aload_n 0, 1, 191), (191, .getfield 22, 3, 194), (194, .bipush 11, 2, 196), (196, .iaload, 1, 197), (197, .bipush 14, 2, 199), (199, .iconst 0, 1, 200), (200, .iconst 3, 1, 201), (201, .invokevirtual 249, 3, 204), (204, .return_, 1, 205)]
theorem ktX12_learn : TbOK mX12_learn tX12_learn := by
  unfold TbOK
  decide +kernel
theorem kdX12_learn (k : Nat) {pc : Nat} {i : Instr} {len nx : Nat} (hk : tX12_learn[k]? = some (pc, i, len, nx)) : Dc mX12_learn pc i len nx := dc_of ktX12_learn k hk
theorem iX12_learn : MiV mX12_learn := ⟨⟨gdw_of (i := 1731) (by decide +kernel) (by decide +kernel), gdw_of (i := 124) (by decide +kernel) (by decide +kernel), by decide, by decide, by decide⟩, gdw_of (i := 1730) (by decide +kernel) (by decide +kernel), gdw_of (i := 82) (by decide +kernel) (by decide +kernel)⟩
abbrev mX12_runOn : hMt := (yX12_runOn, cX12_runOn, 2, none)
def tX12_runOn : hTb := [(0, .iload_n 1, 1, 1), (1, .ifCond .eq 36, 3, 4), (4, .aload_n 0, 1, 5), (5, .getfield 37, 3, 8), (8, .bipush 25, 2, 10), (10, .dup2, 1, 11), (11, .iaload, 1, 12), (12, .iconst 1, 1, 13), (13, .iadd, 1, 14), (14, .iastore, 1, 15), (15, .aload_n 0, 1, 16), (16, .getfield 37, 3, 19), (19, .bipush 29, 2, 21), (21, .dup2, 1, 22), (22, .iaload, 1, 23), (23, .iconst 1, 1, 24), (24, .iadd, 1, 25), (25, .iastore, 1, 26), (26, .aload_n 0, 1, 27), (27, .getfield 37, 3, 30), (30, .bipush 30, 2, 32), (32, .iconst 0, 1, 33), (33, .iastore, 1, 34), (34, .goto 114, 3, 37), (37, .aload_n 0, 1, 38), (38, .getfield 37, 3, 41), (41, .bipush 29, 2, 43), (43, .iaload, 1, 44), (44, .ifCond .le 104, 3, 47), (47, .aload_n 0, 1, 48), (48, .getfield 37, 3, 51), (51, .bipush 29, 2, 53), (53, .dup2, 1, 54), (54, .iaload, 1, 55), (55, .iconst 1, 1, 56), (56, .iadd, 1, 57), (57, .iastore, 1, 58), (58, .aload_n 0, 1, 59), (59, .getfield 37, 3, 62), (62, .bipush 30, 2, 64), (64, .dup2, 1, 65), (65, .iaload, 1, 66), (66, .iconst 1, 1, 67), (67, .iadd, 1, 68), (68, .iastore, 1, 69), (69, .aload_n 0, 1, 70), (70, .getfield 37, 3, 73), (73, .bipush 30, 2, 75), (75, .iaload, 1, 76), (76, .iconst 1, 1, 77), (77, .aload_n 0, 1, 78), (78, .getfield 22, 3, 81), (81, .iconst 2, 1, 82), (82, .iaload, 1, 83), (83, .invokestatic 253, 3, 86), (86, .if_icmp .ne 62, 3, 89), (89, .aload_n 0, 1, 90), (90, .getfield 37, 3, 93), (93, .bipush 27, 2, 95), (95, .dup2, 1, 96), (96, .iaload, 1, 97), (97, .iconst 1, 1, 98), (98, .iadd, 1, 99), (99, .iastore, 1, 100), (100, .aload_n 0, 1, 101), (101, .getfield 37, 3, 104), (104, .bipush 28, 2, 106), (106, .aload_n 0, 1, 107), (107, .getfield 37, 3, 110), (110, .bipush 28, 2, 112), (112, .iaload, 1, 113), (113, .aload_n 0, 1, 114), (114, .getfield 37, 3, 117), (117, .bipush 29, 2, 119), (119, .iaload, 1, 120), (120, .aload_n 0, 1, 121), (121, .getfield 37, 3, 124), (124, .bipush 30, 2, 126), (126, .iaload, 1, 127), (127, .isub, 1, 128), (128, .invokestatic 253, 3, 131), (131, .iastore, 1, 132), (132, .aload_n 0, 1, 133), (133, .getfield 37, 3, 136), (136, .bipush 29, 2, 138), (138, .iconst 0, 1, 139), (139, .iastore, 1, 140), (140, .aload_n 0, 1, 141), (141, .getfield 37, 3, 144), (144, .bipush 30, 2, 146), (146, .iconst 0, 1, 147), (147, .iastore, 1, 148), (148, .return_, 1, 149)]
theorem ktX12_runOn : TbOK mX12_runOn tX12_runOn := by
  unfold TbOK
  decide +kernel
theorem kdX12_runOn (k : Nat) {pc : Nat} {i : Instr} {len nx : Nat} (hk : tX12_runOn[k]? = some (pc, i, len, nx)) : Dc mX12_runOn pc i len nx := dc_of ktX12_runOn k hk
theorem iX12_runOn : MiV mX12_runOn := ⟨⟨gdw_of (i := 1742) (by decide +kernel) (by decide +kernel), gdw_of (i := 124) (by decide +kernel) (by decide +kernel), by decide, by decide, by decide⟩, gdw_of (i := 1741) (by decide +kernel) (by decide +kernel), gdw_of (i := 84) (by decide +kernel) (by decide +kernel)⟩
abbrev mX12_note : hMt := (yX12_note, cX12_note, 4, none)
def tX12_note : hTb := [(0, .aload_n 0, 1, 1), (1, .getfield 256, 3, 4), (4, .ifCond .eq 4, 3, 7), (7, .return_, 1, 8), (8, .aload_n 0, 1, 9), (9, .getfield 37, 3, 12), (12, .bipush 51, 2, 14), (14, .iaload, 1, 15), (15, .bipush 60, 2, 17), (17, .if_icmp .ne 49, 3, 20), (20, .iconst 3, 1, 21), (21, .istore_n 3, 1, 22), (22, .iload_n 3, 1, 23), (23, .sipush 180, 3, 26), (26, .if_icmp .ge 29, 3, 29), (29, .aload_n 0, 1, 30), (30, .getfield 37, 3, 33), (33, .bipush 52, 2, 35), (35, .iload_n 3, 1, 36), (36, .iadd, 1, 37), (37, .iconst 3, 1, 38), (38, .isub, 1, 39), (39, .aload_n 0, 1, 40), (40, .getfield 37, 3, 43), (43, .bipush 52, 2, 45), (45, .iload_n 3, 1, 46), (46, .iadd, 1, 47), (47, .iaload, 1, 48), (48, .iastore, 1, 49), (49, .iinc 3 1, 3, 52), (52, .goto (-30), 3, 55), (55, .aload_n 0, 1, 56), (56, .getfield 37, 3, 59), (59, .bipush 51, 2, 61), (61, .dup2, 1, 62), (62, .iaload, 1, 63), (63, .iconst 1, 1, 64), (64, .isub, 1, 65), (65, .iastore, 1, 66), (66, .bipush 52, 2, 68), (68, .iconst 3, 1, 69), (69, .aload_n 0, 1, 70), (70, .getfield 37, 3, 73), (73, .bipush 51, 2, 75), (75, .iaload, 1, 76), (76, .imul, 1, 77), (77, .iadd, 1, 78), (78, .istore_n 3, 1, 79), (79, .aload_n 0, 1, 80), (80, .getfield 37, 3, 83), (83, .iload_n 3, 1, 84), (84, .iload_n 1, 1, 85), (85, .iastore, 1, 86), (86, .aload_n 0, 1, 87), (87, .getfield 37, 3, 90), (90, .iload_n 3, 1, 91), (91, .iconst 1, 1, 92), (92, .iadd, 1, 93), (93, .aload_n 0, 1, 94), (94, .getfield 37, 3, 97), (97, .bipush 44, 2, 99), (99, .iaload, 1, 100), (100, .iastore, 1, 101), (101, .aload_n 0, 1, 102), (102, .getfield 37, 3, 105), (105, .iload_n 3, 1, 106), (106, .iconst 2, 1, 107), (107, .iadd, 1, 108), (108, .iload_n 2, 1, 109), (109, .iastore, 1, 110), (110, .aload_n 0, 1, 111), (111, .getfield 37, 3, 114), (114, .bipush 51, 2, 116), (116, .dup2, 1, 117), (117, .iaload, 1, 118), (118, .iconst 1, 1, 119), (119, .iadd, 1, 120), (120, .iastore, 1, 121), (121, .return_, 1, 122)]
theorem ktX12_note : TbOK mX12_note tX12_note := by
  unfold TbOK
  decide +kernel
theorem kdX12_note (k : Nat) {pc : Nat} {i : Instr} {len nx : Nat} (hk : tX12_note[k]? = some (pc, i, len, nx)) : Dc mX12_note pc i len nx := dc_of ktX12_note k hk
theorem iX12_note : MiV mX12_note := ⟨⟨gdw_of (i := 1746) (by decide +kernel) (by decide +kernel), gdw_of (i := 124) (by decide +kernel) (by decide +kernel), by decide, by decide, by decide⟩, gdw_of (i := 1745) (by decide +kernel) (by decide +kernel), gdw_of (i := 85) (by decide +kernel) (by decide +kernel)⟩
theorem lX12_200 : Lk RX12 200 mX12_readScript := Or.inl (gdw_of (i := 1639) (by decide +kernel) (by decide +kernel))
theorem lX12_213 : Lk RX12 213 mX12_taps := Or.inl (gdw_of (i := 1661) (by decide +kernel) (by decide +kernel))
theorem lX12_216 : Lk RX12 216 mX12_takeLine := Or.inl (gdw_of (i := 1657) (by decide +kernel) (by decide +kernel))
theorem lX12_228 : Lk RX12 228 mX12_drawNoise := Or.inl (gdw_of (i := 1701) (by decide +kernel) (by decide +kernel))
theorem lX12_231 : Lk RX12 231 mX12_takenOff := Or.inl (gdw_of (i := 1712) (by decide +kernel) (by decide +kernel))
theorem lX12_249 : Lk RX12 249 mX12_vote := Or.inl (gdw_of (i := 1732) (by decide +kernel) (by decide +kernel))
theorem lX12_259 : Lk RX12 259 mX12_nextBit := Or.inl (gdw_of (i := 1685) (by decide +kernel) (by decide +kernel))
theorem lX12_262 : Lk RX12 262 mX12_shift := Or.inl (gdw_of (i := 1689) (by decide +kernel) (by decide +kernel))
theorem lX12_266 : Lk RX12 266 mX12_clean := Or.inl (gdw_of (i := 1693) (by decide +kernel) (by decide +kernel))
theorem lX12_269 : Lk RX12 269 mX12_noise := Or.inl (gdw_of (i := 1697) (by decide +kernel) (by decide +kernel))
theorem lX12_272 : Lk RX12 272 mX12_weighNow := Or.inl (gdw_of (i := 1708) (by decide +kernel) (by decide +kernel))
theorem lX12_275 : Lk RX12 275 mX12_hush := Or.inl (gdw_of (i := 1723) (by decide +kernel) (by decide +kernel))
theorem lX12_278 : Lk RX12 278 mX12_learn := Or.inl (gdw_of (i := 1728) (by decide +kernel) (by decide +kernel))
theorem lX12_281 : Lk RX12 281 mX12_runOn := Or.inl (gdw_of (i := 1739) (by decide +kernel) (by decide +kernel))
theorem lX12_284 : Lk RX12 284 mX12_note := Or.inl (gdw_of (i := 1743) (by decide +kernel) (by decide +kernel))
def JX12_readScript_139 (K19 : Int32 → hM → hR) (K143 : hM → hR) (v1 : Int32) (v100 : Int32) (m : hM) : hR :=
  K19 v100 m
set_option maxRecDepth 20000 in
theorem BX12_readScript_139 (v1 : Int32) (K19 : Int32 → hM → hR) (K143 : hM → hR) (h19 : ∀ (v2 : Int32) (m : hM), G mX12_readScript 4 19 [(0, .inr (.inr (40, 0))), (1, .inl v1), (2, .inl v2)] [] m (K19 v2 m)) (h143 : ∀ (m : hM), G mX12_readScript 4 143 [(0, .inr (.inr (40, 0)))] [] m (K143 m)) (v100 : Int32) (m : hM) : G mX12_readScript 4 139 [(0, .inr (.inr (40, 0))), (1, .inl v1)] [.inl v100] m (JX12_readScript_139 K19 K143 v1 v100 m) := by
  unfold JX12_readScript_139
  refine g_istore_n (L2 := [(2, .inl v100), (0, .inr (.inr (40, 0))), (1, .inl v1)]) (kdX12_readScript 86 rfl) rfl (by decide) ?_
  refine g_goto (tgt := 19) (kdX12_readScript 87 rfl) (by decide) ?_
  exact g_fgt [1, 2, 0] rfl (h19 v100 m)
def JX12_readScript_138 (K19 : Int32 → hM → hR) (K143 : hM → hR) (v1 : Int32) (m : hM) : hR :=
  JX12_readScript_139 K19 K143 v1 0 m
set_option maxRecDepth 20000 in
theorem BX12_readScript_138 (v1 : Int32) (K19 : Int32 → hM → hR) (K143 : hM → hR) (h19 : ∀ (v2 : Int32) (m : hM), G mX12_readScript 4 19 [(0, .inr (.inr (40, 0))), (1, .inl v1), (2, .inl v2)] [] m (K19 v2 m)) (h143 : ∀ (m : hM), G mX12_readScript 4 143 [(0, .inr (.inr (40, 0)))] [] m (K143 m)) (m : hM) : G mX12_readScript 4 138 [(0, .inr (.inr (40, 0))), (1, .inl v1)] [] m (JX12_readScript_138 K19 K143 v1 m) := by
  unfold JX12_readScript_138
  refine g_iconst (v := 0) (kdX12_readScript 85 rfl) (by decide) ?_
  exact g_fgt [0, 1] rfl (BX12_readScript_139 v1 _ _ h19 h143 0 m)
def JX12_readScript_97 (K19 : Int32 → hM → hR) (K143 : hM → hR) (v1 : Int32) (m : hM) : hR :=
  ald m 49 0 v1 fun x13 =>
  ast m 49 0 v1 (x13 + 1) fun m14 =>
  if (m14.1 40 0 4) = (-1) then (if (m14.1 40 0 5) = 3 then (ald m14 49 0 v1 fun x15 =>
  if 12 ≤ x15 then (JX12_readScript_138 K19 K143 v1 m14) else (JX12_readScript_139 K19 K143 v1 1 m14)) else (JX12_readScript_138 K19 K143 v1 m14)) else (JX12_readScript_138 K19 K143 v1 m14)
set_option maxRecDepth 20000 in
theorem BX12_readScript_97 (v1 : Int32) (K19 : Int32 → hM → hR) (K143 : hM → hR) (h19 : ∀ (v2 : Int32) (m : hM), G mX12_readScript 4 19 [(0, .inr (.inr (40, 0))), (1, .inl v1), (2, .inl v2)] [] m (K19 v2 m)) (h143 : ∀ (m : hM), G mX12_readScript 4 143 [(0, .inr (.inr (40, 0)))] [] m (K143 m)) (m : hM) : G mX12_readScript 4 97 [(0, .inr (.inr (40, 0))), (1, .inl v1)] [] m (JX12_readScript_97 K19 K143 v1 m) := by
  unfold JX12_readScript_97
  refine g_aload_n 0 (kdX12_readScript 61 rfl) rfl ?_
  refine g_get (v := .inr (.inr (49, 0))) (kdX12_readScript 62 rfl) fX12_34 rfl ?_
  refine g_iload_n 1 (kdX12_readScript 63 rfl) rfl ?_
  refine g_dup2 (kdX12_readScript 64 rfl) rfl rfl ?_
  refine g_iald (kdX12_readScript 65 rfl) (fun x13 => ?_)
  refine g_iconst (v := 1) (kdX12_readScript 66 rfl) (by decide) ?_
  refine g_iadd (kdX12_readScript 67 rfl) ?_
  refine g_iast (kdX12_readScript 68 rfl) (fun m14 => ?_)
  refine g_aload_n 0 (kdX12_readScript 69 rfl) rfl ?_
  refine g_get (v := .inl (m14.1 40 0 4)) (kdX12_readScript 70 rfl) fX12_132 rfl ?_
  refine g_iconst (v := (-1)) (kdX12_readScript 71 rfl) (by decide) ?_
  refine g_icmp_ne (tgt := 138) (kdX12_readScript 72 rfl) (by decide) (fun _ => ?_) (fun _ => ?_)
  · exact g_fgt [0, 1] rfl (BX12_readScript_138 v1 _ _ h19 h143 m14)
  · refine g_aload_n 0 (kdX12_readScript 73 rfl) rfl ?_
    refine g_get (v := .inl (m14.1 40 0 5)) (kdX12_readScript 74 rfl) fX12_96 rfl ?_
    refine g_iconst (v := 3) (kdX12_readScript 75 rfl) (by decide) ?_
    refine g_icmp_ne (tgt := 138) (kdX12_readScript 76 rfl) (by decide) (fun _ => ?_) (fun _ => ?_)
    · exact g_fgt [0, 1] rfl (BX12_readScript_138 v1 _ _ h19 h143 m14)
    · refine g_aload_n 0 (kdX12_readScript 77 rfl) rfl ?_
      refine g_get (v := .inr (.inr (49, 0))) (kdX12_readScript 78 rfl) fX12_34 rfl ?_
      refine g_iload_n 1 (kdX12_readScript 79 rfl) rfl ?_
      refine g_iald (kdX12_readScript 80 rfl) (fun x15 => ?_)
      refine g_bipush (v := 12) (kdX12_readScript 81 rfl) (by decide) ?_
      refine g_icmp_ge (tgt := 138) (kdX12_readScript 82 rfl) (by decide) (fun _ => ?_) (fun _ => ?_)
      · exact g_fgt [0, 1] rfl (BX12_readScript_138 v1 _ _ h19 h143 m14)
      · refine g_iconst (v := 1) (kdX12_readScript 83 rfl) (by decide) ?_
        refine g_goto (tgt := 139) (kdX12_readScript 84 rfl) (by decide) ?_
        exact g_fgt [0, 1] rfl (BX12_readScript_139 v1 _ _ h19 h143 1 m14)
def bJX12_readScript_19 (K19 : Int32 → hM → hR) (K143 : hM → hR) (v1 : Int32) (v2 : Int32) (m : hM) : hR :=
  if v2 = 0 then (K143 m) else (calV (JX12_next m) fun m4 =>
  calI (JX12_wordAsked 1 m4) fun x6 m5 =>
  ald m5 49 0 v1 fun x7 =>
  lt (3 * ((12 * v1) + x7)) fun x8 =>
  if x6 = (-1) then (calV (JX12_bad m5) fun m16 =>
  JX12_readScript_97 K19 K143 v1 m16) else (ast m5 48 0 x8 x6 fun m9 =>
  ast m9 48 0 (x8 + 1) (-1000000000) fun m10 =>
  ast m10 48 0 (x8 + 2) (-1000000000) fun m11 =>
  calV (JX12_stepNumbers x6 x8 m11) fun m12 =>
  JX12_readScript_97 K19 K143 v1 m12))
set_option maxRecDepth 20000 in
theorem BbJX12_readScript_19 (K19 : Int32 → hM → hR) (K143 : hM → hR) (v1 : Int32) (h19 : ∀ (v2 : Int32) (m : hM), G mX12_readScript 4 19 [(0, .inr (.inr (40, 0))), (1, .inl v1), (2, .inl v2)] [] m (K19 v2 m)) (h143 : ∀ (m : hM), G mX12_readScript 4 143 [(0, .inr (.inr (40, 0)))] [] m (K143 m)) (v2 : Int32) (m : hM) : G mX12_readScript 4 19 [(0, .inr (.inr (40, 0))), (1, .inl v1), (2, .inl v2)] [] m (bJX12_readScript_19 K19 K143 v1 v2 m) := by
  unfold bJX12_readScript_19
  refine g_iload_n 2 (kdX12_readScript 13 rfl) rfl ?_
  refine g_if_eq (tgt := 143) (kdX12_readScript 14 rfl) (by decide) (fun _ => ?_) (fun _ => ?_)
  · exact g_fgt [0] rfl (h143 m)
  · refine g_aload_n 0 (kdX12_readScript 15 rfl) rfl ?_
    refine g_calV (ck_V (As := []) (S := []) (t := 40) (o := 0) (kdX12_readScript 16 rfl) iX12_next lX12_154 rc_40 rfl rfl rfl (by decide) (by simp only [List.map, vcat, List.sum_cons, List.sum_nil]; decide)) (CX12_next m) (fun m4 => ?_)
    refine g_aload_n 0 (kdX12_readScript 17 rfl) rfl ?_
    refine g_iconst (v := 1) (kdX12_readScript 18 rfl) (by decide) ?_
    refine g_calI (ck_V (As := [.inl 1]) (S := []) (t := 40) (o := 0) (kdX12_readScript 19 rfl) iX12_wordAsked lX12_174 rc_40 rfl rfl rfl (by decide) (by simp only [List.map, vcat, List.sum_cons, List.sum_nil]; decide)) (CX12_wordAsked 1 m4) (fun x6 m5 => ?_)
    refine g_istore_n (L2 := [(3, .inl x6), (0, .inr (.inr (40, 0))), (1, .inl v1), (2, .inl v2)]) (kdX12_readScript 20 rfl) rfl (by decide) ?_
    refine g_iconst (v := 3) (kdX12_readScript 21 rfl) (by decide) ?_
    refine g_bipush (v := 12) (kdX12_readScript 22 rfl) (by decide) ?_
    refine g_iload_n 2 (kdX12_readScript 23 rfl) rfl ?_
    refine g_imul (kdX12_readScript 24 rfl) ?_
    refine g_aload_n 1 (kdX12_readScript 25 rfl) rfl ?_
    refine g_get (v := .inr (.inr (49, 0))) (kdX12_readScript 26 rfl) fX12_34 rfl ?_
    refine g_iload_n 2 (kdX12_readScript 27 rfl) rfl ?_
    refine g_iald (kdX12_readScript 28 rfl) (fun x7 => ?_)
    refine g_iadd (kdX12_readScript 29 rfl) ?_
    refine g_imul (kdX12_readScript 30 rfl) ?_
    refine g_lt (fun x8 => ?_)
    refine g_istore (L2 := [(4, .inl x8), (3, .inl x6), (0, .inr (.inr (40, 0))), (1, .inl v1), (2, .inl v2)]) (kdX12_readScript 31 rfl) rfl (by decide) ?_
    refine g_iload_n 1 (kdX12_readScript 32 rfl) rfl ?_
    refine g_iconst (v := (-1)) (kdX12_readScript 33 rfl) (by decide) ?_
    refine g_icmp_ne (tgt := 60) (kdX12_readScript 34 rfl) (by decide) (fun _ => ?_) (fun _ => ?_)
    · refine g_aload_n 2 (kdX12_readScript 38 rfl) rfl ?_
      refine g_get (v := .inr (.inr (48, 0))) (kdX12_readScript 39 rfl) fX12_31 rfl ?_
      refine g_iload 0 (kdX12_readScript 40 rfl) rfl ?_
      refine g_iload_n 1 (kdX12_readScript 41 rfl) rfl ?_
      refine g_iast (kdX12_readScript 42 rfl) (fun m9 => ?_)
      refine g_aload_n 2 (kdX12_readScript 43 rfl) rfl ?_
      refine g_get (v := .inr (.inr (48, 0))) (kdX12_readScript 44 rfl) fX12_31 rfl ?_
      refine g_iload 0 (kdX12_readScript 45 rfl) rfl ?_
      refine g_iconst (v := 1) (kdX12_readScript 46 rfl) (by decide) ?_
      refine g_iadd (kdX12_readScript 47 rfl) ?_
      refine g_ldc (kdX12_readScript 48 rfl) cX12_50 ?_
      refine g_iast (kdX12_readScript 49 rfl) (fun m10 => ?_)
      refine g_aload_n 2 (kdX12_readScript 50 rfl) rfl ?_
      refine g_get (v := .inr (.inr (48, 0))) (kdX12_readScript 51 rfl) fX12_31 rfl ?_
      refine g_iload 0 (kdX12_readScript 52 rfl) rfl ?_
      refine g_iconst (v := 2) (kdX12_readScript 53 rfl) (by decide) ?_
      refine g_iadd (kdX12_readScript 54 rfl) ?_
      refine g_ldc (kdX12_readScript 55 rfl) cX12_50 ?_
      refine g_iast (kdX12_readScript 56 rfl) (fun m11 => ?_)
      refine g_aload_n 2 (kdX12_readScript 57 rfl) rfl ?_
      refine g_iload_n 1 (kdX12_readScript 58 rfl) rfl ?_
      refine g_iload 0 (kdX12_readScript 59 rfl) rfl ?_
      refine g_calV (ck_V (As := [.inl x6, .inl x8]) (S := []) (t := 40) (o := 0) (kdX12_readScript 60 rfl) iX12_stepNumbers lX12_193 rc_40 rfl rfl rfl (by decide) (by simp only [List.map, vcat, List.sum_cons, List.sum_nil]; decide)) (CX12_stepNumbers x6 x8 m11) (fun m12 => ?_)
      exact g_fgt [2, 3] rfl (BX12_readScript_97 v1 _ _ h19 h143 m12)
    · refine g_aload_n 2 (kdX12_readScript 35 rfl) rfl ?_
      refine g_calV (ck_V (As := []) (S := []) (t := 40) (o := 0) (kdX12_readScript 36 rfl) iX12_bad lX12_164 rc_40 rfl rfl rfl (by decide) (by simp only [List.map, vcat, List.sum_cons, List.sum_nil]; decide)) (CX12_bad m5) (fun m16 => ?_)
      refine g_goto (tgt := 97) (kdX12_readScript 37 rfl) (by decide) ?_
      exact g_fgt [2, 3] rfl (BX12_readScript_97 v1 _ _ h19 h143 m16)
def JX12_readScript_19 (K143 : hM → hR) (v1 : Int32) : Nat → Int32 → hM → hR
  | 0, _, _ => none
  | f + 1, v2, m => bJX12_readScript_19 (fun v2 m => JX12_readScript_19 K143 v1 f v2 m) K143 v1 v2 m
theorem BJX12_readScript_19 (K143 : hM → hR) (v1 : Int32) (h143 : ∀ (m : hM), G mX12_readScript 4 143 [(0, .inr (.inr (40, 0)))] [] m (K143 m)) : ∀ (f : Nat) (v2 : Int32) (m : hM), G mX12_readScript 4 19 [(0, .inr (.inr (40, 0))), (1, .inl v1), (2, .inl v2)] [] m (JX12_readScript_19 K143 v1 f v2 m)
  | 0, _, _ => g_none
  | f + 1, v2, m => BbJX12_readScript_19  _ K143 v1 (fun v2 m => BJX12_readScript_19  K143 v1 h143 f v2 m) h143 v2 m
def JX12_readScript (a1 : Int32) (m : hM) : hR :=
  stI m 40 0 3 0 fun m1 =>
  stI m1 40 0 4 (-1) fun m2 =>
  ast m2 49 0 a1 0 fun m3 =>
  JX12_readScript_19 (fun m17 => if (m17.1 40 0 4) = (-1) then (if (m17.1 40 0 5) = 0 then (some (some (.inl (m17.1 40 0 4)), m17)) else (calV (JX12_bad m17) fun m18 =>
  some (some (.inl (m18.1 40 0 4)), m18))) else (some (some (.inl (m17.1 40 0 4)), m17))) a1 FU 1 m3
set_option maxRecDepth 20000 in
theorem CX12_readScript (a1 : Int32) (m : hM) : Cn mX12_readScript 4 [.inr (.inr (40, 0)), .inl a1] m (JX12_readScript a1 m) := by
  refine cn_of (by decide +kernel) (by simp only [List.map, vcat, List.sum_cons, List.sum_nil]; decide) ?_
  unfold JX12_readScript
  show G mX12_readScript 4 0 [(0, .inr (.inr (40, 0))), (1, .inl a1)] [] m _
  refine g_aload_n 0 (kdX12_readScript 0 rfl) rfl ?_
  refine g_iconst (v := 0) (kdX12_readScript 1 rfl) (by decide) ?_
  refine g_putI (kdX12_readScript 2 rfl) fX12_93 rfl (fun m1 => ?_)
  refine g_aload_n 0 (kdX12_readScript 3 rfl) rfl ?_
  refine g_iconst (v := (-1)) (kdX12_readScript 4 rfl) (by decide) ?_
  refine g_putI (kdX12_readScript 5 rfl) fX12_132 rfl (fun m2 => ?_)
  refine g_aload_n 0 (kdX12_readScript 6 rfl) rfl ?_
  refine g_get (v := .inr (.inr (49, 0))) (kdX12_readScript 7 rfl) fX12_34 rfl ?_
  refine g_iload_n 1 (kdX12_readScript 8 rfl) rfl ?_
  refine g_iconst (v := 0) (kdX12_readScript 9 rfl) (by decide) ?_
  refine g_iast (kdX12_readScript 10 rfl) (fun m3 => ?_)
  refine g_iconst (v := 1) (kdX12_readScript 11 rfl) (by decide) ?_
  refine g_istore_n (L2 := [(2, .inl 1), (0, .inr (.inr (40, 0))), (1, .inl a1)]) (kdX12_readScript 12 rfl) rfl (by decide) ?_
  refine g_fgt [1, 2, 0] rfl (BJX12_readScript_19  _ a1 ?_ FU 1 m3)
  · intro m17
    refine g_aload_n 0 (kdX12_readScript 88 rfl) rfl ?_
    refine g_get (v := .inl (m17.1 40 0 4)) (kdX12_readScript 89 rfl) fX12_132 rfl ?_
    refine g_iconst (v := (-1)) (kdX12_readScript 90 rfl) (by decide) ?_
    refine g_icmp_ne (tgt := 162) (kdX12_readScript 91 rfl) (by decide) (fun _ => ?_) (fun _ => ?_)
    · refine g_aload_n 0 (kdX12_readScript 97 rfl) rfl ?_
      refine g_get (v := .inl (m17.1 40 0 4)) (kdX12_readScript 98 rfl) fX12_132 rfl ?_
      exact g_iret rfl (kdX12_readScript 99 rfl)
    · refine g_aload_n 0 (kdX12_readScript 92 rfl) rfl ?_
      refine g_get (v := .inl (m17.1 40 0 5)) (kdX12_readScript 93 rfl) fX12_96 rfl ?_
      refine g_if_eq (tgt := 162) (kdX12_readScript 94 rfl) (by decide) (fun _ => ?_) (fun _ => ?_)
      · refine g_aload_n 0 (kdX12_readScript 97 rfl) rfl ?_
        refine g_get (v := .inl (m17.1 40 0 4)) (kdX12_readScript 98 rfl) fX12_132 rfl ?_
        exact g_iret rfl (kdX12_readScript 99 rfl)
      · refine g_aload_n 0 (kdX12_readScript 95 rfl) rfl ?_
        refine g_calV (ck_V (As := []) (S := []) (t := 40) (o := 0) (kdX12_readScript 96 rfl) iX12_bad lX12_164 rc_40 rfl rfl rfl (by decide) (by simp only [List.map, vcat, List.sum_cons, List.sum_nil]; decide)) (CX12_bad m17) (fun m18 => ?_)
        refine g_aload_n 0 (kdX12_readScript 97 rfl) rfl ?_
        refine g_get (v := .inl (m18.1 40 0 4)) (kdX12_readScript 98 rfl) fX12_132 rfl ?_
        exact g_iret rfl (kdX12_readScript 99 rfl)
def JX12_fault (a1 : Int32) (m : hM) : hR :=
  if a1 = 0 then (calI (JX12_readLine m) fun x4 m3 =>
  some (some (.inl x4), m3)) else (if a1 = 1 then (calI (JX12_readScript 4 m) fun x2 m1 =>
  some (some (.inl x2), m1)) else (some (some (.inl (-2)), m)))
set_option maxRecDepth 20000 in
theorem CX12_fault (a1 : Int32) (m : hM) : Cn mX12_fault 6 [.inr (.inr (40, 0)), .inl a1] m (JX12_fault a1 m) := by
  refine cn_of (by decide +kernel) (by simp only [List.map, vcat, List.sum_cons, List.sum_nil]; decide) ?_
  unfold JX12_fault
  show G mX12_fault 6 0 [(0, .inr (.inr (40, 0))), (1, .inl a1)] [] m _
  refine g_iload_n 1 (kdX12_fault 0 rfl) rfl ?_
  refine g_if_ne (tgt := 11) (kdX12_fault 1 rfl) (by decide) (fun _ => ?_) (fun _ => ?_)
  · refine g_iload_n 1 (kdX12_fault 5 rfl) rfl ?_
    refine g_iconst (v := 1) (kdX12_fault 6 rfl) (by decide) ?_
    refine g_icmp_ne (tgt := 24) (kdX12_fault 7 rfl) (by decide) (fun _ => ?_) (fun _ => ?_)
    · refine g_bipush (v := (-2)) (kdX12_fault 12 rfl) (by decide) ?_
      exact g_iret rfl (kdX12_fault 13 rfl)
    · refine g_aload_n 0 (kdX12_fault 8 rfl) rfl ?_
      refine g_iconst (v := 4) (kdX12_fault 9 rfl) (by decide) ?_
      refine g_calI (ck_V (As := [.inl 4]) (S := []) (t := 40) (o := 0) (kdX12_fault 10 rfl) iX12_readScript lX12_200 rc_40 rfl rfl rfl (by decide) (by simp only [List.map, vcat, List.sum_cons, List.sum_nil]; decide)) (CX12_readScript 4 m) (fun x2 m1 => ?_)
      refine g_goto (tgt := 26) (kdX12_fault 11 rfl) (by decide) ?_
      exact g_iret rfl (kdX12_fault 13 rfl)
  · refine g_aload_n 0 (kdX12_fault 2 rfl) rfl ?_
    refine g_calI (ck_V (As := []) (S := []) (t := 40) (o := 0) (kdX12_fault 3 rfl) iX12_readLine lX12_197 rc_40 rfl rfl rfl (by decide) (by simp only [List.map, vcat, List.sum_cons, List.sum_nil]; decide)) (CX12_readLine m) (fun x4 m3 => ?_)
    refine g_goto (tgt := 26) (kdX12_fault 4 rfl) (by decide) ?_
    exact g_iret rfl (kdX12_fault 13 rfl)
def JX12_taps  (m : hM) : hR :=
  if (m.1 40 0 15) = 0 then (some (some (.inl 0), m)) else (ald m 45 0 1 fun x1 =>
  ald m 45 0 2 fun x2 =>
  some (some (.inl (x1 + x2)), m))
set_option maxRecDepth 20000 in
theorem CX12_taps  (m : hM) : Cn mX12_taps 0 [.inr (.inr (40, 0))] m (JX12_taps  m) := by
  refine cn_of (by decide +kernel) (by simp only [List.map, vcat, List.sum_cons, List.sum_nil]; decide) ?_
  unfold JX12_taps
  show G mX12_taps 0 0 [(0, .inr (.inr (40, 0)))] [] m _
  refine g_aload_n 0 (kdX12_taps 0 rfl) rfl ?_
  refine g_get (v := .inl (m.1 40 0 15)) (kdX12_taps 1 rfl) fX12_203 rfl ?_
  refine g_if_eq (tgt := 23) (kdX12_taps 2 rfl) (by decide) (fun _ => ?_) (fun _ => ?_)
  · refine g_iconst (v := 0) (kdX12_taps 13 rfl) (by decide) ?_
    exact g_iret rfl (kdX12_taps 14 rfl)
  · refine g_aload_n 0 (kdX12_taps 3 rfl) rfl ?_
    refine g_get (v := .inr (.inr (45, 0))) (kdX12_taps 4 rfl) fX12_22 rfl ?_
    refine g_iconst (v := 1) (kdX12_taps 5 rfl) (by decide) ?_
    refine g_iald (kdX12_taps 6 rfl) (fun x1 => ?_)
    refine g_aload_n 0 (kdX12_taps 7 rfl) rfl ?_
    refine g_get (v := .inr (.inr (45, 0))) (kdX12_taps 8 rfl) fX12_22 rfl ?_
    refine g_iconst (v := 2) (kdX12_taps 9 rfl) (by decide) ?_
    refine g_iald (kdX12_taps 10 rfl) (fun x2 => ?_)
    refine g_iadd (kdX12_taps 11 rfl) ?_
    refine g_goto (tgt := 24) (kdX12_taps 12 rfl) (by decide) ?_
    exact g_iret rfl (kdX12_taps 14 rfl)
def bJX12_takeLine_7 (K7 : Int32 → hM → hR) (K31 : hM → hR) (v1 : Int32) (m : hM) : hR :=
  if 13 ≤ v1 then (K31 m) else (ald m 42 0 v1 fun x2 =>
  ast m 45 0 v1 x2 fun m3 =>
  K7 (v1 + 1) m3)
set_option maxRecDepth 20000 in
theorem BbJX12_takeLine_7 (K7 : Int32 → hM → hR) (K31 : hM → hR) (h7 : ∀ (v1 : Int32) (m : hM), G mX12_takeLine 1 7 [(0, .inr (.inr (40, 0))), (1, .inl v1)] [] m (K7 v1 m)) (h31 : ∀ (m : hM), G mX12_takeLine 1 31 [(0, .inr (.inr (40, 0)))] [] m (K31 m)) (v1 : Int32) (m : hM) : G mX12_takeLine 1 7 [(0, .inr (.inr (40, 0))), (1, .inl v1)] [] m (bJX12_takeLine_7 K7 K31 v1 m) := by
  unfold bJX12_takeLine_7
  refine g_iload_n 1 (kdX12_takeLine 5 rfl) rfl ?_
  refine g_bipush (v := 13) (kdX12_takeLine 6 rfl) (by decide) ?_
  refine g_icmp_ge (tgt := 31) (kdX12_takeLine 7 rfl) (by decide) (fun _ => ?_) (fun _ => ?_)
  · exact g_fgt [0] rfl (h31 m)
  · refine g_aload_n 0 (kdX12_takeLine 8 rfl) rfl ?_
    refine g_get (v := .inr (.inr (45, 0))) (kdX12_takeLine 9 rfl) fX12_22 rfl ?_
    refine g_iload_n 1 (kdX12_takeLine 10 rfl) rfl ?_
    refine g_aload_n 0 (kdX12_takeLine 11 rfl) rfl ?_
    refine g_get (v := .inr (.inr (42, 0))) (kdX12_takeLine 12 rfl) fX12_13 rfl ?_
    refine g_iload_n 1 (kdX12_takeLine 13 rfl) rfl ?_
    refine g_iald (kdX12_takeLine 14 rfl) (fun x2 => ?_)
    refine g_iast (kdX12_takeLine 15 rfl) (fun m3 => ?_)
    refine g_iinc (v := v1 + 1) (L2 := [(1, .inl (v1 + 1)), (0, .inr (.inr (40, 0)))]) 1 (kdX12_takeLine 16 rfl) rfl rfl rfl (by decide) ?_
    refine g_goto (tgt := 7) (kdX12_takeLine 17 rfl) (by decide) ?_
    exact g_fgt [1, 0] rfl (h7 (v1 + 1) m3)
def JX12_takeLine_7 (K31 : hM → hR) : Nat → Int32 → hM → hR
  | 0, _, _ => none
  | f + 1, v1, m => bJX12_takeLine_7 (fun v1 m => JX12_takeLine_7 K31  f v1 m) K31  v1 m
theorem BJX12_takeLine_7 (K31 : hM → hR) (h31 : ∀ (m : hM), G mX12_takeLine 1 31 [(0, .inr (.inr (40, 0)))] [] m (K31 m)) : ∀ (f : Nat) (v1 : Int32) (m : hM), G mX12_takeLine 1 7 [(0, .inr (.inr (40, 0))), (1, .inl v1)] [] m (JX12_takeLine_7 K31  f v1 m)
  | 0, _, _ => g_none
  | f + 1, v1, m => BbJX12_takeLine_7  _ K31  (fun v1 m => BJX12_takeLine_7  K31  h31 f v1 m) h31 v1 m
def bJX12_takeLine_33 (K33 : Int32 → hM → hR) (K69 : hM → hR) (v1 : Int32) (m : hM) : hR :=
  if 16 ≤ v1 then (K69 m) else (ald m 43 0 v1 fun x5 =>
  ast m 46 0 v1 x5 fun m6 =>
  ald m6 44 0 v1 fun x7 =>
  ast m6 47 0 v1 x7 fun m8 =>
  K33 (v1 + 1) m8)
set_option maxRecDepth 20000 in
theorem BbJX12_takeLine_33 (K33 : Int32 → hM → hR) (K69 : hM → hR) (h33 : ∀ (v1 : Int32) (m : hM), G mX12_takeLine 1 33 [(0, .inr (.inr (40, 0))), (1, .inl v1)] [] m (K33 v1 m)) (h69 : ∀ (m : hM), G mX12_takeLine 1 69 [(0, .inr (.inr (40, 0)))] [] m (K69 m)) (v1 : Int32) (m : hM) : G mX12_takeLine 1 33 [(0, .inr (.inr (40, 0))), (1, .inl v1)] [] m (bJX12_takeLine_33 K33 K69 v1 m) := by
  unfold bJX12_takeLine_33
  refine g_iload_n 1 (kdX12_takeLine 20 rfl) rfl ?_
  refine g_bipush (v := 16) (kdX12_takeLine 21 rfl) (by decide) ?_
  refine g_icmp_ge (tgt := 69) (kdX12_takeLine 22 rfl) (by decide) (fun _ => ?_) (fun _ => ?_)
  · exact g_fgt [0] rfl (h69 m)
  · refine g_aload_n 0 (kdX12_takeLine 23 rfl) rfl ?_
    refine g_get (v := .inr (.inr (46, 0))) (kdX12_takeLine 24 rfl) fX12_25 rfl ?_
    refine g_iload_n 1 (kdX12_takeLine 25 rfl) rfl ?_
    refine g_aload_n 0 (kdX12_takeLine 26 rfl) rfl ?_
    refine g_get (v := .inr (.inr (43, 0))) (kdX12_takeLine 27 rfl) fX12_16 rfl ?_
    refine g_iload_n 1 (kdX12_takeLine 28 rfl) rfl ?_
    refine g_iald (kdX12_takeLine 29 rfl) (fun x5 => ?_)
    refine g_iast (kdX12_takeLine 30 rfl) (fun m6 => ?_)
    refine g_aload_n 0 (kdX12_takeLine 31 rfl) rfl ?_
    refine g_get (v := .inr (.inr (47, 0))) (kdX12_takeLine 32 rfl) fX12_28 rfl ?_
    refine g_iload_n 1 (kdX12_takeLine 33 rfl) rfl ?_
    refine g_aload_n 0 (kdX12_takeLine 34 rfl) rfl ?_
    refine g_get (v := .inr (.inr (44, 0))) (kdX12_takeLine 35 rfl) fX12_19 rfl ?_
    refine g_iload_n 1 (kdX12_takeLine 36 rfl) rfl ?_
    refine g_iald (kdX12_takeLine 37 rfl) (fun x7 => ?_)
    refine g_iast (kdX12_takeLine 38 rfl) (fun m8 => ?_)
    refine g_iinc (v := v1 + 1) (L2 := [(1, .inl (v1 + 1)), (0, .inr (.inr (40, 0)))]) 1 (kdX12_takeLine 39 rfl) rfl rfl rfl (by decide) ?_
    refine g_goto (tgt := 33) (kdX12_takeLine 40 rfl) (by decide) ?_
    exact g_fgt [1, 0] rfl (h33 (v1 + 1) m8)
def JX12_takeLine_33 (K69 : hM → hR) : Nat → Int32 → hM → hR
  | 0, _, _ => none
  | f + 1, v1, m => bJX12_takeLine_33 (fun v1 m => JX12_takeLine_33 K69  f v1 m) K69  v1 m
theorem BJX12_takeLine_33 (K69 : hM → hR) (h69 : ∀ (m : hM), G mX12_takeLine 1 69 [(0, .inr (.inr (40, 0)))] [] m (K69 m)) : ∀ (f : Nat) (v1 : Int32) (m : hM), G mX12_takeLine 1 33 [(0, .inr (.inr (40, 0))), (1, .inl v1)] [] m (JX12_takeLine_33 K69  f v1 m)
  | 0, _, _ => g_none
  | f + 1, v1, m => BbJX12_takeLine_33  _ K69  (fun v1 m => BJX12_takeLine_33  K69  h69 f v1 m) h69 v1 m
def bJX12_takeLine_71 (K71 : Int32 → hM → hR) (K91 : hM → hR) (v1 : Int32) (m : hM) : hR :=
  if 232 ≤ v1 then (K91 m) else (ast m 50 0 v1 0 fun m10 =>
  K71 (v1 + 1) m10)
set_option maxRecDepth 20000 in
theorem BbJX12_takeLine_71 (K71 : Int32 → hM → hR) (K91 : hM → hR) (h71 : ∀ (v1 : Int32) (m : hM), G mX12_takeLine 1 71 [(0, .inr (.inr (40, 0))), (1, .inl v1)] [] m (K71 v1 m)) (h91 : ∀ (m : hM), G mX12_takeLine 1 91 [(0, .inr (.inr (40, 0)))] [] m (K91 m)) (v1 : Int32) (m : hM) : G mX12_takeLine 1 71 [(0, .inr (.inr (40, 0))), (1, .inl v1)] [] m (bJX12_takeLine_71 K71 K91 v1 m) := by
  unfold bJX12_takeLine_71
  refine g_iload_n 1 (kdX12_takeLine 43 rfl) rfl ?_
  refine g_sipush (v := 232) (kdX12_takeLine 44 rfl) (by decide) ?_
  refine g_icmp_ge (tgt := 91) (kdX12_takeLine 45 rfl) (by decide) (fun _ => ?_) (fun _ => ?_)
  · exact g_fgt [0] rfl (h91 m)
  · refine g_aload_n 0 (kdX12_takeLine 46 rfl) rfl ?_
    refine g_get (v := .inr (.inr (50, 0))) (kdX12_takeLine 47 rfl) fX12_37 rfl ?_
    refine g_iload_n 1 (kdX12_takeLine 48 rfl) rfl ?_
    refine g_iconst (v := 0) (kdX12_takeLine 49 rfl) (by decide) ?_
    refine g_iast (kdX12_takeLine 50 rfl) (fun m10 => ?_)
    refine g_iinc (v := v1 + 1) (L2 := [(1, .inl (v1 + 1)), (0, .inr (.inr (40, 0)))]) 1 (kdX12_takeLine 51 rfl) rfl rfl rfl (by decide) ?_
    refine g_goto (tgt := 71) (kdX12_takeLine 52 rfl) (by decide) ?_
    exact g_fgt [1, 0] rfl (h71 (v1 + 1) m10)
def JX12_takeLine_71 (K91 : hM → hR) : Nat → Int32 → hM → hR
  | 0, _, _ => none
  | f + 1, v1, m => bJX12_takeLine_71 (fun v1 m => JX12_takeLine_71 K91  f v1 m) K91  v1 m
theorem BJX12_takeLine_71 (K91 : hM → hR) (h91 : ∀ (m : hM), G mX12_takeLine 1 91 [(0, .inr (.inr (40, 0)))] [] m (K91 m)) : ∀ (f : Nat) (v1 : Int32) (m : hM), G mX12_takeLine 1 71 [(0, .inr (.inr (40, 0))), (1, .inl v1)] [] m (JX12_takeLine_71 K91  f v1 m)
  | 0, _, _ => g_none
  | f + 1, v1, m => BbJX12_takeLine_71  _ K91  (fun v1 m => BJX12_takeLine_71  K91  h91 f v1 m) h91 v1 m
def JX12_takeLine  (m : hM) : hR :=
  stZ m 40 0 15 1 fun m1 =>
  JX12_takeLine_7 (fun m4 => JX12_takeLine_33 (fun m9 => JX12_takeLine_71 (fun m11 => ast m11 50 0 0 64 fun m12 =>
  ald m12 45 0 4 fun x13 =>
  ast m12 50 0 12 x13 fun m14 =>
  ald m14 45 0 8 fun x15 =>
  ast m14 50 0 19 x15 fun m16 =>
  ald m16 45 0 7 fun x17 =>
  ast m16 50 0 20 x17 fun m18 =>
  ald m18 45 0 9 fun x19 =>
  ast m18 50 0 21 x19 fun m20 =>
  ald m20 45 0 5 fun x21 =>
  stI m20 40 0 22 x21 fun m22 =>
  stI m22 40 0 28 0 fun m23 =>
  stZ m23 40 0 39 0 fun m24 =>
  calI (JX12_taps m24) fun x26 m25 =>
  some (some (.inl x26), m25))  FU 0 m9)  FU 0 m4)  FU 0 m1
set_option maxRecDepth 20000 in
theorem CX12_takeLine  (m : hM) : Cn mX12_takeLine 1 [.inr (.inr (40, 0))] m (JX12_takeLine  m) := by
  refine cn_of (by decide +kernel) (by simp only [List.map, vcat, List.sum_cons, List.sum_nil]; decide) ?_
  unfold JX12_takeLine
  show G mX12_takeLine 1 0 [(0, .inr (.inr (40, 0)))] [] m _
  refine g_aload_n 0 (kdX12_takeLine 0 rfl) rfl ?_
  refine g_iconst (v := 1) (kdX12_takeLine 1 rfl) (by decide) ?_
  refine g_putZ (kdX12_takeLine 2 rfl) fX12_203 rfl (fun m1 => ?_)
  refine g_iconst (v := 0) (kdX12_takeLine 3 rfl) (by decide) ?_
  refine g_istore_n (L2 := [(1, .inl 0), (0, .inr (.inr (40, 0)))]) (kdX12_takeLine 4 rfl) rfl (by decide) ?_
  refine g_fgt [1, 0] rfl (BJX12_takeLine_7  _  ?_ FU 0 m1)
  · intro m4
    refine g_iconst (v := 0) (kdX12_takeLine 18 rfl) (by decide) ?_
    refine g_istore_n (L2 := [(1, .inl 0), (0, .inr (.inr (40, 0)))]) (kdX12_takeLine 19 rfl) rfl (by decide) ?_
    refine g_fgt [1, 0] rfl (BJX12_takeLine_33  _  ?_ FU 0 m4)
    · intro m9
      refine g_iconst (v := 0) (kdX12_takeLine 41 rfl) (by decide) ?_
      refine g_istore_n (L2 := [(1, .inl 0), (0, .inr (.inr (40, 0)))]) (kdX12_takeLine 42 rfl) rfl (by decide) ?_
      refine g_fgt [1, 0] rfl (BJX12_takeLine_71  _  ?_ FU 0 m9)
      · intro m11
        refine g_aload_n 0 (kdX12_takeLine 53 rfl) rfl ?_
        refine g_get (v := .inr (.inr (50, 0))) (kdX12_takeLine 54 rfl) fX12_37 rfl ?_
        refine g_iconst (v := 0) (kdX12_takeLine 55 rfl) (by decide) ?_
        refine g_bipush (v := 64) (kdX12_takeLine 56 rfl) (by decide) ?_
        refine g_iast (kdX12_takeLine 57 rfl) (fun m12 => ?_)
        refine g_aload_n 0 (kdX12_takeLine 58 rfl) rfl ?_
        refine g_get (v := .inr (.inr (50, 0))) (kdX12_takeLine 59 rfl) fX12_37 rfl ?_
        refine g_bipush (v := 12) (kdX12_takeLine 60 rfl) (by decide) ?_
        refine g_aload_n 0 (kdX12_takeLine 61 rfl) rfl ?_
        refine g_get (v := .inr (.inr (45, 0))) (kdX12_takeLine 62 rfl) fX12_22 rfl ?_
        refine g_iconst (v := 4) (kdX12_takeLine 63 rfl) (by decide) ?_
        refine g_iald (kdX12_takeLine 64 rfl) (fun x13 => ?_)
        refine g_iast (kdX12_takeLine 65 rfl) (fun m14 => ?_)
        refine g_aload_n 0 (kdX12_takeLine 66 rfl) rfl ?_
        refine g_get (v := .inr (.inr (50, 0))) (kdX12_takeLine 67 rfl) fX12_37 rfl ?_
        refine g_bipush (v := 19) (kdX12_takeLine 68 rfl) (by decide) ?_
        refine g_aload_n 0 (kdX12_takeLine 69 rfl) rfl ?_
        refine g_get (v := .inr (.inr (45, 0))) (kdX12_takeLine 70 rfl) fX12_22 rfl ?_
        refine g_bipush (v := 8) (kdX12_takeLine 71 rfl) (by decide) ?_
        refine g_iald (kdX12_takeLine 72 rfl) (fun x15 => ?_)
        refine g_iast (kdX12_takeLine 73 rfl) (fun m16 => ?_)
        refine g_aload_n 0 (kdX12_takeLine 74 rfl) rfl ?_
        refine g_get (v := .inr (.inr (50, 0))) (kdX12_takeLine 75 rfl) fX12_37 rfl ?_
        refine g_bipush (v := 20) (kdX12_takeLine 76 rfl) (by decide) ?_
        refine g_aload_n 0 (kdX12_takeLine 77 rfl) rfl ?_
        refine g_get (v := .inr (.inr (45, 0))) (kdX12_takeLine 78 rfl) fX12_22 rfl ?_
        refine g_bipush (v := 7) (kdX12_takeLine 79 rfl) (by decide) ?_
        refine g_iald (kdX12_takeLine 80 rfl) (fun x17 => ?_)
        refine g_iast (kdX12_takeLine 81 rfl) (fun m18 => ?_)
        refine g_aload_n 0 (kdX12_takeLine 82 rfl) rfl ?_
        refine g_get (v := .inr (.inr (50, 0))) (kdX12_takeLine 83 rfl) fX12_37 rfl ?_
        refine g_bipush (v := 21) (kdX12_takeLine 84 rfl) (by decide) ?_
        refine g_aload_n 0 (kdX12_takeLine 85 rfl) rfl ?_
        refine g_get (v := .inr (.inr (45, 0))) (kdX12_takeLine 86 rfl) fX12_22 rfl ?_
        refine g_bipush (v := 9) (kdX12_takeLine 87 rfl) (by decide) ?_
        refine g_iald (kdX12_takeLine 88 rfl) (fun x19 => ?_)
        refine g_iast (kdX12_takeLine 89 rfl) (fun m20 => ?_)
        refine g_aload_n 0 (kdX12_takeLine 90 rfl) rfl ?_
        refine g_aload_n 0 (kdX12_takeLine 91 rfl) rfl ?_
        refine g_get (v := .inr (.inr (45, 0))) (kdX12_takeLine 92 rfl) fX12_22 rfl ?_
        refine g_iconst (v := 5) (kdX12_takeLine 93 rfl) (by decide) ?_
        refine g_iald (kdX12_takeLine 94 rfl) (fun x21 => ?_)
        refine g_putI (kdX12_takeLine 95 rfl) fX12_47 rfl (fun m22 => ?_)
        refine g_aload_n 0 (kdX12_takeLine 96 rfl) rfl ?_
        refine g_iconst (v := 0) (kdX12_takeLine 97 rfl) (by decide) ?_
        refine g_putI (kdX12_takeLine 98 rfl) fX12_207 rfl (fun m23 => ?_)
        refine g_aload_n 0 (kdX12_takeLine 99 rfl) rfl ?_
        refine g_iconst (v := 0) (kdX12_takeLine 100 rfl) (by decide) ?_
        refine g_putZ (kdX12_takeLine 101 rfl) fX12_210 rfl (fun m24 => ?_)
        refine g_aload_n 0 (kdX12_takeLine 102 rfl) rfl ?_
        refine g_calI (ck_V (As := []) (S := []) (t := 40) (o := 0) (kdX12_takeLine 103 rfl) iX12_taps lX12_213 rc_40 rfl rfl rfl (by decide) (by simp only [List.map, vcat, List.sum_cons, List.sum_nil]; decide)) (CX12_taps m24) (fun x26 m25 => ?_)
        exact g_iret rfl (kdX12_takeLine 104 rfl)
def JX12_text_22 (v1 : Int32) (m : hM) : hR :=
  if v1 = 1 then (if 4 ≤ (m.1 40 0 18) then (some (some (.inl (-1)), m)) else (calI (JX12_readScript (m.1 40 0 18) m) fun x2 m1 =>
  if x2 = (-1) then (stI m1 40 0 2 0 fun m3 =>
  stI m3 40 0 18 ((m3.1 40 0 18) + 1) fun m4 =>
  some (some (.inl ((m4.1 40 0 18) - 1)), m4)) else (some (some (.inl (-1)), m1)))) else (some (some (.inl (-1)), m))
set_option maxRecDepth 20000 in
theorem BX12_text_22 (v1 : Int32) (m : hM) : G mX12_text 6 22 [(0, .inr (.inr (40, 0))), (1, .inl v1)] [] m (JX12_text_22 v1 m) := by
  unfold JX12_text_22
  refine g_iload_n 1 (kdX12_text 12 rfl) rfl ?_
  refine g_iconst (v := 1) (kdX12_text 13 rfl) (by decide) ?_
  refine g_icmp_ne (tgt := 69) (kdX12_text 14 rfl) (by decide) (fun _ => ?_) (fun _ => ?_)
  · refine g_iconst (v := (-1)) (kdX12_text 39 rfl) (by decide) ?_
    exact g_iret rfl (kdX12_text 40 rfl)
  · refine g_aload_n 0 (kdX12_text 15 rfl) rfl ?_
    refine g_get (v := .inl (m.1 40 0 18)) (kdX12_text 16 rfl) fX12_219 rfl ?_
    refine g_iconst (v := 4) (kdX12_text 17 rfl) (by decide) ?_
    refine g_icmp_ge (tgt := 69) (kdX12_text 18 rfl) (by decide) (fun _ => ?_) (fun _ => ?_)
    · refine g_iconst (v := (-1)) (kdX12_text 39 rfl) (by decide) ?_
      exact g_iret rfl (kdX12_text 40 rfl)
    · refine g_aload_n 0 (kdX12_text 19 rfl) rfl ?_
      refine g_aload_n 0 (kdX12_text 20 rfl) rfl ?_
      refine g_get (v := .inl (m.1 40 0 18)) (kdX12_text 21 rfl) fX12_219 rfl ?_
      refine g_calI (ck_V (As := [.inl (m.1 40 0 18)]) (S := []) (t := 40) (o := 0) (kdX12_text 22 rfl) iX12_readScript lX12_200 rc_40 rfl rfl rfl (by decide) (by simp only [List.map, vcat, List.sum_cons, List.sum_nil]; decide)) (CX12_readScript (m.1 40 0 18) m) (fun x2 m1 => ?_)
      refine g_iconst (v := (-1)) (kdX12_text 23 rfl) (by decide) ?_
      refine g_icmp_ne (tgt := 69) (kdX12_text 24 rfl) (by decide) (fun _ => ?_) (fun _ => ?_)
      · refine g_iconst (v := (-1)) (kdX12_text 39 rfl) (by decide) ?_
        exact g_iret rfl (kdX12_text 40 rfl)
      · refine g_aload_n 0 (kdX12_text 25 rfl) rfl ?_
        refine g_iconst (v := 0) (kdX12_text 26 rfl) (by decide) ?_
        refine g_putI (kdX12_text 27 rfl) fX12_86 rfl (fun m3 => ?_)
        refine g_aload_n 0 (kdX12_text 28 rfl) rfl ?_
        refine g_dup (kdX12_text 29 rfl) rfl ?_
        refine g_get (v := .inl (m3.1 40 0 18)) (kdX12_text 30 rfl) fX12_219 rfl ?_
        refine g_iconst (v := 1) (kdX12_text 31 rfl) (by decide) ?_
        refine g_iadd (kdX12_text 32 rfl) ?_
        refine g_putI (kdX12_text 33 rfl) fX12_219 rfl (fun m4 => ?_)
        refine g_aload_n 0 (kdX12_text 34 rfl) rfl ?_
        refine g_get (v := .inl (m4.1 40 0 18)) (kdX12_text 35 rfl) fX12_219 rfl ?_
        refine g_iconst (v := 1) (kdX12_text 36 rfl) (by decide) ?_
        refine g_isub (kdX12_text 37 rfl) ?_
        exact g_iret rfl (kdX12_text 38 rfl)
def JX12_text (a1 : Int32) (m : hM) : hR :=
  if a1 = 0 then (calI (JX12_readLine m) fun x6 m5 =>
  if x6 = (-1) then (stI m5 40 0 2 0 fun m7 =>
  calI (JX12_takeLine m7) fun x9 m8 =>
  some (some (.inl x9), m8)) else (JX12_text_22 a1 m5)) else (JX12_text_22 a1 m)
set_option maxRecDepth 20000 in
theorem CX12_text (a1 : Int32) (m : hM) : Cn mX12_text 6 [.inr (.inr (40, 0)), .inl a1] m (JX12_text a1 m) := by
  refine cn_of (by decide +kernel) (by simp only [List.map, vcat, List.sum_cons, List.sum_nil]; decide) ?_
  unfold JX12_text
  show G mX12_text 6 0 [(0, .inr (.inr (40, 0))), (1, .inl a1)] [] m _
  refine g_iload_n 1 (kdX12_text 0 rfl) rfl ?_
  refine g_if_ne (tgt := 22) (kdX12_text 1 rfl) (by decide) (fun _ => ?_) (fun _ => ?_)
  · exact g_fgt [0, 1] rfl (BX12_text_22 a1 m)
  · refine g_aload_n 0 (kdX12_text 2 rfl) rfl ?_
    refine g_calI (ck_V (As := []) (S := []) (t := 40) (o := 0) (kdX12_text 3 rfl) iX12_readLine lX12_197 rc_40 rfl rfl rfl (by decide) (by simp only [List.map, vcat, List.sum_cons, List.sum_nil]; decide)) (CX12_readLine m) (fun x6 m5 => ?_)
    refine g_iconst (v := (-1)) (kdX12_text 4 rfl) (by decide) ?_
    refine g_icmp_ne (tgt := 22) (kdX12_text 5 rfl) (by decide) (fun _ => ?_) (fun _ => ?_)
    · exact g_fgt [0, 1] rfl (BX12_text_22 a1 m5)
    · refine g_aload_n 0 (kdX12_text 6 rfl) rfl ?_
      refine g_iconst (v := 0) (kdX12_text 7 rfl) (by decide) ?_
      refine g_putI (kdX12_text 8 rfl) fX12_86 rfl (fun m7 => ?_)
      refine g_aload_n 0 (kdX12_text 9 rfl) rfl ?_
      refine g_calI (ck_V (As := []) (S := []) (t := 40) (o := 0) (kdX12_text 10 rfl) iX12_takeLine lX12_216 rc_40 rfl rfl rfl (by decide) (by simp only [List.map, vcat, List.sum_cons, List.sum_nil]; decide)) (CX12_takeLine m7) (fun x9 m8 => ?_)
      exact g_iret rfl (kdX12_text 11 rfl)
def JX12_drawNoise (a1 : Int32) (m : hM) : hR :=
  ald m 50 0 49 fun x1 =>
  ald m 50 0 50 fun x2 =>
  lt ((x1.toInt64 <<< ((32 : Int32).toInt64 &&& 63)) ||| (x2.toInt64 &&& 4294967295)) fun x3 =>
  lt ((x3 * 6364136223846793005) + 1442695040888963407) fun x4 =>
  ast m 50 0 49 ((x4 >>> ((32 : Int32).toInt64 &&& 63)).toInt32) fun m5 =>
  ast m5 50 0 50 x4.toInt32 fun m6 =>
  jlrem (jlushr x4 (33 : Int32)) a1.toInt64 fun x7 =>
  some (some (.inl x7.toInt32), m6)
set_option maxRecDepth 20000 in
theorem CX12_drawNoise (a1 : Int32) (m : hM) : Cn mX12_drawNoise 0 [.inr (.inr (40, 0)), .inl a1] m (JX12_drawNoise a1 m) := by
  refine cn_of (by decide +kernel) (by simp only [List.map, vcat, List.sum_cons, List.sum_nil]; decide) ?_
  unfold JX12_drawNoise
  show G mX12_drawNoise 0 0 [(0, .inr (.inr (40, 0))), (1, .inl a1)] [] m _
  refine g_aload_n 0 (kdX12_drawNoise 0 rfl) rfl ?_
  refine g_get (v := .inr (.inr (50, 0))) (kdX12_drawNoise 1 rfl) fX12_37 rfl ?_
  refine g_bipush (v := 49) (kdX12_drawNoise 2 rfl) (by decide) ?_
  refine g_iald (kdX12_drawNoise 3 rfl) (fun x1 => ?_)
  refine g_i2l (kdX12_drawNoise 4 rfl) ?_
  refine g_bipush (v := 32) (kdX12_drawNoise 5 rfl) (by decide) ?_
  refine g_lshl (kdX12_drawNoise 6 rfl) ?_
  refine g_aload_n 0 (kdX12_drawNoise 7 rfl) rfl ?_
  refine g_get (v := .inr (.inr (50, 0))) (kdX12_drawNoise 8 rfl) fX12_37 rfl ?_
  refine g_bipush (v := 50) (kdX12_drawNoise 9 rfl) (by decide) ?_
  refine g_iald (kdX12_drawNoise 10 rfl) (fun x2 => ?_)
  refine g_i2l (kdX12_drawNoise 11 rfl) ?_
  refine g_ldc2 (kdX12_drawNoise 12 rfl) cX12_222 ?_
  refine g_land (kdX12_drawNoise 13 rfl) ?_
  refine g_lor (kdX12_drawNoise 14 rfl) ?_
  refine g_ltl (fun x3 => ?_)
  refine g_lstore_n (L2 := [(2, .inr (.inl x3)), (0, .inr (.inr (40, 0))), (1, .inl a1)]) (kdX12_drawNoise 15 rfl) rfl (by decide) ?_
  refine g_lload_n 0 (kdX12_drawNoise 16 rfl) rfl ?_
  refine g_ldc2 (kdX12_drawNoise 17 rfl) cX12_224 ?_
  refine g_lmul (kdX12_drawNoise 18 rfl) ?_
  refine g_ldc2 (kdX12_drawNoise 19 rfl) cX12_226 ?_
  refine g_ladd (kdX12_drawNoise 20 rfl) ?_
  refine g_ltl (fun x4 => ?_)
  refine g_lstore_n (L2 := [(2, .inr (.inl x4)), (0, .inr (.inr (40, 0))), (1, .inl a1)]) (kdX12_drawNoise 21 rfl) rfl (by decide) ?_
  refine g_aload_n 1 (kdX12_drawNoise 22 rfl) rfl ?_
  refine g_get (v := .inr (.inr (50, 0))) (kdX12_drawNoise 23 rfl) fX12_37 rfl ?_
  refine g_bipush (v := 49) (kdX12_drawNoise 24 rfl) (by decide) ?_
  refine g_lload_n 0 (kdX12_drawNoise 25 rfl) rfl ?_
  refine g_bipush (v := 32) (kdX12_drawNoise 26 rfl) (by decide) ?_
  refine g_lshr (kdX12_drawNoise 27 rfl) ?_
  refine g_l2i (kdX12_drawNoise 28 rfl) ?_
  refine g_iast (kdX12_drawNoise 29 rfl) (fun m5 => ?_)
  refine g_aload_n 1 (kdX12_drawNoise 30 rfl) rfl ?_
  refine g_get (v := .inr (.inr (50, 0))) (kdX12_drawNoise 31 rfl) fX12_37 rfl ?_
  refine g_bipush (v := 50) (kdX12_drawNoise 32 rfl) (by decide) ?_
  refine g_lload_n 0 (kdX12_drawNoise 33 rfl) rfl ?_
  refine g_l2i (kdX12_drawNoise 34 rfl) ?_
  refine g_iast (kdX12_drawNoise 35 rfl) (fun m6 => ?_)
  refine g_lload_n 0 (kdX12_drawNoise 36 rfl) rfl ?_
  refine g_bipush (v := 33) (kdX12_drawNoise 37 rfl) (by decide) ?_
  refine g_lushr (kdX12_drawNoise 38 rfl) ?_
  refine g_iload_n 2 (kdX12_drawNoise 39 rfl) rfl ?_
  refine g_i2l (kdX12_drawNoise 40 rfl) ?_
  refine g_lremx (kdX12_drawNoise 41 rfl) (fun x7 => ?_)
  refine g_l2i (kdX12_drawNoise 42 rfl) ?_
  exact g_iret rfl (kdX12_drawNoise 43 rfl)
def JX12_nextBit  (m : hM) : hR :=
  ald m 45 0 12 fun x1 =>
  if x1 ≤ 0 then (ald m 50 0 21 fun x2 =>
  ast m 50 0 21 ((x2 >>> ((1 : Int32) &&& 31)) ||| (((x2 &&& 1) ^^^ ((x2 >>> ((1 : Int32) &&& 31)) &&& 1)) <<< ((6 : Int32) &&& 31))) fun m3 =>
  some (some (.inl (x2 &&& 1)), m3)) else (ald m 50 0 18 fun x4 =>
  ald m 45 0 12 fun x5 =>
  jirem x4 x5 fun x6 =>
  ald m 47 0 x6 fun x7 =>
  some (some (.inl x7), m))
set_option maxRecDepth 20000 in
theorem CX12_nextBit  (m : hM) : Cn mX12_nextBit 0 [.inr (.inr (40, 0))] m (JX12_nextBit  m) := by
  refine cn_of (by decide +kernel) (by simp only [List.map, vcat, List.sum_cons, List.sum_nil]; decide) ?_
  unfold JX12_nextBit
  show G mX12_nextBit 0 0 [(0, .inr (.inr (40, 0)))] [] m _
  refine g_aload_n 0 (kdX12_nextBit 0 rfl) rfl ?_
  refine g_get (v := .inr (.inr (45, 0))) (kdX12_nextBit 1 rfl) fX12_22 rfl ?_
  refine g_bipush (v := 12) (kdX12_nextBit 2 rfl) (by decide) ?_
  refine g_iald (kdX12_nextBit 3 rfl) (fun x1 => ?_)
  refine g_if_le (tgt := 31) (kdX12_nextBit 4 rfl) (by decide) (fun _ => ?_) (fun _ => ?_)
  · refine g_aload_n 0 (kdX12_nextBit 18 rfl) rfl ?_
    refine g_get (v := .inr (.inr (50, 0))) (kdX12_nextBit 19 rfl) fX12_37 rfl ?_
    refine g_bipush (v := 21) (kdX12_nextBit 20 rfl) (by decide) ?_
    refine g_iald (kdX12_nextBit 21 rfl) (fun x2 => ?_)
    refine g_istore_n (L2 := [(1, .inl x2), (0, .inr (.inr (40, 0)))]) (kdX12_nextBit 22 rfl) rfl (by decide) ?_
    refine g_aload_n 1 (kdX12_nextBit 23 rfl) rfl ?_
    refine g_get (v := .inr (.inr (50, 0))) (kdX12_nextBit 24 rfl) fX12_37 rfl ?_
    refine g_bipush (v := 21) (kdX12_nextBit 25 rfl) (by decide) ?_
    refine g_iload_n 0 (kdX12_nextBit 26 rfl) rfl ?_
    refine g_iconst (v := 1) (kdX12_nextBit 27 rfl) (by decide) ?_
    refine g_ishr (kdX12_nextBit 28 rfl) ?_
    refine g_iload_n 0 (kdX12_nextBit 29 rfl) rfl ?_
    refine g_iconst (v := 1) (kdX12_nextBit 30 rfl) (by decide) ?_
    refine g_iand (kdX12_nextBit 31 rfl) ?_
    refine g_iload_n 0 (kdX12_nextBit 32 rfl) rfl ?_
    refine g_iconst (v := 1) (kdX12_nextBit 33 rfl) (by decide) ?_
    refine g_ishr (kdX12_nextBit 34 rfl) ?_
    refine g_iconst (v := 1) (kdX12_nextBit 35 rfl) (by decide) ?_
    refine g_iand (kdX12_nextBit 36 rfl) ?_
    refine g_ixor (kdX12_nextBit 37 rfl) ?_
    refine g_bipush (v := 6) (kdX12_nextBit 38 rfl) (by decide) ?_
    refine g_ishl (kdX12_nextBit 39 rfl) ?_
    refine g_ior (kdX12_nextBit 40 rfl) ?_
    refine g_iast (kdX12_nextBit 41 rfl) (fun m3 => ?_)
    refine g_iload_n 0 (kdX12_nextBit 42 rfl) rfl ?_
    refine g_iconst (v := 1) (kdX12_nextBit 43 rfl) (by decide) ?_
    refine g_iand (kdX12_nextBit 44 rfl) ?_
    exact g_iret rfl (kdX12_nextBit 45 rfl)
  · refine g_aload_n 0 (kdX12_nextBit 5 rfl) rfl ?_
    refine g_get (v := .inr (.inr (47, 0))) (kdX12_nextBit 6 rfl) fX12_28 rfl ?_
    refine g_aload_n 0 (kdX12_nextBit 7 rfl) rfl ?_
    refine g_get (v := .inr (.inr (50, 0))) (kdX12_nextBit 8 rfl) fX12_37 rfl ?_
    refine g_bipush (v := 18) (kdX12_nextBit 9 rfl) (by decide) ?_
    refine g_iald (kdX12_nextBit 10 rfl) (fun x4 => ?_)
    refine g_aload_n 0 (kdX12_nextBit 11 rfl) rfl ?_
    refine g_get (v := .inr (.inr (45, 0))) (kdX12_nextBit 12 rfl) fX12_22 rfl ?_
    refine g_bipush (v := 12) (kdX12_nextBit 13 rfl) (by decide) ?_
    refine g_iald (kdX12_nextBit 14 rfl) (fun x5 => ?_)
    refine g_iremx (kdX12_nextBit 15 rfl) (fun x6 => ?_)
    refine g_iald (kdX12_nextBit 16 rfl) (fun x7 => ?_)
    exact g_iret rfl (kdX12_nextBit 17 rfl)
def bJX12_shift_5 (K5 : Int32 → hM → hR) (K36 : hM → hR) (v1 : Int32) (v3 : Int32) (v4 : Int32) (m : hM) : hR :=
  if v4 ≤ 0 then (K36 m) else (ald m 50 0 ((v1 + v4) - 1) fun x2 =>
  ast m 50 0 (v1 + v4) x2 fun m3 =>
  K5 (v4 + (-1)) m3)
set_option maxRecDepth 20000 in
theorem BbJX12_shift_5 (K5 : Int32 → hM → hR) (K36 : hM → hR) (v1 : Int32) (v3 : Int32) (h5 : ∀ (v4 : Int32) (m : hM), G mX12_shift 0 5 [(0, .inr (.inr (40, 0))), (1, .inl v1), (3, .inl v3), (4, .inl v4)] [] m (K5 v4 m)) (h36 : ∀ (m : hM), G mX12_shift 0 36 [(0, .inr (.inr (40, 0))), (1, .inl v1), (3, .inl v3)] [] m (K36 m)) (v4 : Int32) (m : hM) : G mX12_shift 0 5 [(0, .inr (.inr (40, 0))), (1, .inl v1), (3, .inl v3), (4, .inl v4)] [] m (bJX12_shift_5 K5 K36 v1 v3 v4 m) := by
  unfold bJX12_shift_5
  refine g_iload 3 (kdX12_shift 4 rfl) rfl ?_
  refine g_if_le (tgt := 36) (kdX12_shift 5 rfl) (by decide) (fun _ => ?_) (fun _ => ?_)
  · exact g_fgt [0, 1, 2] rfl (h36 m)
  · refine g_aload_n 0 (kdX12_shift 6 rfl) rfl ?_
    refine g_get (v := .inr (.inr (50, 0))) (kdX12_shift 7 rfl) fX12_37 rfl ?_
    refine g_iload_n 1 (kdX12_shift 8 rfl) rfl ?_
    refine g_iload 3 (kdX12_shift 9 rfl) rfl ?_
    refine g_iadd (kdX12_shift 10 rfl) ?_
    refine g_aload_n 0 (kdX12_shift 11 rfl) rfl ?_
    refine g_get (v := .inr (.inr (50, 0))) (kdX12_shift 12 rfl) fX12_37 rfl ?_
    refine g_iload_n 1 (kdX12_shift 13 rfl) rfl ?_
    refine g_iload 3 (kdX12_shift 14 rfl) rfl ?_
    refine g_iadd (kdX12_shift 15 rfl) ?_
    refine g_iconst (v := 1) (kdX12_shift 16 rfl) (by decide) ?_
    refine g_isub (kdX12_shift 17 rfl) ?_
    refine g_iald (kdX12_shift 18 rfl) (fun x2 => ?_)
    refine g_iast (kdX12_shift 19 rfl) (fun m3 => ?_)
    refine g_iinc (v := v4 + (-1)) (L2 := [(4, .inl (v4 + (-1))), (0, .inr (.inr (40, 0))), (1, .inl v1), (3, .inl v3)]) 3 (kdX12_shift 20 rfl) rfl rfl rfl (by decide) ?_
    refine g_goto (tgt := 5) (kdX12_shift 21 rfl) (by decide) ?_
    exact g_fgt [1, 2, 3, 0] rfl (h5 (v4 + (-1)) m3)
def JX12_shift_5 (K36 : hM → hR) (v1 : Int32) (v3 : Int32) : Nat → Int32 → hM → hR
  | 0, _, _ => none
  | f + 1, v4, m => bJX12_shift_5 (fun v4 m => JX12_shift_5 K36 v1 v3 f v4 m) K36 v1 v3 v4 m
theorem BJX12_shift_5 (K36 : hM → hR) (v1 : Int32) (v3 : Int32) (h36 : ∀ (m : hM), G mX12_shift 0 36 [(0, .inr (.inr (40, 0))), (1, .inl v1), (3, .inl v3)] [] m (K36 m)) : ∀ (f : Nat) (v4 : Int32) (m : hM), G mX12_shift 0 5 [(0, .inr (.inr (40, 0))), (1, .inl v1), (3, .inl v3), (4, .inl v4)] [] m (JX12_shift_5 K36 v1 v3 f v4 m)
  | 0, _, _ => g_none
  | f + 1, v4, m => BbJX12_shift_5  _ K36 v1 v3 (fun v4 m => BJX12_shift_5  K36 v1 v3 h36 f v4 m) h36 v4 m
def JX12_shift (a1 : Int32) (a2 : Int32) (a3 : Int32) (m : hM) : hR :=
  lt (a2 - 1) fun x1 =>
  JX12_shift_5 (fun m4 => ast m4 50 0 a1 a3 fun m5 =>
  some (none, m5)) a1 a3 FU x1 m
set_option maxRecDepth 20000 in
theorem CX12_shift (a1 : Int32) (a2 : Int32) (a3 : Int32) (m : hM) : Cn mX12_shift 0 [.inr (.inr (40, 0)), .inl a1, .inl a2, .inl a3] m (JX12_shift a1 a2 a3 m) := by
  refine cn_of (by decide +kernel) (by simp only [List.map, vcat, List.sum_cons, List.sum_nil]; decide) ?_
  unfold JX12_shift
  show G mX12_shift 0 0 [(0, .inr (.inr (40, 0))), (1, .inl a1), (2, .inl a2), (3, .inl a3)] [] m _
  refine g_iload_n 2 (kdX12_shift 0 rfl) rfl ?_
  refine g_iconst (v := 1) (kdX12_shift 1 rfl) (by decide) ?_
  refine g_isub (kdX12_shift 2 rfl) ?_
  refine g_lt (fun x1 => ?_)
  refine g_istore (L2 := [(4, .inl x1), (0, .inr (.inr (40, 0))), (1, .inl a1), (2, .inl a2), (3, .inl a3)]) (kdX12_shift 3 rfl) rfl (by decide) ?_
  refine g_fgt [1, 2, 4, 0] rfl (BJX12_shift_5  _ a1 a3 ?_ FU x1 m)
  · intro m4
    refine g_aload_n 0 (kdX12_shift 22 rfl) rfl ?_
    refine g_get (v := .inr (.inr (50, 0))) (kdX12_shift 23 rfl) fX12_37 rfl ?_
    refine g_iload_n 1 (kdX12_shift 24 rfl) rfl ?_
    refine g_iload_n 2 (kdX12_shift 25 rfl) rfl ?_
    refine g_iast (kdX12_shift 26 rfl) (fun m5 => ?_)
    exact g_vret rfl (kdX12_shift 27 rfl)
def bJX12_clean_4 (K4 : Int32 → Int32 → hM → hR) (K47 : Int32 → hM → hR) (v1 : Int32) (v2 : Int32) (v3 : Int32) (m : hM) : hR :=
  ald m 45 0 0 fun x1 =>
  if x1 ≤ ((4 * v3) + v1) then (K47 v2 m) else (ald m 46 0 ((4 * v3) + v1) fun x2 =>
  ald m 50 0 (31 + v3) fun x3 =>
  lt (v2 + (x2 * x3)) fun x4 =>
  K4 x4 (v3 + 1) m)
set_option maxRecDepth 20000 in
theorem BbJX12_clean_4 (K4 : Int32 → Int32 → hM → hR) (K47 : Int32 → hM → hR) (v1 : Int32) (h4 : ∀ (v2 : Int32) (v3 : Int32) (m : hM), G mX12_clean 0 4 [(0, .inr (.inr (40, 0))), (1, .inl v1), (2, .inl v2), (3, .inl v3)] [] m (K4 v2 v3 m)) (h47 : ∀ (v2 : Int32) (m : hM), G mX12_clean 0 47 [(2, .inl v2)] [] m (K47 v2 m)) (v2 : Int32) (v3 : Int32) (m : hM) : G mX12_clean 0 4 [(0, .inr (.inr (40, 0))), (1, .inl v1), (2, .inl v2), (3, .inl v3)] [] m (bJX12_clean_4 K4 K47 v1 v2 v3 m) := by
  unfold bJX12_clean_4
  refine g_iconst (v := 4) (kdX12_clean 4 rfl) (by decide) ?_
  refine g_iload_n 3 (kdX12_clean 5 rfl) rfl ?_
  refine g_imul (kdX12_clean 6 rfl) ?_
  refine g_iload_n 1 (kdX12_clean 7 rfl) rfl ?_
  refine g_iadd (kdX12_clean 8 rfl) ?_
  refine g_aload_n 0 (kdX12_clean 9 rfl) rfl ?_
  refine g_get (v := .inr (.inr (45, 0))) (kdX12_clean 10 rfl) fX12_22 rfl ?_
  refine g_iconst (v := 0) (kdX12_clean 11 rfl) (by decide) ?_
  refine g_iald (kdX12_clean 12 rfl) (fun x1 => ?_)
  refine g_icmp_ge (tgt := 47) (kdX12_clean 13 rfl) (by decide) (fun _ => ?_) (fun _ => ?_)
  · exact g_fgt [2] rfl (h47 v2 m)
  · refine g_iload_n 2 (kdX12_clean 14 rfl) rfl ?_
    refine g_aload_n 0 (kdX12_clean 15 rfl) rfl ?_
    refine g_get (v := .inr (.inr (46, 0))) (kdX12_clean 16 rfl) fX12_25 rfl ?_
    refine g_iconst (v := 4) (kdX12_clean 17 rfl) (by decide) ?_
    refine g_iload_n 3 (kdX12_clean 18 rfl) rfl ?_
    refine g_imul (kdX12_clean 19 rfl) ?_
    refine g_iload_n 1 (kdX12_clean 20 rfl) rfl ?_
    refine g_iadd (kdX12_clean 21 rfl) ?_
    refine g_iald (kdX12_clean 22 rfl) (fun x2 => ?_)
    refine g_aload_n 0 (kdX12_clean 23 rfl) rfl ?_
    refine g_get (v := .inr (.inr (50, 0))) (kdX12_clean 24 rfl) fX12_37 rfl ?_
    refine g_bipush (v := 31) (kdX12_clean 25 rfl) (by decide) ?_
    refine g_iload_n 3 (kdX12_clean 26 rfl) rfl ?_
    refine g_iadd (kdX12_clean 27 rfl) ?_
    refine g_iald (kdX12_clean 28 rfl) (fun x3 => ?_)
    refine g_imul (kdX12_clean 29 rfl) ?_
    refine g_iadd (kdX12_clean 30 rfl) ?_
    refine g_lt (fun x4 => ?_)
    refine g_istore_n (L2 := [(2, .inl x4), (0, .inr (.inr (40, 0))), (1, .inl v1), (3, .inl v3)]) (kdX12_clean 31 rfl) rfl (by decide) ?_
    refine g_iinc (v := v3 + 1) (L2 := [(3, .inl (v3 + 1)), (2, .inl x4), (0, .inr (.inr (40, 0))), (1, .inl v1)]) 3 (kdX12_clean 32 rfl) rfl rfl rfl (by decide) ?_
    refine g_goto (tgt := 4) (kdX12_clean 33 rfl) (by decide) ?_
    exact g_fgt [2, 3, 1, 0] rfl (h4 x4 (v3 + 1) m)
def JX12_clean_4 (K47 : Int32 → hM → hR) (v1 : Int32) : Nat → Int32 → Int32 → hM → hR
  | 0, _, _, _ => none
  | f + 1, v2, v3, m => bJX12_clean_4 (fun v2 v3 m => JX12_clean_4 K47 v1 f v2 v3 m) K47 v1 v2 v3 m
theorem BJX12_clean_4 (K47 : Int32 → hM → hR) (v1 : Int32) (h47 : ∀ (v2 : Int32) (m : hM), G mX12_clean 0 47 [(2, .inl v2)] [] m (K47 v2 m)) : ∀ (f : Nat) (v2 : Int32) (v3 : Int32) (m : hM), G mX12_clean 0 4 [(0, .inr (.inr (40, 0))), (1, .inl v1), (2, .inl v2), (3, .inl v3)] [] m (JX12_clean_4 K47 v1 f v2 v3 m)
  | 0, _, _, _ => g_none
  | f + 1, v2, v3, m => BbJX12_clean_4  _ K47 v1 (fun v2 v3 m => BJX12_clean_4  K47 v1 h47 f v2 v3 m) h47 v2 v3 m
def JX12_clean (a1 : Int32) (m : hM) : hR :=
  JX12_clean_4 (fun v2 m5 => some (some (.inl v2), m5)) a1 FU 0 0 m
set_option maxRecDepth 20000 in
theorem CX12_clean (a1 : Int32) (m : hM) : Cn mX12_clean 0 [.inr (.inr (40, 0)), .inl a1] m (JX12_clean a1 m) := by
  refine cn_of (by decide +kernel) (by simp only [List.map, vcat, List.sum_cons, List.sum_nil]; decide) ?_
  unfold JX12_clean
  show G mX12_clean 0 0 [(0, .inr (.inr (40, 0))), (1, .inl a1)] [] m _
  refine g_iconst (v := 0) (kdX12_clean 0 rfl) (by decide) ?_
  refine g_istore_n (L2 := [(2, .inl 0), (0, .inr (.inr (40, 0))), (1, .inl a1)]) (kdX12_clean 1 rfl) rfl (by decide) ?_
  refine g_iconst (v := 0) (kdX12_clean 2 rfl) (by decide) ?_
  refine g_istore_n (L2 := [(3, .inl 0), (2, .inl 0), (0, .inr (.inr (40, 0))), (1, .inl a1)]) (kdX12_clean 3 rfl) rfl (by decide) ?_
  refine g_fgt [2, 3, 1, 0] rfl (BJX12_clean_4  _ a1 ?_ FU 0 0 m)
  · intro v2 m5
    refine g_iload_n 0 (kdX12_clean 34 rfl) rfl ?_
    exact g_iret rfl (kdX12_clean 35 rfl)
def JX12_noise  (m : hM) : hR :=
  ald m 50 0 20 fun x1 =>
  if x1 = 0 then (some (some (.inl 0), m)) else (if (m.1 40 0 23) = (-1000000000) then (ald m 50 0 20 fun x2 =>
  calI (JX12_drawNoise ((2 * x2) + 1) m) fun x4 m3 =>
  ald m3 50 0 20 fun x5 =>
  some (some (.inl (x4 - x5)), m3)) else (some (some (.inl (m.1 40 0 23)), m)))
set_option maxRecDepth 20000 in
theorem CX12_noise  (m : hM) : Cn mX12_noise 1 [.inr (.inr (40, 0))] m (JX12_noise  m) := by
  refine cn_of (by decide +kernel) (by simp only [List.map, vcat, List.sum_cons, List.sum_nil]; decide) ?_
  unfold JX12_noise
  show G mX12_noise 1 0 [(0, .inr (.inr (40, 0)))] [] m _
  refine g_aload_n 0 (kdX12_noise 0 rfl) rfl ?_
  refine g_get (v := .inr (.inr (50, 0))) (kdX12_noise 1 rfl) fX12_37 rfl ?_
  refine g_bipush (v := 20) (kdX12_noise 2 rfl) (by decide) ?_
  refine g_iald (kdX12_noise 3 rfl) (fun x1 => ?_)
  refine g_if_ne (tgt := 12) (kdX12_noise 4 rfl) (by decide) (fun _ => ?_) (fun _ => ?_)
  · refine g_aload_n 0 (kdX12_noise 7 rfl) rfl ?_
    refine g_get (v := .inl (m.1 40 0 23)) (kdX12_noise 8 rfl) fX12_51 rfl ?_
    refine g_ldc (kdX12_noise 9 rfl) cX12_50 ?_
    refine g_icmp_eq (tgt := 28) (kdX12_noise 10 rfl) (by decide) (fun _ => ?_) (fun _ => ?_)
    · refine g_aload_n 0 (kdX12_noise 14 rfl) rfl ?_
      refine g_iconst (v := 2) (kdX12_noise 15 rfl) (by decide) ?_
      refine g_aload_n 0 (kdX12_noise 16 rfl) rfl ?_
      refine g_get (v := .inr (.inr (50, 0))) (kdX12_noise 17 rfl) fX12_37 rfl ?_
      refine g_bipush (v := 20) (kdX12_noise 18 rfl) (by decide) ?_
      refine g_iald (kdX12_noise 19 rfl) (fun x2 => ?_)
      refine g_imul (kdX12_noise 20 rfl) ?_
      refine g_iconst (v := 1) (kdX12_noise 21 rfl) (by decide) ?_
      refine g_iadd (kdX12_noise 22 rfl) ?_
      refine g_calI (ck_V (As := [.inl ((2 * x2) + 1)]) (S := []) (t := 40) (o := 0) (kdX12_noise 23 rfl) iX12_drawNoise lX12_228 rc_40 rfl rfl rfl (by decide) (by simp only [List.map, vcat, List.sum_cons, List.sum_nil]; decide)) (CX12_drawNoise ((2 * x2) + 1) m) (fun x4 m3 => ?_)
      refine g_aload_n 0 (kdX12_noise 24 rfl) rfl ?_
      refine g_get (v := .inr (.inr (50, 0))) (kdX12_noise 25 rfl) fX12_37 rfl ?_
      refine g_bipush (v := 20) (kdX12_noise 26 rfl) (by decide) ?_
      refine g_iald (kdX12_noise 27 rfl) (fun x5 => ?_)
      refine g_isub (kdX12_noise 28 rfl) ?_
      exact g_iret rfl (kdX12_noise 29 rfl)
    · refine g_aload_n 0 (kdX12_noise 11 rfl) rfl ?_
      refine g_get (v := .inl (m.1 40 0 23)) (kdX12_noise 12 rfl) fX12_51 rfl ?_
      refine g_goto (tgt := 51) (kdX12_noise 13 rfl) (by decide) ?_
      exact g_iret rfl (kdX12_noise 29 rfl)
  · refine g_iconst (v := 0) (kdX12_noise 5 rfl) (by decide) ?_
    exact g_iret rfl (kdX12_noise 6 rfl)
def bJX12_takenOff_4 (K4 : Int32 → Int32 → hM → hR) (K42 : Int32 → hM → hR) (v1 : Int32) (v2 : Int32) (m : hM) : hR :=
  ald m 45 0 2 fun x1 =>
  if x1 ≤ v2 then (K42 v1 m) else (ald m 50 0 (46 + v2) fun x2 =>
  ald m 50 0 (37 + v2) fun x3 =>
  lt (v1 + (x2 * x3)) fun x4 =>
  K4 x4 (v2 + 1) m)
set_option maxRecDepth 20000 in
theorem BbJX12_takenOff_4 (K4 : Int32 → Int32 → hM → hR) (K42 : Int32 → hM → hR) (h4 : ∀ (v1 : Int32) (v2 : Int32) (m : hM), G mX12_takenOff 0 4 [(0, .inr (.inr (40, 0))), (1, .inl v1), (2, .inl v2)] [] m (K4 v1 v2 m)) (h42 : ∀ (v1 : Int32) (m : hM), G mX12_takenOff 0 42 [(1, .inl v1)] [] m (K42 v1 m)) (v1 : Int32) (v2 : Int32) (m : hM) : G mX12_takenOff 0 4 [(0, .inr (.inr (40, 0))), (1, .inl v1), (2, .inl v2)] [] m (bJX12_takenOff_4 K4 K42 v1 v2 m) := by
  unfold bJX12_takenOff_4
  refine g_iload_n 2 (kdX12_takenOff 4 rfl) rfl ?_
  refine g_aload_n 0 (kdX12_takenOff 5 rfl) rfl ?_
  refine g_get (v := .inr (.inr (45, 0))) (kdX12_takenOff 6 rfl) fX12_22 rfl ?_
  refine g_iconst (v := 2) (kdX12_takenOff 7 rfl) (by decide) ?_
  refine g_iald (kdX12_takenOff 8 rfl) (fun x1 => ?_)
  refine g_icmp_ge (tgt := 42) (kdX12_takenOff 9 rfl) (by decide) (fun _ => ?_) (fun _ => ?_)
  · exact g_fgt [1] rfl (h42 v1 m)
  · refine g_iload_n 1 (kdX12_takenOff 10 rfl) rfl ?_
    refine g_aload_n 0 (kdX12_takenOff 11 rfl) rfl ?_
    refine g_get (v := .inr (.inr (50, 0))) (kdX12_takenOff 12 rfl) fX12_37 rfl ?_
    refine g_bipush (v := 46) (kdX12_takenOff 13 rfl) (by decide) ?_
    refine g_iload_n 2 (kdX12_takenOff 14 rfl) rfl ?_
    refine g_iadd (kdX12_takenOff 15 rfl) ?_
    refine g_iald (kdX12_takenOff 16 rfl) (fun x2 => ?_)
    refine g_aload_n 0 (kdX12_takenOff 17 rfl) rfl ?_
    refine g_get (v := .inr (.inr (50, 0))) (kdX12_takenOff 18 rfl) fX12_37 rfl ?_
    refine g_bipush (v := 37) (kdX12_takenOff 19 rfl) (by decide) ?_
    refine g_iload_n 2 (kdX12_takenOff 20 rfl) rfl ?_
    refine g_iadd (kdX12_takenOff 21 rfl) ?_
    refine g_iald (kdX12_takenOff 22 rfl) (fun x3 => ?_)
    refine g_imul (kdX12_takenOff 23 rfl) ?_
    refine g_iadd (kdX12_takenOff 24 rfl) ?_
    refine g_lt (fun x4 => ?_)
    refine g_istore_n (L2 := [(1, .inl x4), (0, .inr (.inr (40, 0))), (2, .inl v2)]) (kdX12_takenOff 25 rfl) rfl (by decide) ?_
    refine g_iinc (v := v2 + 1) (L2 := [(2, .inl (v2 + 1)), (1, .inl x4), (0, .inr (.inr (40, 0)))]) 2 (kdX12_takenOff 26 rfl) rfl rfl rfl (by decide) ?_
    refine g_goto (tgt := 4) (kdX12_takenOff 27 rfl) (by decide) ?_
    exact g_fgt [2, 1, 0] rfl (h4 x4 (v2 + 1) m)
def JX12_takenOff_4 (K42 : Int32 → hM → hR) : Nat → Int32 → Int32 → hM → hR
  | 0, _, _, _ => none
  | f + 1, v1, v2, m => bJX12_takenOff_4 (fun v1 v2 m => JX12_takenOff_4 K42  f v1 v2 m) K42  v1 v2 m
theorem BJX12_takenOff_4 (K42 : Int32 → hM → hR) (h42 : ∀ (v1 : Int32) (m : hM), G mX12_takenOff 0 42 [(1, .inl v1)] [] m (K42 v1 m)) : ∀ (f : Nat) (v1 : Int32) (v2 : Int32) (m : hM), G mX12_takenOff 0 4 [(0, .inr (.inr (40, 0))), (1, .inl v1), (2, .inl v2)] [] m (JX12_takenOff_4 K42  f v1 v2 m)
  | 0, _, _, _ => g_none
  | f + 1, v1, v2, m => BbJX12_takenOff_4  _ K42  (fun v1 v2 m => BJX12_takenOff_4  K42  h42 f v1 v2 m) h42 v1 v2 m
def JX12_takenOff  (m : hM) : hR :=
  JX12_takenOff_4 (fun v1 m5 => some (some (.inl (64 * v1)), m5))  FU 0 0 m
set_option maxRecDepth 20000 in
theorem CX12_takenOff  (m : hM) : Cn mX12_takenOff 0 [.inr (.inr (40, 0))] m (JX12_takenOff  m) := by
  refine cn_of (by decide +kernel) (by simp only [List.map, vcat, List.sum_cons, List.sum_nil]; decide) ?_
  unfold JX12_takenOff
  show G mX12_takenOff 0 0 [(0, .inr (.inr (40, 0)))] [] m _
  refine g_iconst (v := 0) (kdX12_takenOff 0 rfl) (by decide) ?_
  refine g_istore_n (L2 := [(1, .inl 0), (0, .inr (.inr (40, 0)))]) (kdX12_takenOff 1 rfl) rfl (by decide) ?_
  refine g_iconst (v := 0) (kdX12_takenOff 2 rfl) (by decide) ?_
  refine g_istore_n (L2 := [(2, .inl 0), (1, .inl 0), (0, .inr (.inr (40, 0)))]) (kdX12_takenOff 3 rfl) rfl (by decide) ?_
  refine g_fgt [2, 1, 0] rfl (BJX12_takenOff_4  _  ?_ FU 0 0 m)
  · intro v1 m5
    refine g_bipush (v := 64) (kdX12_takenOff 28 rfl) (by decide) ?_
    refine g_iload_n 0 (kdX12_takenOff 29 rfl) rfl ?_
    refine g_imul (kdX12_takenOff 30 rfl) ?_
    exact g_iret rfl (kdX12_takenOff 31 rfl)
def bJX12_weighNow_4 (K4 : Int32 → Int32 → hM → hR) (K41 : Int32 → hM → hR) (v1 : Int32) (v2 : Int32) (m : hM) : hR :=
  ald m 45 0 1 fun x1 =>
  if x1 ≤ v2 then (K41 v1 m) else (ald m 50 0 (0 + v2) fun x2 =>
  ald m 50 0 (40 + v2) fun x3 =>
  lt (v1 + (x2 * x3)) fun x4 =>
  K4 x4 (v2 + 1) m)
set_option maxRecDepth 20000 in
theorem BbJX12_weighNow_4 (K4 : Int32 → Int32 → hM → hR) (K41 : Int32 → hM → hR) (h4 : ∀ (v1 : Int32) (v2 : Int32) (m : hM), G mX12_weighNow 1 4 [(0, .inr (.inr (40, 0))), (1, .inl v1), (2, .inl v2)] [] m (K4 v1 v2 m)) (h41 : ∀ (v1 : Int32) (m : hM), G mX12_weighNow 1 41 [(0, .inr (.inr (40, 0))), (1, .inl v1)] [] m (K41 v1 m)) (v1 : Int32) (v2 : Int32) (m : hM) : G mX12_weighNow 1 4 [(0, .inr (.inr (40, 0))), (1, .inl v1), (2, .inl v2)] [] m (bJX12_weighNow_4 K4 K41 v1 v2 m) := by
  unfold bJX12_weighNow_4
  refine g_iload_n 2 (kdX12_weighNow 4 rfl) rfl ?_
  refine g_aload_n 0 (kdX12_weighNow 5 rfl) rfl ?_
  refine g_get (v := .inr (.inr (45, 0))) (kdX12_weighNow 6 rfl) fX12_22 rfl ?_
  refine g_iconst (v := 1) (kdX12_weighNow 7 rfl) (by decide) ?_
  refine g_iald (kdX12_weighNow 8 rfl) (fun x1 => ?_)
  refine g_icmp_ge (tgt := 41) (kdX12_weighNow 9 rfl) (by decide) (fun _ => ?_) (fun _ => ?_)
  · exact g_fgt [0, 1] rfl (h41 v1 m)
  · refine g_iload_n 1 (kdX12_weighNow 10 rfl) rfl ?_
    refine g_aload_n 0 (kdX12_weighNow 11 rfl) rfl ?_
    refine g_get (v := .inr (.inr (50, 0))) (kdX12_weighNow 12 rfl) fX12_37 rfl ?_
    refine g_iconst (v := 0) (kdX12_weighNow 13 rfl) (by decide) ?_
    refine g_iload_n 2 (kdX12_weighNow 14 rfl) rfl ?_
    refine g_iadd (kdX12_weighNow 15 rfl) ?_
    refine g_iald (kdX12_weighNow 16 rfl) (fun x2 => ?_)
    refine g_aload_n 0 (kdX12_weighNow 17 rfl) rfl ?_
    refine g_get (v := .inr (.inr (50, 0))) (kdX12_weighNow 18 rfl) fX12_37 rfl ?_
    refine g_bipush (v := 40) (kdX12_weighNow 19 rfl) (by decide) ?_
    refine g_iload_n 2 (kdX12_weighNow 20 rfl) rfl ?_
    refine g_iadd (kdX12_weighNow 21 rfl) ?_
    refine g_iald (kdX12_weighNow 22 rfl) (fun x3 => ?_)
    refine g_imul (kdX12_weighNow 23 rfl) ?_
    refine g_iadd (kdX12_weighNow 24 rfl) ?_
    refine g_lt (fun x4 => ?_)
    refine g_istore_n (L2 := [(1, .inl x4), (0, .inr (.inr (40, 0))), (2, .inl v2)]) (kdX12_weighNow 25 rfl) rfl (by decide) ?_
    refine g_iinc (v := v2 + 1) (L2 := [(2, .inl (v2 + 1)), (1, .inl x4), (0, .inr (.inr (40, 0)))]) 2 (kdX12_weighNow 26 rfl) rfl rfl rfl (by decide) ?_
    refine g_goto (tgt := 4) (kdX12_weighNow 27 rfl) (by decide) ?_
    exact g_fgt [2, 1, 0] rfl (h4 x4 (v2 + 1) m)
def JX12_weighNow_4 (K41 : Int32 → hM → hR) : Nat → Int32 → Int32 → hM → hR
  | 0, _, _, _ => none
  | f + 1, v1, v2, m => bJX12_weighNow_4 (fun v1 v2 m => JX12_weighNow_4 K41  f v1 v2 m) K41  v1 v2 m
theorem BJX12_weighNow_4 (K41 : Int32 → hM → hR) (h41 : ∀ (v1 : Int32) (m : hM), G mX12_weighNow 1 41 [(0, .inr (.inr (40, 0))), (1, .inl v1)] [] m (K41 v1 m)) : ∀ (f : Nat) (v1 : Int32) (v2 : Int32) (m : hM), G mX12_weighNow 1 4 [(0, .inr (.inr (40, 0))), (1, .inl v1), (2, .inl v2)] [] m (JX12_weighNow_4 K41  f v1 v2 m)
  | 0, _, _, _ => g_none
  | f + 1, v1, v2, m => BbJX12_weighNow_4  _ K41  (fun v1 v2 m => BJX12_weighNow_4  K41  h41 f v1 v2 m) h41 v1 v2 m
def bJX12_weighNow_51 (K51 : Int32 → hM → hR) (K91 : hM → hR) (v1 : Int32) (v2 : Int32) (m : hM) : hR :=
  ald m 45 0 2 fun x7 =>
  if x7 ≤ v2 then (K91 m) else (ald m 45 0 1 fun x8 =>
  ald m 50 0 ((0 + x8) + v2) fun x9 =>
  ast m 50 0 (46 + v2) x9 fun m10 =>
  K51 (v2 + 1) m10)
set_option maxRecDepth 20000 in
theorem BbJX12_weighNow_51 (K51 : Int32 → hM → hR) (K91 : hM → hR) (v1 : Int32) (h51 : ∀ (v2 : Int32) (m : hM), G mX12_weighNow 1 51 [(0, .inr (.inr (40, 0))), (1, .inl v1), (2, .inl v2)] [] m (K51 v2 m)) (h91 : ∀ (m : hM), G mX12_weighNow 1 91 [(0, .inr (.inr (40, 0))), (1, .inl v1)] [] m (K91 m)) (v2 : Int32) (m : hM) : G mX12_weighNow 1 51 [(0, .inr (.inr (40, 0))), (1, .inl v1), (2, .inl v2)] [] m (bJX12_weighNow_51 K51 K91 v1 v2 m) := by
  unfold bJX12_weighNow_51
  refine g_iload_n 2 (kdX12_weighNow 35 rfl) rfl ?_
  refine g_aload_n 0 (kdX12_weighNow 36 rfl) rfl ?_
  refine g_get (v := .inr (.inr (45, 0))) (kdX12_weighNow 37 rfl) fX12_22 rfl ?_
  refine g_iconst (v := 2) (kdX12_weighNow 38 rfl) (by decide) ?_
  refine g_iald (kdX12_weighNow 39 rfl) (fun x7 => ?_)
  refine g_icmp_ge (tgt := 91) (kdX12_weighNow 40 rfl) (by decide) (fun _ => ?_) (fun _ => ?_)
  · exact g_fgt [0, 1] rfl (h91 m)
  · refine g_aload_n 0 (kdX12_weighNow 41 rfl) rfl ?_
    refine g_get (v := .inr (.inr (50, 0))) (kdX12_weighNow 42 rfl) fX12_37 rfl ?_
    refine g_bipush (v := 46) (kdX12_weighNow 43 rfl) (by decide) ?_
    refine g_iload_n 2 (kdX12_weighNow 44 rfl) rfl ?_
    refine g_iadd (kdX12_weighNow 45 rfl) ?_
    refine g_aload_n 0 (kdX12_weighNow 46 rfl) rfl ?_
    refine g_get (v := .inr (.inr (50, 0))) (kdX12_weighNow 47 rfl) fX12_37 rfl ?_
    refine g_iconst (v := 0) (kdX12_weighNow 48 rfl) (by decide) ?_
    refine g_aload_n 0 (kdX12_weighNow 49 rfl) rfl ?_
    refine g_get (v := .inr (.inr (45, 0))) (kdX12_weighNow 50 rfl) fX12_22 rfl ?_
    refine g_iconst (v := 1) (kdX12_weighNow 51 rfl) (by decide) ?_
    refine g_iald (kdX12_weighNow 52 rfl) (fun x8 => ?_)
    refine g_iadd (kdX12_weighNow 53 rfl) ?_
    refine g_iload_n 2 (kdX12_weighNow 54 rfl) rfl ?_
    refine g_iadd (kdX12_weighNow 55 rfl) ?_
    refine g_iald (kdX12_weighNow 56 rfl) (fun x9 => ?_)
    refine g_iast (kdX12_weighNow 57 rfl) (fun m10 => ?_)
    refine g_iinc (v := v2 + 1) (L2 := [(2, .inl (v2 + 1)), (0, .inr (.inr (40, 0))), (1, .inl v1)]) 2 (kdX12_weighNow 58 rfl) rfl rfl rfl (by decide) ?_
    refine g_goto (tgt := 51) (kdX12_weighNow 59 rfl) (by decide) ?_
    exact g_fgt [1, 2, 0] rfl (h51 (v2 + 1) m10)
def JX12_weighNow_51 (K91 : hM → hR) (v1 : Int32) : Nat → Int32 → hM → hR
  | 0, _, _ => none
  | f + 1, v2, m => bJX12_weighNow_51 (fun v2 m => JX12_weighNow_51 K91 v1 f v2 m) K91 v1 v2 m
theorem BJX12_weighNow_51 (K91 : hM → hR) (v1 : Int32) (h91 : ∀ (m : hM), G mX12_weighNow 1 91 [(0, .inr (.inr (40, 0))), (1, .inl v1)] [] m (K91 m)) : ∀ (f : Nat) (v2 : Int32) (m : hM), G mX12_weighNow 1 51 [(0, .inr (.inr (40, 0))), (1, .inl v1), (2, .inl v2)] [] m (JX12_weighNow_51 K91 v1 f v2 m)
  | 0, _, _ => g_none
  | f + 1, v2, m => BbJX12_weighNow_51  _ K91 v1 (fun v2 m => BJX12_weighNow_51  K91 v1 h91 f v2 m) h91 v2 m
def JX12_weighNow  (m : hM) : hR :=
  JX12_weighNow_4 (fun v1 m5 => ast m5 50 0 45 v1 fun m6 =>
  JX12_weighNow_51 (fun m11 => calI (JX12_takenOff m11) fun x13 m12 =>
  ast m12 50 0 44 (v1 - x13) fun m14 =>
  some (none, m14)) v1 FU 0 m6)  FU 0 0 m
set_option maxRecDepth 20000 in
theorem CX12_weighNow  (m : hM) : Cn mX12_weighNow 1 [.inr (.inr (40, 0))] m (JX12_weighNow  m) := by
  refine cn_of (by decide +kernel) (by simp only [List.map, vcat, List.sum_cons, List.sum_nil]; decide) ?_
  unfold JX12_weighNow
  show G mX12_weighNow 1 0 [(0, .inr (.inr (40, 0)))] [] m _
  refine g_iconst (v := 0) (kdX12_weighNow 0 rfl) (by decide) ?_
  refine g_istore_n (L2 := [(1, .inl 0), (0, .inr (.inr (40, 0)))]) (kdX12_weighNow 1 rfl) rfl (by decide) ?_
  refine g_iconst (v := 0) (kdX12_weighNow 2 rfl) (by decide) ?_
  refine g_istore_n (L2 := [(2, .inl 0), (1, .inl 0), (0, .inr (.inr (40, 0)))]) (kdX12_weighNow 3 rfl) rfl (by decide) ?_
  refine g_fgt [2, 1, 0] rfl (BJX12_weighNow_4  _  ?_ FU 0 0 m)
  · intro v1 m5
    refine g_aload_n 0 (kdX12_weighNow 28 rfl) rfl ?_
    refine g_get (v := .inr (.inr (50, 0))) (kdX12_weighNow 29 rfl) fX12_37 rfl ?_
    refine g_bipush (v := 45) (kdX12_weighNow 30 rfl) (by decide) ?_
    refine g_iload_n 1 (kdX12_weighNow 31 rfl) rfl ?_
    refine g_iast (kdX12_weighNow 32 rfl) (fun m6 => ?_)
    refine g_iconst (v := 0) (kdX12_weighNow 33 rfl) (by decide) ?_
    refine g_istore_n (L2 := [(2, .inl 0), (0, .inr (.inr (40, 0))), (1, .inl v1)]) (kdX12_weighNow 34 rfl) rfl (by decide) ?_
    refine g_fgt [1, 2, 0] rfl (BJX12_weighNow_51  _ v1 ?_ FU 0 m6)
    · intro m11
      refine g_aload_n 0 (kdX12_weighNow 60 rfl) rfl ?_
      refine g_get (v := .inr (.inr (50, 0))) (kdX12_weighNow 61 rfl) fX12_37 rfl ?_
      refine g_bipush (v := 44) (kdX12_weighNow 62 rfl) (by decide) ?_
      refine g_iload_n 1 (kdX12_weighNow 63 rfl) rfl ?_
      refine g_aload_n 0 (kdX12_weighNow 64 rfl) rfl ?_
      refine g_calI (ck_V (As := []) (S := [.inl v1, .inl 44, .inr (.inr (50, 0))]) (t := 40) (o := 0) (kdX12_weighNow 65 rfl) iX12_takenOff lX12_231 rc_40 rfl rfl rfl (by decide) (by simp only [List.map, vcat, List.sum_cons, List.sum_nil]; decide)) (CX12_takenOff m11) (fun x13 m12 => ?_)
      refine g_isub (kdX12_weighNow 66 rfl) ?_
      refine g_iast (kdX12_weighNow 67 rfl) (fun m14 => ?_)
      exact g_vret rfl (kdX12_weighNow 68 rfl)
def JX12_hush_78 (m : hM) : hR :=
  ald m 50 0 23 fun x7 =>
  if x7 = 4 then (ast m 50 0 17 1 fun m9 =>
  some (none, m9)) else (ast m 50 0 17 0 fun m8 =>
  some (none, m8))
set_option maxRecDepth 20000 in
theorem BX12_hush_78 (m : hM) : G mX12_hush 1 78 [(0, .inr (.inr (40, 0)))] [] m (JX12_hush_78 m) := by
  unfold JX12_hush_78
  refine g_aload_n 0 (kdX12_hush 44 rfl) rfl ?_
  refine g_get (v := .inr (.inr (50, 0))) (kdX12_hush 45 rfl) fX12_37 rfl ?_
  refine g_bipush (v := 17) (kdX12_hush 46 rfl) (by decide) ?_
  refine g_aload_n 0 (kdX12_hush 47 rfl) rfl ?_
  refine g_get (v := .inr (.inr (50, 0))) (kdX12_hush 48 rfl) fX12_37 rfl ?_
  refine g_bipush (v := 23) (kdX12_hush 49 rfl) (by decide) ?_
  refine g_iald (kdX12_hush 50 rfl) (fun x7 => ?_)
  refine g_iconst (v := 4) (kdX12_hush 51 rfl) (by decide) ?_
  refine g_icmp_ne (tgt := 99) (kdX12_hush 52 rfl) (by decide) (fun _ => ?_) (fun _ => ?_)
  · refine g_iconst (v := 0) (kdX12_hush 55 rfl) (by decide) ?_
    refine g_iast (kdX12_hush 56 rfl) (fun m8 => ?_)
    exact g_vret rfl (kdX12_hush 57 rfl)
  · refine g_iconst (v := 1) (kdX12_hush 53 rfl) (by decide) ?_
    refine g_goto (tgt := 100) (kdX12_hush 54 rfl) (by decide) ?_
    refine g_iast (kdX12_hush 56 rfl) (fun m9 => ?_)
    exact g_vret rfl (kdX12_hush 57 rfl)
def JX12_hush_55 (v100 : Int32) (v101 : Int32) (m : hM) : hR :=
  ast m 50 0 v101 v100 fun m5 =>
  ald m5 50 0 23 fun x6 =>
  if x6 = 4 then (JX12_hush_78 m5) else (ald m5 50 0 24 fun x10 =>
  if x10 = 4 then (JX12_hush_78 m5) else (some (none, m5)))
set_option maxRecDepth 20000 in
theorem BX12_hush_55 (v100 : Int32) (v101 : Int32) (m : hM) : G mX12_hush 1 55 [(0, .inr (.inr (40, 0)))] [.inl v100, .inl v101, .inr (.inr (50, 0))] m (JX12_hush_55 v100 v101 m) := by
  unfold JX12_hush_55
  refine g_iast (kdX12_hush 31 rfl) (fun m5 => ?_)
  refine g_aload_n 0 (kdX12_hush 32 rfl) rfl ?_
  refine g_get (v := .inr (.inr (50, 0))) (kdX12_hush 33 rfl) fX12_37 rfl ?_
  refine g_bipush (v := 23) (kdX12_hush 34 rfl) (by decide) ?_
  refine g_iald (kdX12_hush 35 rfl) (fun x6 => ?_)
  refine g_iconst (v := 4) (kdX12_hush 36 rfl) (by decide) ?_
  refine g_icmp_eq (tgt := 78) (kdX12_hush 37 rfl) (by decide) (fun _ => ?_) (fun _ => ?_)
  · exact g_fgt [0] rfl (BX12_hush_78 m5)
  · refine g_aload_n 0 (kdX12_hush 38 rfl) rfl ?_
    refine g_get (v := .inr (.inr (50, 0))) (kdX12_hush 39 rfl) fX12_37 rfl ?_
    refine g_bipush (v := 24) (kdX12_hush 40 rfl) (by decide) ?_
    refine g_iald (kdX12_hush 41 rfl) (fun x10 => ?_)
    refine g_iconst (v := 4) (kdX12_hush 42 rfl) (by decide) ?_
    refine g_icmp_ne (tgt := 101) (kdX12_hush 43 rfl) (by decide) (fun _ => ?_) (fun _ => ?_)
    · exact g_vret rfl (kdX12_hush 57 rfl)
    · exact g_fgt [0] rfl (BX12_hush_78 m5)
def JX12_hush_27 (v1 : Int32) (v100 : Int32) (v101 : Int32) (m : hM) : hR :=
  ast m 50 0 v101 v100 fun m1 =>
  if v1 = 0 then (ald m1 50 0 24 fun x2 =>
  calI (JJ9_min_7cf53 4 (x2 + 1) m1) fun x4 m3 =>
  JX12_hush_55 x4 24 m3) else (JX12_hush_55 0 24 m1)
set_option maxRecDepth 20000 in
theorem BX12_hush_27 (v1 : Int32) (v100 : Int32) (v101 : Int32) (m : hM) : G mX12_hush 1 27 [(0, .inr (.inr (40, 0))), (1, .inl v1)] [.inl v100, .inl v101, .inr (.inr (50, 0))] m (JX12_hush_27 v1 v100 v101 m) := by
  unfold JX12_hush_27
  refine g_iast (kdX12_hush 15 rfl) (fun m1 => ?_)
  refine g_aload_n 0 (kdX12_hush 16 rfl) rfl ?_
  refine g_get (v := .inr (.inr (50, 0))) (kdX12_hush 17 rfl) fX12_37 rfl ?_
  refine g_bipush (v := 24) (kdX12_hush 18 rfl) (by decide) ?_
  refine g_iload_n 1 (kdX12_hush 19 rfl) rfl ?_
  refine g_if_eq (tgt := 42) (kdX12_hush 20 rfl) (by decide) (fun _ => ?_) (fun _ => ?_)
  · refine g_iconst (v := 4) (kdX12_hush 23 rfl) (by decide) ?_
    refine g_aload_n 0 (kdX12_hush 24 rfl) rfl ?_
    refine g_get (v := .inr (.inr (50, 0))) (kdX12_hush 25 rfl) fX12_37 rfl ?_
    refine g_bipush (v := 24) (kdX12_hush 26 rfl) (by decide) ?_
    refine g_iald (kdX12_hush 27 rfl) (fun x2 => ?_)
    refine g_iconst (v := 1) (kdX12_hush 28 rfl) (by decide) ?_
    refine g_iadd (kdX12_hush 29 rfl) ?_
    refine g_calI (ck_S (As := [.inl 4, .inl (x2 + 1)]) (S := [.inl 24, .inr (.inr (50, 0))]) (kdX12_hush 30 rfl) iJ9_min_7cf53 lX12_234 rfl rfl rfl (by decide) (by simp only [List.map, vcat, List.sum_cons, List.sum_nil]; decide)) (CJ9_min_7cf53 4 (x2 + 1) m1) (fun x4 m3 => ?_)
    exact g_fgt [0] rfl (BX12_hush_55 x4 24 m3)
  · refine g_iconst (v := 0) (kdX12_hush 21 rfl) (by decide) ?_
    refine g_goto (tgt := 55) (kdX12_hush 22 rfl) (by decide) ?_
    exact g_fgt [0] rfl (BX12_hush_55 0 24 m1)
def JX12_hush (a1 : Int32) (m : hM) : hR :=
  if a1 = 0 then (JX12_hush_27 a1 0 23 m) else (ald m 50 0 23 fun x11 =>
  calI (JJ9_min_7cf53 4 (x11 + 1) m) fun x13 m12 =>
  JX12_hush_27 a1 x13 23 m12)
set_option maxRecDepth 20000 in
theorem CX12_hush (a1 : Int32) (m : hM) : Cn mX12_hush 1 [.inr (.inr (40, 0)), .inl a1] m (JX12_hush a1 m) := by
  refine cn_of (by decide +kernel) (by simp only [List.map, vcat, List.sum_cons, List.sum_nil]; decide) ?_
  unfold JX12_hush
  show G mX12_hush 1 0 [(0, .inr (.inr (40, 0))), (1, .inl a1)] [] m _
  refine g_aload_n 0 (kdX12_hush 0 rfl) rfl ?_
  refine g_get (v := .inr (.inr (50, 0))) (kdX12_hush 1 rfl) fX12_37 rfl ?_
  refine g_bipush (v := 23) (kdX12_hush 2 rfl) (by decide) ?_
  refine g_iload_n 1 (kdX12_hush 3 rfl) rfl ?_
  refine g_if_eq (tgt := 26) (kdX12_hush 4 rfl) (by decide) (fun _ => ?_) (fun _ => ?_)
  · refine g_iconst (v := 0) (kdX12_hush 14 rfl) (by decide) ?_
    exact g_fgt [0, 1] rfl (BX12_hush_27 a1 0 23 m)
  · refine g_iconst (v := 4) (kdX12_hush 5 rfl) (by decide) ?_
    refine g_aload_n 0 (kdX12_hush 6 rfl) rfl ?_
    refine g_get (v := .inr (.inr (50, 0))) (kdX12_hush 7 rfl) fX12_37 rfl ?_
    refine g_bipush (v := 23) (kdX12_hush 8 rfl) (by decide) ?_
    refine g_iald (kdX12_hush 9 rfl) (fun x11 => ?_)
    refine g_iconst (v := 1) (kdX12_hush 10 rfl) (by decide) ?_
    refine g_iadd (kdX12_hush 11 rfl) ?_
    refine g_calI (ck_S (As := [.inl 4, .inl (x11 + 1)]) (S := [.inl 23, .inr (.inr (50, 0))]) (kdX12_hush 12 rfl) iJ9_min_7cf53 lX12_234 rfl rfl rfl (by decide) (by simp only [List.map, vcat, List.sum_cons, List.sum_nil]; decide)) (CJ9_min_7cf53 4 (x11 + 1) m) (fun x13 m12 => ?_)
    refine g_goto (tgt := 27) (kdX12_hush 13 rfl) (by decide) ?_
    exact g_fgt [0, 1] rfl (BX12_hush_27 a1 x13 23 m12)
def JX12_vote (a1 : Int32) (a2 : Int32) (a3 : Int32) (a4 : Int32) (a5 : Int32) (a6 : Int32) (m : hM) : hR :=
  ald m 50 0 a1 fun x1 =>
  ast m 50 0 a1 (x1 + a2) fun m2 =>
  ald m2 50 0 a1 fun x3 =>
  calI (JX12_size x3 m2) fun x5 m4 =>
  if x5 < a3 then (some (none, m4)) else (ald m4 50 0 a4 fun x6 =>
  ald m4 50 0 a1 fun x7 =>
  calI (JX12_sign x7 m4) fun x9 m8 =>
  calI (JX12_held (x6 + x9) a5 a6 m8) fun x11 m10 =>
  ast m10 50 0 a4 x11 fun m12 =>
  ast m12 50 0 a1 0 fun m13 =>
  some (none, m13))
set_option maxRecDepth 20000 in
theorem CX12_vote (a1 : Int32) (a2 : Int32) (a3 : Int32) (a4 : Int32) (a5 : Int32) (a6 : Int32) (m : hM) : Cn mX12_vote 1 [.inr (.inr (40, 0)), .inl a1, .inl a2, .inl a3, .inl a4, .inl a5, .inl a6] m (JX12_vote a1 a2 a3 a4 a5 a6 m) := by
  refine cn_of (by decide +kernel) (by simp only [List.map, vcat, List.sum_cons, List.sum_nil]; decide) ?_
  unfold JX12_vote
  show G mX12_vote 1 0 [(0, .inr (.inr (40, 0))), (1, .inl a1), (2, .inl a2), (3, .inl a3), (4, .inl a4), (5, .inl a5), (6, .inl a6)] [] m _
  refine g_aload_n 0 (kdX12_vote 0 rfl) rfl ?_
  refine g_get (v := .inr (.inr (50, 0))) (kdX12_vote 1 rfl) fX12_37 rfl ?_
  refine g_iload_n 1 (kdX12_vote 2 rfl) rfl ?_
  refine g_dup2 (kdX12_vote 3 rfl) rfl rfl ?_
  refine g_iald (kdX12_vote 4 rfl) (fun x1 => ?_)
  refine g_iload_n 2 (kdX12_vote 5 rfl) rfl ?_
  refine g_iadd (kdX12_vote 6 rfl) ?_
  refine g_iast (kdX12_vote 7 rfl) (fun m2 => ?_)
  refine g_aload_n 0 (kdX12_vote 8 rfl) rfl ?_
  refine g_get (v := .inr (.inr (50, 0))) (kdX12_vote 9 rfl) fX12_37 rfl ?_
  refine g_iload_n 1 (kdX12_vote 10 rfl) rfl ?_
  refine g_iald (kdX12_vote 11 rfl) (fun x3 => ?_)
  refine g_calI (ck_S (As := [.inl x3]) (S := []) (kdX12_vote 12 rfl) iX12_size lX12_239 rfl rfl rfl (by decide) (by simp only [List.map, vcat, List.sum_cons, List.sum_nil]; decide)) (CX12_size x3 m2) (fun x5 m4 => ?_)
  refine g_iload_n 3 (kdX12_vote 13 rfl) rfl ?_
  refine g_icmp_lt (tgt := 61) (kdX12_vote 14 rfl) (by decide) (fun _ => ?_) (fun _ => ?_)
  · exact g_vret rfl (kdX12_vote 37 rfl)
  · refine g_aload_n 0 (kdX12_vote 15 rfl) rfl ?_
    refine g_get (v := .inr (.inr (50, 0))) (kdX12_vote 16 rfl) fX12_37 rfl ?_
    refine g_iload 4 (kdX12_vote 17 rfl) rfl ?_
    refine g_aload_n 0 (kdX12_vote 18 rfl) rfl ?_
    refine g_get (v := .inr (.inr (50, 0))) (kdX12_vote 19 rfl) fX12_37 rfl ?_
    refine g_iload 4 (kdX12_vote 20 rfl) rfl ?_
    refine g_iald (kdX12_vote 21 rfl) (fun x6 => ?_)
    refine g_aload_n 0 (kdX12_vote 22 rfl) rfl ?_
    refine g_get (v := .inr (.inr (50, 0))) (kdX12_vote 23 rfl) fX12_37 rfl ?_
    refine g_iload_n 1 (kdX12_vote 24 rfl) rfl ?_
    refine g_iald (kdX12_vote 25 rfl) (fun x7 => ?_)
    refine g_calI (ck_S (As := [.inl x7]) (S := [.inl x6, .inl a4, .inr (.inr (50, 0))]) (kdX12_vote 26 rfl) iX12_sign lX12_242 rfl rfl rfl (by decide) (by simp only [List.map, vcat, List.sum_cons, List.sum_nil]; decide)) (CX12_sign x7 m4) (fun x9 m8 => ?_)
    refine g_iadd (kdX12_vote 27 rfl) ?_
    refine g_iload 5 (kdX12_vote 28 rfl) rfl ?_
    refine g_iload 6 (kdX12_vote 29 rfl) rfl ?_
    refine g_calI (ck_S (As := [.inl (x6 + x9), .inl a5, .inl a6]) (S := [.inl a4, .inr (.inr (50, 0))]) (kdX12_vote 30 rfl) iX12_held lX12_245 rfl rfl rfl (by decide) (by simp only [List.map, vcat, List.sum_cons, List.sum_nil]; decide)) (CX12_held (x6 + x9) a5 a6 m8) (fun x11 m10 => ?_)
    refine g_iast (kdX12_vote 31 rfl) (fun m12 => ?_)
    refine g_aload_n 0 (kdX12_vote 32 rfl) rfl ?_
    refine g_get (v := .inr (.inr (50, 0))) (kdX12_vote 33 rfl) fX12_37 rfl ?_
    refine g_iload_n 1 (kdX12_vote 34 rfl) rfl ?_
    refine g_iconst (v := 0) (kdX12_vote 35 rfl) (by decide) ?_
    refine g_iast (kdX12_vote 36 rfl) (fun m13 => ?_)
    exact g_vret rfl (kdX12_vote 37 rfl)
def bJX12_learn_13 (K13 : Int32 → hM → hR) (K65 : hM → hR) (v1 : Int32) (v2 : Int32) (v3 : Int32) (m : hM) : hR :=
  ald m 45 0 1 fun x3 =>
  if x3 ≤ v3 then (K65 m) else (ald m 50 0 (40 + v3) fun x4 =>
  calI (JX12_sign x4 m) fun x6 m5 =>
  calV (JX12_vote (6 + v3) ((-x6) * v1) (m5.1 40 0 22) (0 + v3) (-255) 255 m5) fun m7 =>
  K13 (v3 + 1) m7)
set_option maxRecDepth 20000 in
theorem BbJX12_learn_13 (K13 : Int32 → hM → hR) (K65 : hM → hR) (v1 : Int32) (v2 : Int32) (h13 : ∀ (v3 : Int32) (m : hM), G mX12_learn 2 13 [(0, .inr (.inr (40, 0))), (1, .inl v1), (2, .inl v2), (3, .inl v3)] [] m (K13 v3 m)) (h65 : ∀ (m : hM), G mX12_learn 2 65 [(0, .inr (.inr (40, 0))), (1, .inl v1), (2, .inl v2)] [] m (K65 m)) (v3 : Int32) (m : hM) : G mX12_learn 2 13 [(0, .inr (.inr (40, 0))), (1, .inl v1), (2, .inl v2), (3, .inl v3)] [] m (bJX12_learn_13 K13 K65 v1 v2 v3 m) := by
  unfold bJX12_learn_13
  refine g_iload_n 3 (kdX12_learn 10 rfl) rfl ?_
  refine g_aload_n 0 (kdX12_learn 11 rfl) rfl ?_
  refine g_get (v := .inr (.inr (45, 0))) (kdX12_learn 12 rfl) fX12_22 rfl ?_
  refine g_iconst (v := 1) (kdX12_learn 13 rfl) (by decide) ?_
  refine g_iald (kdX12_learn 14 rfl) (fun x3 => ?_)
  refine g_icmp_ge (tgt := 65) (kdX12_learn 15 rfl) (by decide) (fun _ => ?_) (fun _ => ?_)
  · exact g_fgt [0, 1, 2] rfl (h65 m)
  · refine g_aload_n 0 (kdX12_learn 16 rfl) rfl ?_
    refine g_bipush (v := 6) (kdX12_learn 17 rfl) (by decide) ?_
    refine g_iload_n 3 (kdX12_learn 18 rfl) rfl ?_
    refine g_iadd (kdX12_learn 19 rfl) ?_
    refine g_aload_n 0 (kdX12_learn 20 rfl) rfl ?_
    refine g_get (v := .inr (.inr (50, 0))) (kdX12_learn 21 rfl) fX12_37 rfl ?_
    refine g_bipush (v := 40) (kdX12_learn 22 rfl) (by decide) ?_
    refine g_iload_n 3 (kdX12_learn 23 rfl) rfl ?_
    refine g_iadd (kdX12_learn 24 rfl) ?_
    refine g_iald (kdX12_learn 25 rfl) (fun x4 => ?_)
    refine g_calI (ck_S (As := [.inl x4]) (S := [.inl (6 + v3), .inr (.inr (40, 0))]) (kdX12_learn 26 rfl) iX12_sign lX12_242 rfl rfl rfl (by decide) (by simp only [List.map, vcat, List.sum_cons, List.sum_nil]; decide)) (CX12_sign x4 m) (fun x6 m5 => ?_)
    refine g_ineg (kdX12_learn 27 rfl) ?_
    refine g_iload_n 1 (kdX12_learn 28 rfl) rfl ?_
    refine g_imul (kdX12_learn 29 rfl) ?_
    refine g_aload_n 0 (kdX12_learn 30 rfl) rfl ?_
    refine g_get (v := .inl (m5.1 40 0 22)) (kdX12_learn 31 rfl) fX12_47 rfl ?_
    refine g_iconst (v := 0) (kdX12_learn 32 rfl) (by decide) ?_
    refine g_iload_n 3 (kdX12_learn 33 rfl) rfl ?_
    refine g_iadd (kdX12_learn 34 rfl) ?_
    refine g_sipush (v := (-255)) (kdX12_learn 35 rfl) (by decide) ?_
    refine g_sipush (v := 255) (kdX12_learn 36 rfl) (by decide) ?_
    refine g_calV (ck_V (As := [.inl (6 + v3), .inl ((-x6) * v1), .inl (m5.1 40 0 22), .inl (0 + v3), .inl (-255), .inl 255]) (S := []) (t := 40) (o := 0) (kdX12_learn 37 rfl) iX12_vote lX12_249 rc_40 rfl rfl rfl (by decide) (by simp only [List.map, vcat, List.sum_cons, List.sum_nil]; decide)) (CX12_vote (6 + v3) ((-x6) * v1) (m5.1 40 0 22) (0 + v3) (-255) 255 m5) (fun m7 => ?_)
    refine g_iinc (v := v3 + 1) (L2 := [(3, .inl (v3 + 1)), (0, .inr (.inr (40, 0))), (1, .inl v1), (2, .inl v2)]) 3 (kdX12_learn 38 rfl) rfl rfl rfl (by decide) ?_
    refine g_goto (tgt := 13) (kdX12_learn 39 rfl) (by decide) ?_
    exact g_fgt [1, 2, 3, 0] rfl (h13 (v3 + 1) m7)
def JX12_learn_13 (K65 : hM → hR) (v1 : Int32) (v2 : Int32) : Nat → Int32 → hM → hR
  | 0, _, _ => none
  | f + 1, v3, m => bJX12_learn_13 (fun v3 m => JX12_learn_13 K65 v1 v2 f v3 m) K65 v1 v2 v3 m
theorem BJX12_learn_13 (K65 : hM → hR) (v1 : Int32) (v2 : Int32) (h65 : ∀ (m : hM), G mX12_learn 2 65 [(0, .inr (.inr (40, 0))), (1, .inl v1), (2, .inl v2)] [] m (K65 m)) : ∀ (f : Nat) (v3 : Int32) (m : hM), G mX12_learn 2 13 [(0, .inr (.inr (40, 0))), (1, .inl v1), (2, .inl v2), (3, .inl v3)] [] m (JX12_learn_13 K65 v1 v2 f v3 m)
  | 0, _, _ => g_none
  | f + 1, v3, m => BbJX12_learn_13  _ K65 v1 v2 (fun v3 m => BJX12_learn_13  K65 v1 v2 h65 f v3 m) h65 v3 m
def bJX12_learn_67 (K67 : Int32 → hM → hR) (K129 : hM → hR) (v1 : Int32) (v2 : Int32) (v3 : Int32) (m : hM) : hR :=
  ald m 45 0 2 fun x9 =>
  if x9 ≤ v3 then (K129 m) else (ald m 45 0 1 fun x10 =>
  ald m 50 0 (37 + v3) fun x11 =>
  ald m 45 0 1 fun x12 =>
  calV (JX12_vote ((6 + x10) + v3) (x11 * v1) (m.1 40 0 22) ((0 + x12) + v3) (-255) 255 m) fun m13 =>
  K67 (v3 + 1) m13)
set_option maxRecDepth 20000 in
theorem BbJX12_learn_67 (K67 : Int32 → hM → hR) (K129 : hM → hR) (v1 : Int32) (v2 : Int32) (h67 : ∀ (v3 : Int32) (m : hM), G mX12_learn 2 67 [(0, .inr (.inr (40, 0))), (1, .inl v1), (2, .inl v2), (3, .inl v3)] [] m (K67 v3 m)) (h129 : ∀ (m : hM), G mX12_learn 2 129 [(0, .inr (.inr (40, 0))), (1, .inl v1), (2, .inl v2)] [] m (K129 m)) (v3 : Int32) (m : hM) : G mX12_learn 2 67 [(0, .inr (.inr (40, 0))), (1, .inl v1), (2, .inl v2), (3, .inl v3)] [] m (bJX12_learn_67 K67 K129 v1 v2 v3 m) := by
  unfold bJX12_learn_67
  refine g_iload_n 3 (kdX12_learn 42 rfl) rfl ?_
  refine g_aload_n 0 (kdX12_learn 43 rfl) rfl ?_
  refine g_get (v := .inr (.inr (45, 0))) (kdX12_learn 44 rfl) fX12_22 rfl ?_
  refine g_iconst (v := 2) (kdX12_learn 45 rfl) (by decide) ?_
  refine g_iald (kdX12_learn 46 rfl) (fun x9 => ?_)
  refine g_icmp_ge (tgt := 129) (kdX12_learn 47 rfl) (by decide) (fun _ => ?_) (fun _ => ?_)
  · exact g_fgt [0, 1, 2] rfl (h129 m)
  · refine g_aload_n 0 (kdX12_learn 48 rfl) rfl ?_
    refine g_bipush (v := 6) (kdX12_learn 49 rfl) (by decide) ?_
    refine g_aload_n 0 (kdX12_learn 50 rfl) rfl ?_
    refine g_get (v := .inr (.inr (45, 0))) (kdX12_learn 51 rfl) fX12_22 rfl ?_
    refine g_iconst (v := 1) (kdX12_learn 52 rfl) (by decide) ?_
    refine g_iald (kdX12_learn 53 rfl) (fun x10 => ?_)
    refine g_iadd (kdX12_learn 54 rfl) ?_
    refine g_iload_n 3 (kdX12_learn 55 rfl) rfl ?_
    refine g_iadd (kdX12_learn 56 rfl) ?_
    refine g_aload_n 0 (kdX12_learn 57 rfl) rfl ?_
    refine g_get (v := .inr (.inr (50, 0))) (kdX12_learn 58 rfl) fX12_37 rfl ?_
    refine g_bipush (v := 37) (kdX12_learn 59 rfl) (by decide) ?_
    refine g_iload_n 3 (kdX12_learn 60 rfl) rfl ?_
    refine g_iadd (kdX12_learn 61 rfl) ?_
    refine g_iald (kdX12_learn 62 rfl) (fun x11 => ?_)
    refine g_iload_n 1 (kdX12_learn 63 rfl) rfl ?_
    refine g_imul (kdX12_learn 64 rfl) ?_
    refine g_aload_n 0 (kdX12_learn 65 rfl) rfl ?_
    refine g_get (v := .inl (m.1 40 0 22)) (kdX12_learn 66 rfl) fX12_47 rfl ?_
    refine g_iconst (v := 0) (kdX12_learn 67 rfl) (by decide) ?_
    refine g_aload_n 0 (kdX12_learn 68 rfl) rfl ?_
    refine g_get (v := .inr (.inr (45, 0))) (kdX12_learn 69 rfl) fX12_22 rfl ?_
    refine g_iconst (v := 1) (kdX12_learn 70 rfl) (by decide) ?_
    refine g_iald (kdX12_learn 71 rfl) (fun x12 => ?_)
    refine g_iadd (kdX12_learn 72 rfl) ?_
    refine g_iload_n 3 (kdX12_learn 73 rfl) rfl ?_
    refine g_iadd (kdX12_learn 74 rfl) ?_
    refine g_sipush (v := (-255)) (kdX12_learn 75 rfl) (by decide) ?_
    refine g_sipush (v := 255) (kdX12_learn 76 rfl) (by decide) ?_
    refine g_calV (ck_V (As := [.inl ((6 + x10) + v3), .inl (x11 * v1), .inl (m.1 40 0 22), .inl ((0 + x12) + v3), .inl (-255), .inl 255]) (S := []) (t := 40) (o := 0) (kdX12_learn 77 rfl) iX12_vote lX12_249 rc_40 rfl rfl rfl (by decide) (by simp only [List.map, vcat, List.sum_cons, List.sum_nil]; decide)) (CX12_vote ((6 + x10) + v3) (x11 * v1) (m.1 40 0 22) ((0 + x12) + v3) (-255) 255 m) (fun m13 => ?_)
    refine g_iinc (v := v3 + 1) (L2 := [(3, .inl (v3 + 1)), (0, .inr (.inr (40, 0))), (1, .inl v1), (2, .inl v2)]) 3 (kdX12_learn 78 rfl) rfl rfl rfl (by decide) ?_
    refine g_goto (tgt := 67) (kdX12_learn 79 rfl) (by decide) ?_
    exact g_fgt [1, 2, 3, 0] rfl (h67 (v3 + 1) m13)
def JX12_learn_67 (K129 : hM → hR) (v1 : Int32) (v2 : Int32) : Nat → Int32 → hM → hR
  | 0, _, _ => none
  | f + 1, v3, m => bJX12_learn_67 (fun v3 m => JX12_learn_67 K129 v1 v2 f v3 m) K129 v1 v2 v3 m
theorem BJX12_learn_67 (K129 : hM → hR) (v1 : Int32) (v2 : Int32) (h129 : ∀ (m : hM), G mX12_learn 2 129 [(0, .inr (.inr (40, 0))), (1, .inl v1), (2, .inl v2)] [] m (K129 m)) : ∀ (f : Nat) (v3 : Int32) (m : hM), G mX12_learn 2 67 [(0, .inr (.inr (40, 0))), (1, .inl v1), (2, .inl v2), (3, .inl v3)] [] m (JX12_learn_67 K129 v1 v2 f v3 m)
  | 0, _, _ => g_none
  | f + 1, v3, m => BbJX12_learn_67  _ K129 v1 v2 (fun v3 m => BJX12_learn_67  K129 v1 v2 h129 f v3 m) h129 v3 m
def JX12_learn_158 (v1 : Int32) (v2 : Int32) (m : hM) : hR :=
  ald m 45 0 11 fun x16 =>
  if x16 ≤ 0 then (some (none, m)) else (ald m 50 0 37 fun x17 =>
  ald m 50 0 43 fun x18 =>
  ald m 45 0 11 fun x19 =>
  calV (JX12_vote 15 ((v1 * x17) - (x18 * v2)) x19 14 0 3 m) fun m20 =>
  some (none, m20))
set_option maxRecDepth 20000 in
theorem BX12_learn_158 (v1 : Int32) (v2 : Int32) (m : hM) : G mX12_learn 2 158 [(0, .inr (.inr (40, 0))), (1, .inl v1), (2, .inl v2)] [] m (JX12_learn_158 v1 v2 m) := by
  unfold JX12_learn_158
  refine g_aload_n 0 (kdX12_learn 97 rfl) rfl ?_
  refine g_get (v := .inr (.inr (45, 0))) (kdX12_learn 98 rfl) fX12_22 rfl ?_
  refine g_bipush (v := 11) (kdX12_learn 99 rfl) (by decide) ?_
  refine g_iald (kdX12_learn 100 rfl) (fun x16 => ?_)
  refine g_if_le (tgt := 204) (kdX12_learn 101 rfl) (by decide) (fun _ => ?_) (fun _ => ?_)
  · exact g_vret rfl (kdX12_learn 125 rfl)
  · refine g_aload_n 0 (kdX12_learn 102 rfl) rfl ?_
    refine g_bipush (v := 15) (kdX12_learn 103 rfl) (by decide) ?_
    refine g_iload_n 1 (kdX12_learn 104 rfl) rfl ?_
    refine g_aload_n 0 (kdX12_learn 105 rfl) rfl ?_
    refine g_get (v := .inr (.inr (50, 0))) (kdX12_learn 106 rfl) fX12_37 rfl ?_
    refine g_bipush (v := 37) (kdX12_learn 107 rfl) (by decide) ?_
    refine g_iald (kdX12_learn 108 rfl) (fun x17 => ?_)
    refine g_imul (kdX12_learn 109 rfl) ?_
    refine g_aload_n 0 (kdX12_learn 110 rfl) rfl ?_
    refine g_get (v := .inr (.inr (50, 0))) (kdX12_learn 111 rfl) fX12_37 rfl ?_
    refine g_bipush (v := 43) (kdX12_learn 112 rfl) (by decide) ?_
    refine g_iald (kdX12_learn 113 rfl) (fun x18 => ?_)
    refine g_iload_n 2 (kdX12_learn 114 rfl) rfl ?_
    refine g_imul (kdX12_learn 115 rfl) ?_
    refine g_isub (kdX12_learn 116 rfl) ?_
    refine g_aload_n 0 (kdX12_learn 117 rfl) rfl ?_
    refine g_get (v := .inr (.inr (45, 0))) (kdX12_learn 118 rfl) fX12_22 rfl ?_
    refine g_bipush (v := 11) (kdX12_learn 119 rfl) (by decide) ?_
    refine g_iald (kdX12_learn 120 rfl) (fun x19 => ?_)
    refine g_bipush (v := 14) (kdX12_learn 121 rfl) (by decide) ?_
    refine g_iconst (v := 0) (kdX12_learn 122 rfl) (by decide) ?_
    refine g_iconst (v := 3) (kdX12_learn 123 rfl) (by decide) ?_
    refine g_calV (ck_V (As := [.inl 15, .inl ((v1 * x17) - (x18 * v2)), .inl x19, .inl 14, .inl 0, .inl 3]) (S := []) (t := 40) (o := 0) (kdX12_learn 124 rfl) iX12_vote lX12_249 rc_40 rfl rfl rfl (by decide) (by simp only [List.map, vcat, List.sum_cons, List.sum_nil]; decide)) (CX12_vote 15 ((v1 * x17) - (x18 * v2)) x19 14 0 3 m) (fun m20 => ?_)
    exact g_vret rfl (kdX12_learn 125 rfl)
def JX12_learn (a1 : Int32) (a2 : Int32) (m : hM) : hR :=
  ald m 50 0 26 fun x1 =>
  ast m 50 0 26 (x1 + 1) fun m2 =>
  JX12_learn_13 (fun m8 => JX12_learn_67 (fun m14 => ald m14 45 0 10 fun x15 =>
  if x15 = 1 then (calV (JX12_vote 13 (a2 * a1) (m14.1 40 0 22) 12 1 99 m14) fun m21 =>
  JX12_learn_158 a1 a2 m21) else (JX12_learn_158 a1 a2 m14)) a1 a2 FU 0 m8) a1 a2 FU 0 m2
set_option maxRecDepth 20000 in
theorem CX12_learn (a1 : Int32) (a2 : Int32) (m : hM) : Cn mX12_learn 2 [.inr (.inr (40, 0)), .inl a1, .inl a2] m (JX12_learn a1 a2 m) := by
  refine cn_of (by decide +kernel) (by simp only [List.map, vcat, List.sum_cons, List.sum_nil]; decide) ?_
  unfold JX12_learn
  show G mX12_learn 2 0 [(0, .inr (.inr (40, 0))), (1, .inl a1), (2, .inl a2)] [] m _
  refine g_aload_n 0 (kdX12_learn 0 rfl) rfl ?_
  refine g_get (v := .inr (.inr (50, 0))) (kdX12_learn 1 rfl) fX12_37 rfl ?_
  refine g_bipush (v := 26) (kdX12_learn 2 rfl) (by decide) ?_
  refine g_dup2 (kdX12_learn 3 rfl) rfl rfl ?_
  refine g_iald (kdX12_learn 4 rfl) (fun x1 => ?_)
  refine g_iconst (v := 1) (kdX12_learn 5 rfl) (by decide) ?_
  refine g_iadd (kdX12_learn 6 rfl) ?_
  refine g_iast (kdX12_learn 7 rfl) (fun m2 => ?_)
  refine g_iconst (v := 0) (kdX12_learn 8 rfl) (by decide) ?_
  refine g_istore_n (L2 := [(3, .inl 0), (0, .inr (.inr (40, 0))), (1, .inl a1), (2, .inl a2)]) (kdX12_learn 9 rfl) rfl (by decide) ?_
  refine g_fgt [1, 2, 3, 0] rfl (BJX12_learn_13  _ a1 a2 ?_ FU 0 m2)
  · intro m8
    refine g_iconst (v := 0) (kdX12_learn 40 rfl) (by decide) ?_
    refine g_istore_n (L2 := [(3, .inl 0), (0, .inr (.inr (40, 0))), (1, .inl a1), (2, .inl a2)]) (kdX12_learn 41 rfl) rfl (by decide) ?_
    refine g_fgt [1, 2, 3, 0] rfl (BJX12_learn_67  _ a1 a2 ?_ FU 0 m8)
    · intro m14
      refine g_aload_n 0 (kdX12_learn 80 rfl) rfl ?_
      refine g_get (v := .inr (.inr (45, 0))) (kdX12_learn 81 rfl) fX12_22 rfl ?_
      refine g_bipush (v := 10) (kdX12_learn 82 rfl) (by decide) ?_
      refine g_iald (kdX12_learn 83 rfl) (fun x15 => ?_)
      refine g_iconst (v := 1) (kdX12_learn 84 rfl) (by decide) ?_
      refine g_icmp_ne (tgt := 158) (kdX12_learn 85 rfl) (by decide) (fun _ => ?_) (fun _ => ?_)
      · exact g_fgt [0, 1, 2] rfl (BX12_learn_158 a1 a2 m14)
      · refine g_aload_n 0 (kdX12_learn 86 rfl) rfl ?_
        refine g_bipush (v := 13) (kdX12_learn 87 rfl) (by decide) ?_
        refine g_iload_n 2 (kdX12_learn 88 rfl) rfl ?_
        refine g_iload_n 1 (kdX12_learn 89 rfl) rfl ?_
        refine g_imul (kdX12_learn 90 rfl) ?_
        refine g_aload_n 0 (kdX12_learn 91 rfl) rfl ?_
        refine g_get (v := .inl (m14.1 40 0 22)) (kdX12_learn 92 rfl) fX12_47 rfl ?_
        refine g_bipush (v := 12) (kdX12_learn 93 rfl) (by decide) ?_
        refine g_iconst (v := 1) (kdX12_learn 94 rfl) (by decide) ?_
        refine g_bipush (v := 99) (kdX12_learn 95 rfl) (by decide) ?_
        refine g_calV (ck_V (As := [.inl 13, .inl (a2 * a1), .inl (m14.1 40 0 22), .inl 12, .inl 1, .inl 99]) (S := []) (t := 40) (o := 0) (kdX12_learn 96 rfl) iX12_vote lX12_249 rc_40 rfl rfl rfl (by decide) (by simp only [List.map, vcat, List.sum_cons, List.sum_nil]; decide)) (CX12_vote 13 (a2 * a1) (m14.1 40 0 22) 12 1 99 m14) (fun m21 => ?_)
        exact g_fgt [0, 1, 2] rfl (BX12_learn_158 a1 a2 m21)
def JX12_runOn (a1 : Int32) (m : hM) : hR :=
  if a1 = 0 then (ald m 50 0 29 fun x1 =>
  if x1 ≤ 0 then (some (none, m)) else (ald m 50 0 29 fun x2 =>
  ast m 50 0 29 (x2 + 1) fun m3 =>
  ald m3 50 0 30 fun x4 =>
  ast m3 50 0 30 (x4 + 1) fun m5 =>
  ald m5 50 0 30 fun x6 =>
  ald m5 45 0 2 fun x7 =>
  calI (JJ9_max_7cf53 1 x7 m5) fun x9 m8 =>
  if x6 = x9 then (ald m8 50 0 27 fun x10 =>
  ast m8 50 0 27 (x10 + 1) fun m11 =>
  ald m11 50 0 28 fun x12 =>
  ald m11 50 0 29 fun x13 =>
  ald m11 50 0 30 fun x14 =>
  calI (JJ9_max_7cf53 x12 (x13 - x14) m11) fun x16 m15 =>
  ast m15 50 0 28 x16 fun m17 =>
  ast m17 50 0 29 0 fun m18 =>
  ast m18 50 0 30 0 fun m19 =>
  some (none, m19)) else (some (none, m8)))) else (ald m 50 0 25 fun x20 =>
  ast m 50 0 25 (x20 + 1) fun m21 =>
  ald m21 50 0 29 fun x22 =>
  ast m21 50 0 29 (x22 + 1) fun m23 =>
  ast m23 50 0 30 0 fun m24 =>
  some (none, m24))
set_option maxRecDepth 20000 in
theorem CX12_runOn (a1 : Int32) (m : hM) : Cn mX12_runOn 1 [.inr (.inr (40, 0)), .inl a1] m (JX12_runOn a1 m) := by
  refine cn_of (by decide +kernel) (by simp only [List.map, vcat, List.sum_cons, List.sum_nil]; decide) ?_
  unfold JX12_runOn
  show G mX12_runOn 1 0 [(0, .inr (.inr (40, 0))), (1, .inl a1)] [] m _
  refine g_iload_n 1 (kdX12_runOn 0 rfl) rfl ?_
  refine g_if_eq (tgt := 37) (kdX12_runOn 1 rfl) (by decide) (fun _ => ?_) (fun _ => ?_)
  · refine g_aload_n 0 (kdX12_runOn 24 rfl) rfl ?_
    refine g_get (v := .inr (.inr (50, 0))) (kdX12_runOn 25 rfl) fX12_37 rfl ?_
    refine g_bipush (v := 29) (kdX12_runOn 26 rfl) (by decide) ?_
    refine g_iald (kdX12_runOn 27 rfl) (fun x1 => ?_)
    refine g_if_le (tgt := 148) (kdX12_runOn 28 rfl) (by decide) (fun _ => ?_) (fun _ => ?_)
    · exact g_vret rfl (kdX12_runOn 92 rfl)
    · refine g_aload_n 0 (kdX12_runOn 29 rfl) rfl ?_
      refine g_get (v := .inr (.inr (50, 0))) (kdX12_runOn 30 rfl) fX12_37 rfl ?_
      refine g_bipush (v := 29) (kdX12_runOn 31 rfl) (by decide) ?_
      refine g_dup2 (kdX12_runOn 32 rfl) rfl rfl ?_
      refine g_iald (kdX12_runOn 33 rfl) (fun x2 => ?_)
      refine g_iconst (v := 1) (kdX12_runOn 34 rfl) (by decide) ?_
      refine g_iadd (kdX12_runOn 35 rfl) ?_
      refine g_iast (kdX12_runOn 36 rfl) (fun m3 => ?_)
      refine g_aload_n 0 (kdX12_runOn 37 rfl) rfl ?_
      refine g_get (v := .inr (.inr (50, 0))) (kdX12_runOn 38 rfl) fX12_37 rfl ?_
      refine g_bipush (v := 30) (kdX12_runOn 39 rfl) (by decide) ?_
      refine g_dup2 (kdX12_runOn 40 rfl) rfl rfl ?_
      refine g_iald (kdX12_runOn 41 rfl) (fun x4 => ?_)
      refine g_iconst (v := 1) (kdX12_runOn 42 rfl) (by decide) ?_
      refine g_iadd (kdX12_runOn 43 rfl) ?_
      refine g_iast (kdX12_runOn 44 rfl) (fun m5 => ?_)
      refine g_aload_n 0 (kdX12_runOn 45 rfl) rfl ?_
      refine g_get (v := .inr (.inr (50, 0))) (kdX12_runOn 46 rfl) fX12_37 rfl ?_
      refine g_bipush (v := 30) (kdX12_runOn 47 rfl) (by decide) ?_
      refine g_iald (kdX12_runOn 48 rfl) (fun x6 => ?_)
      refine g_iconst (v := 1) (kdX12_runOn 49 rfl) (by decide) ?_
      refine g_aload_n 0 (kdX12_runOn 50 rfl) rfl ?_
      refine g_get (v := .inr (.inr (45, 0))) (kdX12_runOn 51 rfl) fX12_22 rfl ?_
      refine g_iconst (v := 2) (kdX12_runOn 52 rfl) (by decide) ?_
      refine g_iald (kdX12_runOn 53 rfl) (fun x7 => ?_)
      refine g_calI (ck_S (As := [.inl 1, .inl x7]) (S := [.inl x6]) (kdX12_runOn 54 rfl) iJ9_max_7cf53 lX12_253 rfl rfl rfl (by decide) (by simp only [List.map, vcat, List.sum_cons, List.sum_nil]; decide)) (CJ9_max_7cf53 1 x7 m5) (fun x9 m8 => ?_)
      refine g_icmp_ne (tgt := 148) (kdX12_runOn 55 rfl) (by decide) (fun _ => ?_) (fun _ => ?_)
      · exact g_vret rfl (kdX12_runOn 92 rfl)
      · refine g_aload_n 0 (kdX12_runOn 56 rfl) rfl ?_
        refine g_get (v := .inr (.inr (50, 0))) (kdX12_runOn 57 rfl) fX12_37 rfl ?_
        refine g_bipush (v := 27) (kdX12_runOn 58 rfl) (by decide) ?_
        refine g_dup2 (kdX12_runOn 59 rfl) rfl rfl ?_
        refine g_iald (kdX12_runOn 60 rfl) (fun x10 => ?_)
        refine g_iconst (v := 1) (kdX12_runOn 61 rfl) (by decide) ?_
        refine g_iadd (kdX12_runOn 62 rfl) ?_
        refine g_iast (kdX12_runOn 63 rfl) (fun m11 => ?_)
        refine g_aload_n 0 (kdX12_runOn 64 rfl) rfl ?_
        refine g_get (v := .inr (.inr (50, 0))) (kdX12_runOn 65 rfl) fX12_37 rfl ?_
        refine g_bipush (v := 28) (kdX12_runOn 66 rfl) (by decide) ?_
        refine g_aload_n 0 (kdX12_runOn 67 rfl) rfl ?_
        refine g_get (v := .inr (.inr (50, 0))) (kdX12_runOn 68 rfl) fX12_37 rfl ?_
        refine g_bipush (v := 28) (kdX12_runOn 69 rfl) (by decide) ?_
        refine g_iald (kdX12_runOn 70 rfl) (fun x12 => ?_)
        refine g_aload_n 0 (kdX12_runOn 71 rfl) rfl ?_
        refine g_get (v := .inr (.inr (50, 0))) (kdX12_runOn 72 rfl) fX12_37 rfl ?_
        refine g_bipush (v := 29) (kdX12_runOn 73 rfl) (by decide) ?_
        refine g_iald (kdX12_runOn 74 rfl) (fun x13 => ?_)
        refine g_aload_n 0 (kdX12_runOn 75 rfl) rfl ?_
        refine g_get (v := .inr (.inr (50, 0))) (kdX12_runOn 76 rfl) fX12_37 rfl ?_
        refine g_bipush (v := 30) (kdX12_runOn 77 rfl) (by decide) ?_
        refine g_iald (kdX12_runOn 78 rfl) (fun x14 => ?_)
        refine g_isub (kdX12_runOn 79 rfl) ?_
        refine g_calI (ck_S (As := [.inl x12, .inl (x13 - x14)]) (S := [.inl 28, .inr (.inr (50, 0))]) (kdX12_runOn 80 rfl) iJ9_max_7cf53 lX12_253 rfl rfl rfl (by decide) (by simp only [List.map, vcat, List.sum_cons, List.sum_nil]; decide)) (CJ9_max_7cf53 x12 (x13 - x14) m11) (fun x16 m15 => ?_)
        refine g_iast (kdX12_runOn 81 rfl) (fun m17 => ?_)
        refine g_aload_n 0 (kdX12_runOn 82 rfl) rfl ?_
        refine g_get (v := .inr (.inr (50, 0))) (kdX12_runOn 83 rfl) fX12_37 rfl ?_
        refine g_bipush (v := 29) (kdX12_runOn 84 rfl) (by decide) ?_
        refine g_iconst (v := 0) (kdX12_runOn 85 rfl) (by decide) ?_
        refine g_iast (kdX12_runOn 86 rfl) (fun m18 => ?_)
        refine g_aload_n 0 (kdX12_runOn 87 rfl) rfl ?_
        refine g_get (v := .inr (.inr (50, 0))) (kdX12_runOn 88 rfl) fX12_37 rfl ?_
        refine g_bipush (v := 30) (kdX12_runOn 89 rfl) (by decide) ?_
        refine g_iconst (v := 0) (kdX12_runOn 90 rfl) (by decide) ?_
        refine g_iast (kdX12_runOn 91 rfl) (fun m19 => ?_)
        exact g_vret rfl (kdX12_runOn 92 rfl)
  · refine g_aload_n 0 (kdX12_runOn 2 rfl) rfl ?_
    refine g_get (v := .inr (.inr (50, 0))) (kdX12_runOn 3 rfl) fX12_37 rfl ?_
    refine g_bipush (v := 25) (kdX12_runOn 4 rfl) (by decide) ?_
    refine g_dup2 (kdX12_runOn 5 rfl) rfl rfl ?_
    refine g_iald (kdX12_runOn 6 rfl) (fun x20 => ?_)
    refine g_iconst (v := 1) (kdX12_runOn 7 rfl) (by decide) ?_
    refine g_iadd (kdX12_runOn 8 rfl) ?_
    refine g_iast (kdX12_runOn 9 rfl) (fun m21 => ?_)
    refine g_aload_n 0 (kdX12_runOn 10 rfl) rfl ?_
    refine g_get (v := .inr (.inr (50, 0))) (kdX12_runOn 11 rfl) fX12_37 rfl ?_
    refine g_bipush (v := 29) (kdX12_runOn 12 rfl) (by decide) ?_
    refine g_dup2 (kdX12_runOn 13 rfl) rfl rfl ?_
    refine g_iald (kdX12_runOn 14 rfl) (fun x22 => ?_)
    refine g_iconst (v := 1) (kdX12_runOn 15 rfl) (by decide) ?_
    refine g_iadd (kdX12_runOn 16 rfl) ?_
    refine g_iast (kdX12_runOn 17 rfl) (fun m23 => ?_)
    refine g_aload_n 0 (kdX12_runOn 18 rfl) rfl ?_
    refine g_get (v := .inr (.inr (50, 0))) (kdX12_runOn 19 rfl) fX12_37 rfl ?_
    refine g_bipush (v := 30) (kdX12_runOn 20 rfl) (by decide) ?_
    refine g_iconst (v := 0) (kdX12_runOn 21 rfl) (by decide) ?_
    refine g_iast (kdX12_runOn 22 rfl) (fun m24 => ?_)
    refine g_goto (tgt := 148) (kdX12_runOn 23 rfl) (by decide) ?_
    exact g_vret rfl (kdX12_runOn 92 rfl)
def JX12_note_66 (v1 : Int32) (v2 : Int32) (m : hM) : hR :=
  ald m 50 0 51 fun x2 =>
  lt (52 + (3 * x2)) fun x3 =>
  ast m 50 0 x3 v1 fun m4 =>
  ald m4 50 0 44 fun x5 =>
  ast m4 50 0 (x3 + 1) x5 fun m6 =>
  ast m6 50 0 (x3 + 2) v2 fun m7 =>
  ald m7 50 0 51 fun x8 =>
  ast m7 50 0 51 (x8 + 1) fun m9 =>
  some (none, m9)
set_option maxRecDepth 20000 in
theorem BX12_note_66 (v1 : Int32) (v2 : Int32) (m : hM) : G mX12_note 0 66 [(0, .inr (.inr (40, 0))), (1, .inl v1), (2, .inl v2)] [] m (JX12_note_66 v1 v2 m) := by
  unfold JX12_note_66
  refine g_bipush (v := 52) (kdX12_note 39 rfl) (by decide) ?_
  refine g_iconst (v := 3) (kdX12_note 40 rfl) (by decide) ?_
  refine g_aload_n 0 (kdX12_note 41 rfl) rfl ?_
  refine g_get (v := .inr (.inr (50, 0))) (kdX12_note 42 rfl) fX12_37 rfl ?_
  refine g_bipush (v := 51) (kdX12_note 43 rfl) (by decide) ?_
  refine g_iald (kdX12_note 44 rfl) (fun x2 => ?_)
  refine g_imul (kdX12_note 45 rfl) ?_
  refine g_iadd (kdX12_note 46 rfl) ?_
  refine g_lt (fun x3 => ?_)
  refine g_istore_n (L2 := [(3, .inl x3), (0, .inr (.inr (40, 0))), (1, .inl v1), (2, .inl v2)]) (kdX12_note 47 rfl) rfl (by decide) ?_
  refine g_aload_n 1 (kdX12_note 48 rfl) rfl ?_
  refine g_get (v := .inr (.inr (50, 0))) (kdX12_note 49 rfl) fX12_37 rfl ?_
  refine g_iload_n 0 (kdX12_note 50 rfl) rfl ?_
  refine g_iload_n 2 (kdX12_note 51 rfl) rfl ?_
  refine g_iast (kdX12_note 52 rfl) (fun m4 => ?_)
  refine g_aload_n 1 (kdX12_note 53 rfl) rfl ?_
  refine g_get (v := .inr (.inr (50, 0))) (kdX12_note 54 rfl) fX12_37 rfl ?_
  refine g_iload_n 0 (kdX12_note 55 rfl) rfl ?_
  refine g_iconst (v := 1) (kdX12_note 56 rfl) (by decide) ?_
  refine g_iadd (kdX12_note 57 rfl) ?_
  refine g_aload_n 1 (kdX12_note 58 rfl) rfl ?_
  refine g_get (v := .inr (.inr (50, 0))) (kdX12_note 59 rfl) fX12_37 rfl ?_
  refine g_bipush (v := 44) (kdX12_note 60 rfl) (by decide) ?_
  refine g_iald (kdX12_note 61 rfl) (fun x5 => ?_)
  refine g_iast (kdX12_note 62 rfl) (fun m6 => ?_)
  refine g_aload_n 1 (kdX12_note 63 rfl) rfl ?_
  refine g_get (v := .inr (.inr (50, 0))) (kdX12_note 64 rfl) fX12_37 rfl ?_
  refine g_iload_n 0 (kdX12_note 65 rfl) rfl ?_
  refine g_iconst (v := 2) (kdX12_note 66 rfl) (by decide) ?_
  refine g_iadd (kdX12_note 67 rfl) ?_
  refine g_iload_n 3 (kdX12_note 68 rfl) rfl ?_
  refine g_iast (kdX12_note 69 rfl) (fun m7 => ?_)
  refine g_aload_n 1 (kdX12_note 70 rfl) rfl ?_
  refine g_get (v := .inr (.inr (50, 0))) (kdX12_note 71 rfl) fX12_37 rfl ?_
  refine g_bipush (v := 51) (kdX12_note 72 rfl) (by decide) ?_
  refine g_dup2 (kdX12_note 73 rfl) rfl rfl ?_
  refine g_iald (kdX12_note 74 rfl) (fun x8 => ?_)
  refine g_iconst (v := 1) (kdX12_note 75 rfl) (by decide) ?_
  refine g_iadd (kdX12_note 76 rfl) ?_
  refine g_iast (kdX12_note 77 rfl) (fun m9 => ?_)
  exact g_vret rfl (kdX12_note 78 rfl)
def bJX12_note_22 (K22 : Int32 → hM → hR) (K55 : hM → hR) (v1 : Int32) (v2 : Int32) (v3 : Int32) (m : hM) : hR :=
  if 180 ≤ v3 then (K55 m) else (ald m 50 0 (52 + v3) fun x10 =>
  ast m 50 0 ((52 + v3) - 3) x10 fun m11 =>
  K22 (v3 + 1) m11)
set_option maxRecDepth 20000 in
theorem BbJX12_note_22 (K22 : Int32 → hM → hR) (K55 : hM → hR) (v1 : Int32) (v2 : Int32) (h22 : ∀ (v3 : Int32) (m : hM), G mX12_note 0 22 [(0, .inr (.inr (40, 0))), (1, .inl v1), (2, .inl v2), (3, .inl v3)] [] m (K22 v3 m)) (h55 : ∀ (m : hM), G mX12_note 0 55 [(0, .inr (.inr (40, 0))), (1, .inl v1), (2, .inl v2)] [] m (K55 m)) (v3 : Int32) (m : hM) : G mX12_note 0 22 [(0, .inr (.inr (40, 0))), (1, .inl v1), (2, .inl v2), (3, .inl v3)] [] m (bJX12_note_22 K22 K55 v1 v2 v3 m) := by
  unfold bJX12_note_22
  refine g_iload_n 3 (kdX12_note 12 rfl) rfl ?_
  refine g_sipush (v := 180) (kdX12_note 13 rfl) (by decide) ?_
  refine g_icmp_ge (tgt := 55) (kdX12_note 14 rfl) (by decide) (fun _ => ?_) (fun _ => ?_)
  · exact g_fgt [0, 1, 2] rfl (h55 m)
  · refine g_aload_n 0 (kdX12_note 15 rfl) rfl ?_
    refine g_get (v := .inr (.inr (50, 0))) (kdX12_note 16 rfl) fX12_37 rfl ?_
    refine g_bipush (v := 52) (kdX12_note 17 rfl) (by decide) ?_
    refine g_iload_n 3 (kdX12_note 18 rfl) rfl ?_
    refine g_iadd (kdX12_note 19 rfl) ?_
    refine g_iconst (v := 3) (kdX12_note 20 rfl) (by decide) ?_
    refine g_isub (kdX12_note 21 rfl) ?_
    refine g_aload_n 0 (kdX12_note 22 rfl) rfl ?_
    refine g_get (v := .inr (.inr (50, 0))) (kdX12_note 23 rfl) fX12_37 rfl ?_
    refine g_bipush (v := 52) (kdX12_note 24 rfl) (by decide) ?_
    refine g_iload_n 3 (kdX12_note 25 rfl) rfl ?_
    refine g_iadd (kdX12_note 26 rfl) ?_
    refine g_iald (kdX12_note 27 rfl) (fun x10 => ?_)
    refine g_iast (kdX12_note 28 rfl) (fun m11 => ?_)
    refine g_iinc (v := v3 + 1) (L2 := [(3, .inl (v3 + 1)), (0, .inr (.inr (40, 0))), (1, .inl v1), (2, .inl v2)]) 3 (kdX12_note 29 rfl) rfl rfl rfl (by decide) ?_
    refine g_goto (tgt := 22) (kdX12_note 30 rfl) (by decide) ?_
    exact g_fgt [1, 2, 3, 0] rfl (h22 (v3 + 1) m11)
def JX12_note_22 (K55 : hM → hR) (v1 : Int32) (v2 : Int32) : Nat → Int32 → hM → hR
  | 0, _, _ => none
  | f + 1, v3, m => bJX12_note_22 (fun v3 m => JX12_note_22 K55 v1 v2 f v3 m) K55 v1 v2 v3 m
theorem BJX12_note_22 (K55 : hM → hR) (v1 : Int32) (v2 : Int32) (h55 : ∀ (m : hM), G mX12_note 0 55 [(0, .inr (.inr (40, 0))), (1, .inl v1), (2, .inl v2)] [] m (K55 m)) : ∀ (f : Nat) (v3 : Int32) (m : hM), G mX12_note 0 22 [(0, .inr (.inr (40, 0))), (1, .inl v1), (2, .inl v2), (3, .inl v3)] [] m (JX12_note_22 K55 v1 v2 f v3 m)
  | 0, _, _ => g_none
  | f + 1, v3, m => BbJX12_note_22  _ K55 v1 v2 (fun v3 m => BJX12_note_22  K55 v1 v2 h55 f v3 m) h55 v3 m
def JX12_note (a1 : Int32) (a2 : Int32) (m : hM) : hR :=
  if (m.1 40 0 24) = 0 then (ald m 50 0 51 fun x1 =>
  if x1 = 60 then (JX12_note_22 (fun m12 => ald m12 50 0 51 fun x13 =>
  ast m12 50 0 51 (x13 - 1) fun m14 =>
  JX12_note_66 a1 a2 m14) a1 a2 FU 3 m) else (JX12_note_66 a1 a2 m)) else (some (none, m))
set_option maxRecDepth 20000 in
theorem CX12_note (a1 : Int32) (a2 : Int32) (m : hM) : Cn mX12_note 0 [.inr (.inr (40, 0)), .inl a1, .inl a2] m (JX12_note a1 a2 m) := by
  refine cn_of (by decide +kernel) (by simp only [List.map, vcat, List.sum_cons, List.sum_nil]; decide) ?_
  unfold JX12_note
  show G mX12_note 0 0 [(0, .inr (.inr (40, 0))), (1, .inl a1), (2, .inl a2)] [] m _
  refine g_aload_n 0 (kdX12_note 0 rfl) rfl ?_
  refine g_get (v := .inl (m.1 40 0 24)) (kdX12_note 1 rfl) fX12_256 rfl ?_
  refine g_if_eq (tgt := 8) (kdX12_note 2 rfl) (by decide) (fun _ => ?_) (fun _ => ?_)
  · refine g_aload_n 0 (kdX12_note 4 rfl) rfl ?_
    refine g_get (v := .inr (.inr (50, 0))) (kdX12_note 5 rfl) fX12_37 rfl ?_
    refine g_bipush (v := 51) (kdX12_note 6 rfl) (by decide) ?_
    refine g_iald (kdX12_note 7 rfl) (fun x1 => ?_)
    refine g_bipush (v := 60) (kdX12_note 8 rfl) (by decide) ?_
    refine g_icmp_ne (tgt := 66) (kdX12_note 9 rfl) (by decide) (fun _ => ?_) (fun _ => ?_)
    · exact g_fgt [0, 1, 2] rfl (BX12_note_66 a1 a2 m)
    · refine g_iconst (v := 3) (kdX12_note 10 rfl) (by decide) ?_
      refine g_istore_n (L2 := [(3, .inl 3), (0, .inr (.inr (40, 0))), (1, .inl a1), (2, .inl a2)]) (kdX12_note 11 rfl) rfl (by decide) ?_
      refine g_fgt [1, 2, 3, 0] rfl (BJX12_note_22  _ a1 a2 ?_ FU 3 m)
      · intro m12
        refine g_aload_n 0 (kdX12_note 31 rfl) rfl ?_
        refine g_get (v := .inr (.inr (50, 0))) (kdX12_note 32 rfl) fX12_37 rfl ?_
        refine g_bipush (v := 51) (kdX12_note 33 rfl) (by decide) ?_
        refine g_dup2 (kdX12_note 34 rfl) rfl rfl ?_
        refine g_iald (kdX12_note 35 rfl) (fun x13 => ?_)
        refine g_iconst (v := 1) (kdX12_note 36 rfl) (by decide) ?_
        refine g_isub (kdX12_note 37 rfl) ?_
        refine g_iast (kdX12_note 38 rfl) (fun m14 => ?_)
        exact g_fgt [0, 1, 2] rfl (BX12_note_66 a1 a2 m14)
  · exact g_vret rfl (kdX12_note 3 rfl)
