abbrev mX8_forget : hMt := (yX8_forget, cX8_forget, 2, none)
def tX8_forget : hTb := [(0, .iconst 0, 1, 1), (1, .istore_n 1, 1, 2), (2, .iload_n 1, 1, 3), (3, .aload_n 0, 1, 4), (4, .arraylength, 1, 5), (5, .if_icmp .ge 13, 3, 8), (8, .aload_n 0, 1, 9), (9, .iload_n 1, 1, 10), (10, .iconst 0, 1, 11), (11, .iastore, 1, 12), (12, .iinc 1 1, 3, 15), (15, .goto (-13), 3, 18), (18, .return_, 1, 19)]
theorem ktX8_forget : TbOK mX8_forget tX8_forget := by
  unfold TbOK
  decide +kernel
theorem kdX8_forget (k : Nat) {pc : Nat} {i : Instr} {len nx : Nat} (hk : tX8_forget[k]? = some (pc, i, len, nx)) : Dc mX8_forget pc i len nx := dc_of ktX8_forget k hk
theorem iX8_forget : MiS mX8_forget := ⟨⟨gdw_of (i := 723) (by decide +kernel) (by decide +kernel), gdw_of (i := 117) (by decide +kernel) (by decide +kernel), by decide, by decide, by decide⟩, gdw_of (i := 722) (by decide +kernel) (by decide +kernel)⟩
abbrev mX8_begin : hMt := (yX8_begin, cX8_begin, 3, none)
def tX8_begin : hTb := [(0, .iconst 0, 1, 1), (1, .istore_n 2, 1, 2), (2, .iload_n 2, 1, 3), (3, .bipush 6, 2, 5), (5, .if_icmp .ge 32, 3, 8), (8, .aload_n 0, 1, 9), (9, .getfield 9, 3, 12), (12, .iload_n 2, 1, 13), (13, .iload_n 2, 1, 14), (14, .ifCond .ne 8, 3, 17), (17, .bipush 64, 2, 19), (19, .goto 4, 3, 22), (22, .iconst 0, 1, 23), (23, .iastore, 1, 24), (24, .aload_n 0, 1, 25), (25, .getfield 15, 3, 28), (28, .iload_n 2, 1, 29), (29, .iconst 0, 1, 30), (30, .iastore, 1, 31), (31, .iinc 2 1, 3, 34), (34, .goto (-32), 3, 37), (37, .aload_n 0, 1, 38), (38, .getfield 18, 3, 41), (41, .invokestatic 34, 3, 44), (44, .aload_n 0, 1, 45), (45, .getfield 21, 3, 48), (48, .invokestatic 34, 3, 51), (51, .aload_n 0, 1, 52), (52, .getfield 24, 3, 55), (55, .invokestatic 34, 3, 58), (58, .aload_n 0, 1, 59), (59, .getfield 30, 3, 62), (62, .invokevirtual 38, 3, 65), (65, .aload_n 0, 1, 66), (66, .iconst 0, 1, 67), (67, .putfield 41, 3, 70), (70, .aload_n 0, 1, 71), (71, .iconst 0, 1, 72), (72, .putfield 45, 3, 75), (75, .aload_n 0, 1, 76), (76, .iconst 0, 1, 77), (77, .putfield 48, 3, 80), (80, .aload_n 0, 1, 81), (81, .aload_n 1, 1, 82), (82, .iconst 4, 1, 83), (83, .invokevirtual 51, 3, 86), (86, .putfield 57, 3, 89), (89, .aload_n 0, 1, 90), (90, .iconst 0, 1, 91), (91, .putfield 60, 3, 94), (94, .aload_n 0, 1, 95), (95, .aload_n 1, 1, 96), (96, .iconst 5, 1, 97), (97, .invokevirtual 51, 3, 100), (100, .putfield 63, 3, 103), (103, .aload_n 0, 1, 104), (104, .aload_n 1, 1, 105), (105, .bipush 7, 2, 107), (107, .invokevirtual 51, 3, 110), (110, .putfield 66, 3, 113), (113, .aload_n 0, 1, 114), (114, .aload_n 1, 1, 115), (115, .bipush 8, 2, 117), (117, .invokevirtual 51, 3, 120), (120, .putfield 69, 3, 123), (123, .aload_n 0, 1, 124), (124, .aload_n 1, 1, 125), (125, .bipush 9, 2, 127), (127, .invokevirtual 51, 3, 130), (130, .putfield 72, 3, 133), (133, .aload_n 0, 1, 134), (134, .iconst 0, 1, 135), (135, .putfield 75, 3, 138), (138, .aload_n 0, 1, 139), (139, .iconst 0, 1, 140), (140, .putfield 79, 3, 143), (143, .aload_n 0, 1, 144), (144, .lconst 0, 1, 145), (145, .putfield 82, 3, 148), (148, .return_, 1, 149)]
theorem ktX8_begin : TbOK mX8_begin tX8_begin := by
  unfold TbOK
  decide +kernel
theorem kdX8_begin (k : Nat) {pc : Nat} {i : Instr} {len nx : Nat} (hk : tX8_begin[k]? = some (pc, i, len, nx)) : Dc mX8_begin pc i len nx := dc_of ktX8_begin k hk
theorem iX8_begin : MiV mX8_begin := ⟨⟨gdw_of (i := 720) (by decide +kernel) (by decide +kernel), gdw_of (i := 117) (by decide +kernel) (by decide +kernel), by decide, by decide, by decide⟩, gdw_of (i := 718) (by decide +kernel) (by decide +kernel), gdw_of (i := 719) (by decide +kernel) (by decide +kernel)⟩
abbrev mX8_copy : hMt := (yX8_copy, cX8_copy, 2, none)
def tX8_copy : hTb := [(0, .aload_n 1, 1, 1), (1, .getfield 9, 3, 4), (4, .iconst 0, 1, 5), (5, .aload_n 0, 1, 6), (6, .getfield 9, 3, 9), (9, .iconst 0, 1, 10), (10, .bipush 6, 2, 12), (12, .invokestatic 86, 3, 15), (15, .aload_n 1, 1, 16), (16, .getfield 15, 3, 19), (19, .iconst 0, 1, 20), (20, .aload_n 0, 1, 21), (21, .getfield 15, 3, 24), (24, .iconst 0, 1, 25), (25, .bipush 6, 2, 27), (27, .invokestatic 86, 3, 30), (30, .aload_n 1, 1, 31), (31, .getfield 18, 3, 34), (34, .iconst 0, 1, 35), (35, .aload_n 0, 1, 36), (36, .getfield 18, 3, 39), (39, .iconst 0, 1, 40), (40, .bipush 6, 2, 42), (42, .invokestatic 86, 3, 45), (45, .aload_n 1, 1, 46), (46, .getfield 21, 3, 49), (49, .iconst 0, 1, 50), (50, .aload_n 0, 1, 51), (51, .getfield 21, 3, 54), (54, .iconst 0, 1, 55), (55, .iconst 3, 1, 56), (56, .invokestatic 86, 3, 59), (59, .aload_n 1, 1, 60), (60, .getfield 24, 3, 63), (63, .iconst 0, 1, 64), (64, .aload_n 0, 1, 65), (65, .getfield 24, 3, 68), (68, .iconst 0, 1, 69), (69, .iconst 3, 1, 70), (70, .invokestatic 86, 3, 73), (73, .aload_n 0, 1, 74), (74, .getfield 30, 3, 77), (77, .aload_n 1, 1, 78), (78, .getfield 30, 3, 81), (81, .invokevirtual 92, 3, 84), (84, .aload_n 0, 1, 85), (85, .aload_n 1, 1, 86), (86, .getfield 41, 3, 89), (89, .putfield 41, 3, 92), (92, .aload_n 0, 1, 93), (93, .aload_n 1, 1, 94), (94, .getfield 45, 3, 97), (97, .putfield 45, 3, 100), (100, .aload_n 0, 1, 101), (101, .aload_n 1, 1, 102), (102, .getfield 48, 3, 105), (105, .putfield 48, 3, 108), (108, .aload_n 0, 1, 109), (109, .aload_n 1, 1, 110), (110, .getfield 57, 3, 113), (113, .putfield 57, 3, 116), (116, .aload_n 0, 1, 117), (117, .aload_n 1, 1, 118), (118, .getfield 60, 3, 121), (121, .putfield 60, 3, 124), (124, .aload_n 0, 1, 125), (125, .aload_n 1, 1, 126), (126, .getfield 63, 3, 129), (129, .putfield 63, 3, 132), (132, .aload_n 0, 1, 133), (133, .aload_n 1, 1, 134), (134, .getfield 66, 3, 137), (137, .putfield 66, 3, 140), (140, .aload_n 0, 1, 141), (141, .aload_n 1, 1, 142), (142, .getfield 69, 3, 145), (145, .putfield 69, 3, 148), (148, .aload_n 0, 1, 149), (149, .aload_n 1, 1, 150), (150, .getfield 72, 3, 153), (153, .putfield 72, 3, 156), (156, .aload_n 0, 1, 157), (157, .aload_n 1, 1, 158), (158, .getfield 75, 3, 161), (161, .putfield 75, 3, 164), (164, .aload_n 0, 1, 165), (165, .aload_n 1, 1, 166), (166, .getfield 79, 3, 169), (169, .putfield 79, 3, 172), (172, .aload_n 0, 1, 173), (173, .aload_n 1, 1, 174), (174, .getfield 82, 3, 177), (177, .putfield 82, 3, 180), (180, .return_, 1, 181)]
theorem ktX8_copy : TbOK mX8_copy tX8_copy := by
  unfold TbOK
  decide +kernel
theorem kdX8_copy (k : Nat) {pc : Nat} {i : Instr} {len nx : Nat} (hk : tX8_copy[k]? = some (pc, i, len, nx)) : Dc mX8_copy pc i len nx := dc_of ktX8_copy k hk
theorem iX8_copy : MiV mX8_copy := ⟨⟨gdw_of (i := 914) (by decide +kernel) (by decide +kernel), gdw_of (i := 117) (by decide +kernel) (by decide +kernel), by decide, by decide, by decide⟩, gdw_of (i := 912) (by decide +kernel) (by decide +kernel), gdw_of (i := 913) (by decide +kernel) (by decide +kernel)⟩
abbrev mX8_fact : hMt := (yX8_fact, cX8_fact, 2, some .int)
def tX8_fact : hTb := [(0, .iload_n 1, 1, 1), (1, .tableswitch 237 0 18 #[91, 96, 101, 114, 130, 135, 140, 145, 158, 166, 174, 182, 190, 198, 206, 214, 222, 227, 232], 91, 92), (92, .aload_n 0, 1, 93), (93, .getfield 41, 3, 96), (96, .ireturn, 1, 97), (97, .aload_n 0, 1, 98), (98, .getfield 45, 3, 101), (101, .ireturn, 1, 102), (102, .aload_n 0, 1, 103), (103, .getfield 75, 3, 106), (106, .ifCond .eq 7, 3, 109), (109, .iconst 1, 1, 110), (110, .goto 4, 3, 113), (113, .iconst 0, 1, 114), (114, .ireturn, 1, 115), (115, .aload_n 0, 1, 116), (116, .getfield 30, 3, 119), (119, .getfield 96, 3, 122), (122, .ifCond .eq 7, 3, 125), (125, .iconst 1, 1, 126), (126, .goto 4, 3, 129), (129, .iconst 0, 1, 130), (130, .ireturn, 1, 131), (131, .aload_n 0, 1, 132), (132, .getfield 66, 3, 135), (135, .ireturn, 1, 136), (136, .aload_n 0, 1, 137), (137, .getfield 69, 3, 140), (140, .ireturn, 1, 141), (141, .aload_n 0, 1, 142), (142, .getfield 72, 3, 145), (145, .ireturn, 1, 146), (146, .aload_n 0, 1, 147), (147, .getfield 79, 3, 150), (150, .ifCond .eq 7, 3, 153), (153, .iconst 1, 1, 154), (154, .goto 4, 3, 157), (157, .iconst 0, 1, 158), (158, .ireturn, 1, 159), (159, .aload_n 0, 1, 160), (160, .getfield 30, 3, 163), (163, .getfield 99, 3, 166), (166, .ireturn, 1, 167), (167, .aload_n 0, 1, 168), (168, .getfield 30, 3, 171), (171, .getfield 102, 3, 174), (174, .ireturn, 1, 175), (175, .aload_n 0, 1, 176), (176, .getfield 30, 3, 179), (179, .getfield 105, 3, 182), (182, .ireturn, 1, 183), (183, .aload_n 0, 1, 184), (184, .getfield 30, 3, 187), (187, .getfield 108, 3, 190), (190, .ireturn, 1, 191), (191, .aload_n 0, 1, 192), (192, .getfield 30, 3, 195), (195, .getfield 111, 3, 198), (198, .ireturn, 1, 199), (199, .aload_n 0, 1, 200), (200, .getfield 30, 3, 203), (203, .getfield 114, 3, 206), (206, .ireturn, 1, 207), (207, .aload_n 0, 1, 208), (208, .getfield 30, 3, 211), (211, .getfield 117, 3, 214), (214, .ireturn, 1, 215), (215, .aload_n 0, 1, 216), (216, .getfield 30, 3, 219), (219, .getfield 120, 3, 222), (222, .ireturn, 1, 223), (223, .aload_n 0, 1, 224), (224, .getfield 57, 3, 227), (227, .ireturn, 1, 228), (228, .aload_n 0, 1, 229), (229, .getfield 60, 3, 232), (232, .ireturn, 1, 233), (233, .aload_n 0, 1, 234), (234, .getfield 48, 3, 237), (237, .ireturn, 1, 238), (238, .ldc 123, 2, 240), (240, .ireturn, 1, 241)]
theorem ktX8_fact : TbOK mX8_fact tX8_fact := by
  unfold TbOK
  decide +kernel
theorem kdX8_fact (k : Nat) {pc : Nat} {i : Instr} {len nx : Nat} (hk : tX8_fact[k]? = some (pc, i, len, nx)) : Dc mX8_fact pc i len nx := dc_of ktX8_fact k hk
theorem iX8_fact : MiV mX8_fact := ⟨⟨gdw_of (i := 776) (by decide +kernel) (by decide +kernel), gdw_of (i := 117) (by decide +kernel) (by decide +kernel), by decide, by decide, by decide⟩, gdw_of (i := 774) (by decide +kernel) (by decide +kernel), gdw_of (i := 775) (by decide +kernel) (by decide +kernel)⟩
abbrev mX8_earlier : hMt := (yX8_earlier, cX8_earlier, 3, some .int)
def tX8_earlier : hTb := [(0, .iload_n 1, 1, 1), (1, .ifCond .ne 24, 3, 4), (4, .iload_n 2, 1, 5), (5, .iconst 0, 1, 6), (6, .iconst 5, 1, 7), (7, .invokestatic 124, 3, 10), (10, .ifCond .eq 12, 3, 13), (13, .aload_n 0, 1, 14), (14, .getfield 18, 3, 17), (17, .iload_n 2, 1, 18), (18, .iaload, 1, 19), (19, .goto 5, 3, 22), (22, .ldc 123, 2, 24), (24, .ireturn, 1, 25), (25, .iload_n 1, 1, 26), (26, .iconst 1, 1, 27), (27, .if_icmp .ne 24, 3, 30), (30, .iload_n 2, 1, 31), (31, .iconst 0, 1, 32), (32, .iconst 2, 1, 33), (33, .invokestatic 124, 3, 36), (36, .ifCond .eq 12, 3, 39), (39, .aload_n 0, 1, 40), (40, .getfield 21, 3, 43), (43, .iload_n 2, 1, 44), (44, .iaload, 1, 45), (45, .goto 5, 3, 48), (48, .ldc 123, 2, 50), (50, .ireturn, 1, 51), (51, .iload_n 1, 1, 52), (52, .iconst 2, 1, 53), (53, .if_icmp .ne 21, 3, 56), (56, .iload_n 2, 1, 57), (57, .iconst 0, 1, 58), (58, .iconst 2, 1, 59), (59, .invokestatic 124, 3, 62), (62, .ifCond .eq 12, 3, 65), (65, .aload_n 0, 1, 66), (66, .getfield 24, 3, 69), (69, .iload_n 2, 1, 70), (70, .iaload, 1, 71), (71, .goto 5, 3, 74), (74, .ldc 123, 2, 76), (76, .ireturn, 1, 77)]
theorem ktX8_earlier : TbOK mX8_earlier tX8_earlier := by
  unfold TbOK
  decide +kernel
theorem kdX8_earlier (k : Nat) {pc : Nat} {i : Instr} {len nx : Nat} (hk : tX8_earlier[k]? = some (pc, i, len, nx)) : Dc mX8_earlier pc i len nx := dc_of ktX8_earlier k hk
theorem iX8_earlier : MiV mX8_earlier := ⟨⟨gdw_of (i := 785) (by decide +kernel) (by decide +kernel), gdw_of (i := 117) (by decide +kernel) (by decide +kernel), by decide, by decide, by decide⟩, gdw_of (i := 783) (by decide +kernel) (by decide +kernel), gdw_of (i := 784) (by decide +kernel) (by decide +kernel)⟩
abbrev mX8_putPhase : hMt := (yX8_putPhase, cX8_putPhase, 3, some .int)
def tX8_putPhase : hTb := [(0, .aload_n 0, 1, 1), (1, .getfield 45, 3, 4), (4, .istore_n 2, 1, 5), (5, .aload_n 0, 1, 6), (6, .iload_n 1, 1, 7), (7, .putfield 45, 3, 10), (10, .iload_n 2, 1, 11), (11, .ireturn, 1, 12)]
theorem ktX8_putPhase : TbOK mX8_putPhase tX8_putPhase := by
  unfold TbOK
  decide +kernel
theorem kdX8_putPhase (k : Nat) {pc : Nat} {i : Instr} {len nx : Nat} (hk : tX8_putPhase[k]? = some (pc, i, len, nx)) : Dc mX8_putPhase pc i len nx := dc_of ktX8_putPhase k hk
theorem iX8_putPhase : MiV mX8_putPhase := ⟨⟨gdw_of (i := 1040) (by decide +kernel) (by decide +kernel), gdw_of (i := 117) (by decide +kernel) (by decide +kernel), by decide, by decide, by decide⟩, gdw_of (i := 1038) (by decide +kernel) (by decide +kernel), gdw_of (i := 1039) (by decide +kernel) (by decide +kernel)⟩
abbrev mX8_putHeld : hMt := (yX8_putHeld, cX8_putHeld, 3, some .int)
def tX8_putHeld : hTb := [(0, .aload_n 0, 1, 1), (1, .getfield 75, 3, 4), (4, .ifCond .eq 7, 3, 7), (7, .iconst 1, 1, 8), (8, .goto 4, 3, 11), (11, .iconst 0, 1, 12), (12, .istore_n 2, 1, 13), (13, .aload_n 0, 1, 14), (14, .iload_n 1, 1, 15), (15, .iconst 1, 1, 16), (16, .if_icmp .ne 7, 3, 19), (19, .iconst 1, 1, 20), (20, .goto 4, 3, 23), (23, .iconst 0, 1, 24), (24, .putfield 75, 3, 27), (27, .iload_n 2, 1, 28), (28, .ireturn, 1, 29)]
theorem ktX8_putHeld : TbOK mX8_putHeld tX8_putHeld := by
  unfold TbOK
  decide +kernel
theorem kdX8_putHeld (k : Nat) {pc : Nat} {i : Instr} {len nx : Nat} (hk : tX8_putHeld[k]? = some (pc, i, len, nx)) : Dc mX8_putHeld pc i len nx := dc_of ktX8_putHeld k hk
theorem iX8_putHeld : MiV mX8_putHeld := ⟨⟨gdw_of (i := 1044) (by decide +kernel) (by decide +kernel), gdw_of (i := 117) (by decide +kernel) (by decide +kernel), by decide, by decide, by decide⟩, gdw_of (i := 1042) (by decide +kernel) (by decide +kernel), gdw_of (i := 1043) (by decide +kernel) (by decide +kernel)⟩
abbrev mX8_putTap : hMt := (yX8_putTap, cX8_putTap, 4, some .int)
def tX8_putTap : hTb := [(0, .iload_n 1, 1, 1), (1, .iconst 0, 1, 2), (2, .iconst 5, 1, 3), (3, .invokestatic 124, 3, 6), (6, .ifCond .ne 6, 3, 9), (9, .ldc 123, 2, 11), (11, .ireturn, 1, 12), (12, .aload_n 0, 1, 13), (13, .getfield 9, 3, 16), (16, .iload_n 1, 1, 17), (17, .iaload, 1, 18), (18, .istore_n 3, 1, 19), (19, .aload_n 0, 1, 20), (20, .getfield 9, 3, 23), (23, .iload_n 1, 1, 24), (24, .iload_n 2, 1, 25), (25, .iastore, 1, 26), (26, .aload_n 0, 1, 27), (27, .getfield 15, 3, 30), (30, .iload_n 1, 1, 31), (31, .iconst 0, 1, 32), (32, .iastore, 1, 33), (33, .iload_n 3, 1, 34), (34, .ireturn, 1, 35)]
theorem ktX8_putTap : TbOK mX8_putTap tX8_putTap := by
  unfold TbOK
  decide +kernel
theorem kdX8_putTap (k : Nat) {pc : Nat} {i : Instr} {len nx : Nat} (hk : tX8_putTap[k]? = some (pc, i, len, nx)) : Dc mX8_putTap pc i len nx := dc_of ktX8_putTap k hk
theorem iX8_putTap : MiV mX8_putTap := ⟨⟨gdw_of (i := 1048) (by decide +kernel) (by decide +kernel), gdw_of (i := 117) (by decide +kernel) (by decide +kernel), by decide, by decide, by decide⟩, gdw_of (i := 1046) (by decide +kernel) (by decide +kernel), gdw_of (i := 1047) (by decide +kernel) (by decide +kernel)⟩
abbrev mX8_putNoise : hMt := (yX8_putNoise, cX8_putNoise, 3, some .int)
def tX8_putNoise : hTb := [(0, .aload_n 0, 1, 1), (1, .getfield 66, 3, 4), (4, .istore_n 2, 1, 5), (5, .aload_n 0, 1, 6), (6, .iload_n 1, 1, 7), (7, .putfield 66, 3, 10), (10, .iload_n 2, 1, 11), (11, .ireturn, 1, 12)]
theorem ktX8_putNoise : TbOK mX8_putNoise tX8_putNoise := by
  unfold TbOK
  decide +kernel
theorem kdX8_putNoise (k : Nat) {pc : Nat} {i : Instr} {len nx : Nat} (hk : tX8_putNoise[k]? = some (pc, i, len, nx)) : Dc mX8_putNoise pc i len nx := dc_of ktX8_putNoise k hk
theorem iX8_putNoise : MiV mX8_putNoise := ⟨⟨gdw_of (i := 1052) (by decide +kernel) (by decide +kernel), gdw_of (i := 117) (by decide +kernel) (by decide +kernel), by decide, by decide, by decide⟩, gdw_of (i := 1050) (by decide +kernel) (by decide +kernel), gdw_of (i := 1051) (by decide +kernel) (by decide +kernel)⟩
abbrev mX8_putTrain : hMt := (yX8_putTrain, cX8_putTrain, 3, some .int)
def tX8_putTrain : hTb := [(0, .aload_n 0, 1, 1), (1, .getfield 69, 3, 4), (4, .istore_n 2, 1, 5), (5, .aload_n 0, 1, 6), (6, .iload_n 1, 1, 7), (7, .putfield 69, 3, 10), (10, .iload_n 2, 1, 11), (11, .ireturn, 1, 12)]
theorem ktX8_putTrain : TbOK mX8_putTrain tX8_putTrain := by
  unfold TbOK
  decide +kernel
theorem kdX8_putTrain (k : Nat) {pc : Nat} {i : Instr} {len nx : Nat} (hk : tX8_putTrain[k]? = some (pc, i, len, nx)) : Dc mX8_putTrain pc i len nx := dc_of ktX8_putTrain k hk
theorem iX8_putTrain : MiV mX8_putTrain := ⟨⟨gdw_of (i := 1056) (by decide +kernel) (by decide +kernel), gdw_of (i := 117) (by decide +kernel) (by decide +kernel), by decide, by decide, by decide⟩, gdw_of (i := 1054) (by decide +kernel) (by decide +kernel), gdw_of (i := 1055) (by decide +kernel) (by decide +kernel)⟩
abbrev mX8_drawnNoise : hMt := (yX8_drawnNoise, cX8_drawnNoise, 1, some .int)
def tX8_drawnNoise : hTb := [(0, .aload_n 0, 1, 1), (1, .getfield 66, 3, 4), (4, .ifCond .gt 5, 3, 7), (7, .iconst 0, 1, 8), (8, .ireturn, 1, 9), (9, .aload_n 0, 1, 10), (10, .aload_n 0, 1, 11), (11, .getfield 82, 3, 14), (14, .invokestatic 157, 3, 17), (17, .putfield 82, 3, 20), (20, .aload_n 0, 1, 21), (21, .getfield 82, 3, 24), (24, .iconst 2, 1, 25), (25, .aload_n 0, 1, 26), (26, .getfield 66, 3, 29), (29, .imul, 1, 30), (30, .iconst 1, 1, 31), (31, .iadd, 1, 32), (32, .invokestatic 161, 3, 35), (35, .aload_n 0, 1, 36), (36, .getfield 66, 3, 39), (39, .isub, 1, 40), (40, .ireturn, 1, 41)]
theorem ktX8_drawnNoise : TbOK mX8_drawnNoise tX8_drawnNoise := by
  unfold TbOK
  decide +kernel
theorem kdX8_drawnNoise (k : Nat) {pc : Nat} {i : Instr} {len nx : Nat} (hk : tX8_drawnNoise[k]? = some (pc, i, len, nx)) : Dc mX8_drawnNoise pc i len nx := dc_of ktX8_drawnNoise k hk
theorem iX8_drawnNoise : MiV mX8_drawnNoise := ⟨⟨gdw_of (i := 945) (by decide +kernel) (by decide +kernel), gdw_of (i := 117) (by decide +kernel) (by decide +kernel), by decide, by decide, by decide⟩, gdw_of (i := 944) (by decide +kernel) (by decide +kernel), gdw_of (i := 28) (by decide +kernel) (by decide +kernel)⟩
abbrev mX8_backSum : hMt := (yX8_backSum, cX8_backSum, 5, some .int)
def tX8_backSum : hTb := [(0, .iconst 0, 1, 1), (1, .istore_n 2, 1, 2), (2, .aload_n 1, 1, 3), (3, .invokevirtual 226, 3, 6), (6, .istore_n 3, 1, 7), (7, .iconst 0, 1, 8), (8, .istore 4, 2, 10), (10, .iload 4, 2, 12), (12, .aload_n 1, 1, 13), (13, .invokevirtual 195, 3, 16), (16, .if_icmp .ge 47, 3, 19), (19, .iload 4, 2, 21), (21, .iconst 3, 1, 22), (22, .if_icmp .ge 41, 3, 25), (25, .iload_n 3, 1, 26), (26, .iload 4, 2, 28), (28, .iadd, 1, 29), (29, .bipush 6, 2, 31), (31, .if_icmp .ge 32, 3, 34), (34, .iload_n 2, 1, 35), (35, .bipush 64, 2, 37), (37, .aload_n 0, 1, 38), (38, .getfield 9, 3, 41), (41, .iload_n 3, 1, 42), (42, .iload 4, 2, 44), (44, .iadd, 1, 45), (45, .iaload, 1, 46), (46, .imul, 1, 47), (47, .aload_n 0, 1, 48), (48, .getfield 21, 3, 51), (51, .iload 4, 2, 53), (53, .iaload, 1, 54), (54, .imul, 1, 55), (55, .iadd, 1, 56), (56, .istore_n 2, 1, 57), (57, .iinc 4 1, 3, 60), (60, .goto (-50), 3, 63), (63, .iload_n 2, 1, 64), (64, .ireturn, 1, 65)]
theorem ktX8_backSum : TbOK mX8_backSum tX8_backSum := by
  unfold TbOK
  decide +kernel
theorem kdX8_backSum (k : Nat) {pc : Nat} {i : Instr} {len nx : Nat} (hk : tX8_backSum[k]? = some (pc, i, len, nx)) : Dc mX8_backSum pc i len nx := dc_of ktX8_backSum k hk
theorem iX8_backSum : MiV mX8_backSum := ⟨⟨gdw_of (i := 971) (by decide +kernel) (by decide +kernel), gdw_of (i := 117) (by decide +kernel) (by decide +kernel), by decide, by decide, by decide⟩, gdw_of (i := 970) (by decide +kernel) (by decide +kernel), gdw_of (i := 31) (by decide +kernel) (by decide +kernel)⟩
abbrev mX8_foreSum : hMt := (yX8_foreSum, cX8_foreSum, 5, some .int)
def tX8_foreSum : hTb := [(0, .aload_n 0, 1, 1), (1, .getfield 9, 3, 4), (4, .iconst 0, 1, 5), (5, .iaload, 1, 6), (6, .iload_n 2, 1, 7), (7, .imul, 1, 8), (8, .istore_n 3, 1, 9), (9, .iconst 1, 1, 10), (10, .istore 4, 2, 12), (12, .iload 4, 2, 14), (14, .aload_n 1, 1, 15), (15, .invokevirtual 226, 3, 18), (18, .if_icmp .ge 35, 3, 21), (21, .iload 4, 2, 23), (23, .iconst 3, 1, 24), (24, .if_icmp .ge 29, 3, 27), (27, .iload_n 3, 1, 28), (28, .aload_n 0, 1, 29), (29, .getfield 9, 3, 32), (32, .iload 4, 2, 34), (34, .iaload, 1, 35), (35, .aload_n 0, 1, 36), (36, .getfield 24, 3, 39), (39, .iload 4, 2, 41), (41, .iconst 1, 1, 42), (42, .isub, 1, 43), (43, .iaload, 1, 44), (44, .imul, 1, 45), (45, .iadd, 1, 46), (46, .istore_n 3, 1, 47), (47, .iinc 4 1, 3, 50), (50, .goto (-38), 3, 53), (53, .iload_n 3, 1, 54), (54, .ireturn, 1, 55)]
theorem ktX8_foreSum : TbOK mX8_foreSum tX8_foreSum := by
  unfold TbOK
  decide +kernel
theorem kdX8_foreSum (k : Nat) {pc : Nat} {i : Instr} {len nx : Nat} (hk : tX8_foreSum[k]? = some (pc, i, len, nx)) : Dc mX8_foreSum pc i len nx := dc_of ktX8_foreSum k hk
theorem iX8_foreSum : MiV mX8_foreSum := ⟨⟨gdw_of (i := 966) (by decide +kernel) (by decide +kernel), gdw_of (i := 117) (by decide +kernel) (by decide +kernel), by decide, by decide, by decide⟩, gdw_of (i := 965) (by decide +kernel) (by decide +kernel), gdw_of (i := 30) (by decide +kernel) (by decide +kernel)⟩
abbrev mX8_keepForUnrolling : hMt := (yX8_keepForUnrolling, cX8_keepForUnrolling, 5, none)
def tX8_keepForUnrolling : hTb := [(0, .aload_n 0, 1, 1), (1, .getfield 30, 3, 4), (4, .iload_n 2, 1, 5), (5, .putfield 229, 3, 8), (8, .aload_n 1, 1, 9), (9, .invokevirtual 226, 3, 12), (12, .istore_n 3, 1, 13), (13, .iconst 0, 1, 14), (14, .istore 4, 2, 16), (16, .iload 4, 2, 18), (18, .aload_n 1, 1, 19), (19, .invokevirtual 195, 3, 22), (22, .if_icmp .ge 43, 3, 25), (25, .iload 4, 2, 27), (27, .iconst 3, 1, 28), (28, .if_icmp .ge 37, 3, 31), (31, .iload_n 3, 1, 32), (32, .iload 4, 2, 34), (34, .iadd, 1, 35), (35, .bipush 6, 2, 37), (37, .if_icmp .ge 28, 3, 40), (40, .aload_n 0, 1, 41), (41, .getfield 30, 3, 44), (44, .getfield 231, 3, 47), (47, .iload 4, 2, 49), (49, .aload_n 0, 1, 50), (50, .getfield 9, 3, 53), (53, .iload_n 3, 1, 54), (54, .iload 4, 2, 56), (56, .iadd, 1, 57), (57, .iaload, 1, 58), (58, .iastore, 1, 59), (59, .iinc 4 1, 3, 62), (62, .goto (-46), 3, 65), (65, .return_, 1, 66)]
theorem ktX8_keepForUnrolling : TbOK mX8_keepForUnrolling tX8_keepForUnrolling := by
  unfold TbOK
  decide +kernel
theorem kdX8_keepForUnrolling (k : Nat) {pc : Nat} {i : Instr} {len nx : Nat} (hk : tX8_keepForUnrolling[k]? = some (pc, i, len, nx)) : Dc mX8_keepForUnrolling pc i len nx := dc_of ktX8_keepForUnrolling k hk
theorem iX8_keepForUnrolling : MiV mX8_keepForUnrolling := ⟨⟨gdw_of (i := 987) (by decide +kernel) (by decide +kernel), gdw_of (i := 117) (by decide +kernel) (by decide +kernel), by decide, by decide, by decide⟩, gdw_of (i := 986) (by decide +kernel) (by decide +kernel), gdw_of (i := 33) (by decide +kernel) (by decide +kernel)⟩
abbrev mX8_vote : hMt := (yX8_vote, cX8_vote, 3, none)
def tX8_vote : hTb := [(0, .aload_n 0, 1, 1), (1, .getfield 15, 3, 4), (4, .iload_n 1, 1, 5), (5, .dup2, 1, 6), (6, .iaload, 1, 7), (7, .iload_n 2, 1, 8), (8, .iadd, 1, 9), (9, .iastore, 1, 10), (10, .aload_n 0, 1, 11), (11, .getfield 15, 3, 14), (14, .iload_n 1, 1, 15), (15, .iaload, 1, 16), (16, .invokestatic 184, 3, 19), (19, .aload_n 0, 1, 20), (20, .getfield 63, 3, 23), (23, .if_icmp .lt 40, 3, 26), (26, .aload_n 0, 1, 27), (27, .getfield 9, 3, 30), (30, .iload_n 1, 1, 31), (31, .aload_n 0, 1, 32), (32, .getfield 9, 3, 35), (35, .iload_n 1, 1, 36), (36, .iaload, 1, 37), (37, .aload_n 0, 1, 38), (38, .getfield 15, 3, 41), (41, .iload_n 1, 1, 42), (42, .iaload, 1, 43), (43, .invokestatic 178, 3, 46), (46, .sipush (-255), 3, 49), (49, .sipush 255, 3, 52), (52, .invokestatic 245, 3, 55), (55, .iastore, 1, 56), (56, .aload_n 0, 1, 57), (57, .getfield 15, 3, 60), (60, .iload_n 1, 1, 61), (61, .iconst 0, 1, 62), (62, .iastore, 1, 63), (63, .return_, 1, 64)]
theorem ktX8_vote : TbOK mX8_vote tX8_vote := by
  unfold TbOK
  decide +kernel
theorem kdX8_vote (k : Nat) {pc : Nat} {i : Instr} {len nx : Nat} (hk : tX8_vote[k]? = some (pc, i, len, nx)) : Dc mX8_vote pc i len nx := dc_of ktX8_vote k hk
theorem iX8_vote : MiV mX8_vote := ⟨⟨gdw_of (i := 1003) (by decide +kernel) (by decide +kernel), gdw_of (i := 117) (by decide +kernel) (by decide +kernel), by decide, by decide, by decide⟩, gdw_of (i := 1002) (by decide +kernel) (by decide +kernel), gdw_of (i := 35) (by decide +kernel) (by decide +kernel)⟩
abbrev mX8_voteLevel : hMt := (yX8_voteLevel, cX8_voteLevel, 2, none)
def tX8_voteLevel : hTb := [(0, .aload_n 0, 1, 1), (1, .dup, 1, 2), (2, .getfield 60, 3, 5), (5, .iload_n 1, 1, 6), (6, .iadd, 1, 7), (7, .putfield 60, 3, 10), (10, .aload_n 0, 1, 11), (11, .getfield 60, 3, 14), (14, .invokestatic 184, 3, 17), (17, .aload_n 0, 1, 18), (18, .getfield 63, 3, 21), (21, .if_icmp .lt 29, 3, 24), (24, .aload_n 0, 1, 25), (25, .aload_n 0, 1, 26), (26, .getfield 57, 3, 29), (29, .aload_n 0, 1, 30), (30, .getfield 60, 3, 33), (33, .invokestatic 178, 3, 36), (36, .iconst 1, 1, 37), (37, .bipush 99, 2, 39), (39, .invokestatic 245, 3, 42), (42, .putfield 57, 3, 45), (45, .aload_n 0, 1, 46), (46, .iconst 0, 1, 47), (47, .putfield 60, 3, 50), (50, .return_, 1, 51)]
theorem ktX8_voteLevel : TbOK mX8_voteLevel tX8_voteLevel := by
  unfold TbOK
  decide +kernel
theorem kdX8_voteLevel (k : Nat) {pc : Nat} {i : Instr} {len nx : Nat} (hk : tX8_voteLevel[k]? = some (pc, i, len, nx)) : Dc mX8_voteLevel pc i len nx := dc_of ktX8_voteLevel k hk
theorem iX8_voteLevel : MiV mX8_voteLevel := ⟨⟨gdw_of (i := 1010) (by decide +kernel) (by decide +kernel), gdw_of (i := 117) (by decide +kernel) (by decide +kernel), by decide, by decide, by decide⟩, gdw_of (i := 1009) (by decide +kernel) (by decide +kernel), gdw_of (i := 36) (by decide +kernel) (by decide +kernel)⟩
abbrev mX8_votePhase : hMt := (yX8_votePhase, cX8_votePhase, 3, none)
def tX8_votePhase : hTb := [(0, .aload_n 0, 1, 1), (1, .dup, 1, 2), (2, .getfield 48, 3, 5), (5, .iload_n 1, 1, 6), (6, .iadd, 1, 7), (7, .putfield 48, 3, 10), (10, .aload_n 0, 1, 11), (11, .getfield 48, 3, 14), (14, .invokestatic 184, 3, 17), (17, .iload_n 2, 1, 18), (18, .if_icmp .lt 28, 3, 21), (21, .aload_n 0, 1, 22), (22, .aload_n 0, 1, 23), (23, .getfield 45, 3, 26), (26, .aload_n 0, 1, 27), (27, .getfield 48, 3, 30), (30, .invokestatic 178, 3, 33), (33, .iconst 0, 1, 34), (34, .iconst 3, 1, 35), (35, .invokestatic 245, 3, 38), (38, .putfield 45, 3, 41), (41, .aload_n 0, 1, 42), (42, .iconst 0, 1, 43), (43, .putfield 48, 3, 46), (46, .return_, 1, 47)]
theorem ktX8_votePhase : TbOK mX8_votePhase tX8_votePhase := by
  unfold TbOK
  decide +kernel
theorem kdX8_votePhase (k : Nat) {pc : Nat} {i : Instr} {len nx : Nat} (hk : tX8_votePhase[k]? = some (pc, i, len, nx)) : Dc mX8_votePhase pc i len nx := dc_of ktX8_votePhase k hk
theorem iX8_votePhase : MiV mX8_votePhase := ⟨⟨gdw_of (i := 1014) (by decide +kernel) (by decide +kernel), gdw_of (i := 117) (by decide +kernel) (by decide +kernel), by decide, by decide, by decide⟩, gdw_of (i := 1013) (by decide +kernel) (by decide +kernel), gdw_of (i := 37) (by decide +kernel) (by decide +kernel)⟩
abbrev mX8_learn : hMt := (yX8_learn, cX8_learn, 6, none)
def tX8_learn : hTb := [(0, .aload_n 1, 1, 1), (1, .invokevirtual 226, 3, 4), (4, .istore 4, 2, 6), (6, .iconst 0, 1, 7), (7, .istore 5, 2, 9), (9, .iload 5, 2, 11), (11, .iload 4, 2, 13), (13, .if_icmp .ge 34, 3, 16), (16, .iload 5, 2, 18), (18, .iconst 3, 1, 19), (19, .if_icmp .ge 28, 3, 22), (22, .aload_n 0, 1, 23), (23, .iload 5, 2, 25), (25, .aload_n 0, 1, 26), (26, .getfield 24, 3, 29), (29, .iload 5, 2, 31), (31, .iaload, 1, 32), (32, .invokestatic 178, 3, 35), (35, .ineg, 1, 36), (36, .iload_n 3, 1, 37), (37, .imul, 1, 38), (38, .invokevirtual 234, 3, 41), (41, .iinc 5 1, 3, 44), (44, .goto (-35), 3, 47), (47, .iconst 0, 1, 48), (48, .istore 5, 2, 50), (50, .iload 5, 2, 52), (52, .aload_n 1, 1, 53), (53, .invokevirtual 195, 3, 56), (56, .if_icmp .ge 43, 3, 59), (59, .iload 5, 2, 61), (61, .iconst 3, 1, 62), (62, .if_icmp .ge 37, 3, 65), (65, .iload 4, 2, 67), (67, .iload 5, 2, 69), (69, .iadd, 1, 70), (70, .bipush 6, 2, 72), (72, .if_icmp .ge 27, 3, 75), (75, .aload_n 0, 1, 76), (76, .iload 4, 2, 78), (78, .iload 5, 2, 80), (80, .iadd, 1, 81), (81, .aload_n 0, 1, 82), (82, .getfield 21, 3, 85), (85, .iload 5, 2, 87), (87, .iaload, 1, 88), (88, .iload_n 3, 1, 89), (89, .imul, 1, 90), (90, .invokevirtual 234, 3, 93), (93, .iinc 5 1, 3, 96), (96, .goto (-46), 3, 99), (99, .aload_n 1, 1, 100), (100, .bipush 10, 2, 102), (102, .invokevirtual 51, 3, 105), (105, .iconst 1, 1, 106), (106, .if_icmp .ne 10, 3, 109), (109, .aload_n 0, 1, 110), (110, .iload_n 2, 1, 111), (111, .iload_n 3, 1, 112), (112, .imul, 1, 113), (113, .invokevirtual 238, 3, 116), (116, .aload_n 1, 1, 117), (117, .bipush 11, 2, 119), (119, .invokevirtual 51, 3, 122), (122, .istore 5, 2, 124), (124, .iload 5, 2, 126), (126, .ifCond .le 27, 3, 129), (129, .aload_n 0, 1, 130), (130, .iload_n 3, 1, 131), (131, .aload_n 0, 1, 132), (132, .getfield 21, 3, 135), (135, .iconst 0, 1, 136), (136, .iaload, 1, 137), (137, .imul, 1, 138), (138, .aload_n 0, 1, 139), (139, .getfield 30, 3, 142), (142, .getfield 208, 3, 145), (145, .iload_n 2, 1, 146), (146, .imul, 1, 147), (147, .isub, 1, 148), (148, .iload 5, 2, 150), (150, .invokevirtual 242, 3, 153), (153, .return_, 1, 154)]
theorem ktX8_learn : TbOK mX8_learn tX8_learn := by
  unfold TbOK
  decide +kernel
theorem kdX8_learn (k : Nat) {pc : Nat} {i : Instr} {len nx : Nat} (hk : tX8_learn[k]? = some (pc, i, len, nx)) : Dc mX8_learn pc i len nx := dc_of ktX8_learn k hk
theorem iX8_learn : MiV mX8_learn := ⟨⟨gdw_of (i := 999) (by decide +kernel) (by decide +kernel), gdw_of (i := 117) (by decide +kernel) (by decide +kernel), by decide, by decide, by decide⟩, gdw_of (i := 998) (by decide +kernel) (by decide +kernel), gdw_of (i := 34) (by decide +kernel) (by decide +kernel)⟩
abbrev mX8_sampleWith : hMt := (yX8_sampleWith, cX8_sampleWith, 5, some .int)
def tX8_sampleWith : hTb := [(0, .aload_n 0, 1, 1), (1, .getfield 79, 3, 4), (4, .ifCond .eq 5, 3, 7), (7, .iconst 0, 1, 8), (8, .ireturn, 1, 9), (9, .iload_n 2, 1, 10), (10, .istore_n 3, 1, 11), (11, .iconst 0, 1, 12), (12, .istore 4, 2, 14), (14, .iload 4, 2, 16), (16, .bipush 6, 2, 18), (18, .if_icmp .ge 33, 3, 21), (21, .iload_n 3, 1, 22), (22, .aload_n 1, 1, 23), (23, .iconst 4, 1, 24), (24, .iload 4, 2, 26), (26, .imul, 1, 27), (27, .aload_n 0, 1, 28), (28, .getfield 45, 3, 31), (31, .iadd, 1, 32), (32, .invokevirtual 223, 3, 35), (35, .aload_n 0, 1, 36), (36, .getfield 18, 3, 39), (39, .iload 4, 2, 41), (41, .iaload, 1, 42), (42, .imul, 1, 43), (43, .iadd, 1, 44), (44, .istore_n 3, 1, 45), (45, .iinc 4 1, 3, 48), (48, .goto (-34), 3, 51), (51, .iload_n 3, 1, 52), (52, .ireturn, 1, 53)]
theorem ktX8_sampleWith : TbOK mX8_sampleWith tX8_sampleWith := by
  unfold TbOK
  decide +kernel
theorem kdX8_sampleWith (k : Nat) {pc : Nat} {i : Instr} {len nx : Nat} (hk : tX8_sampleWith[k]? = some (pc, i, len, nx)) : Dc mX8_sampleWith pc i len nx := dc_of ktX8_sampleWith k hk
theorem iX8_sampleWith : MiV mX8_sampleWith := ⟨⟨gdw_of (i := 961) (by decide +kernel) (by decide +kernel), gdw_of (i := 117) (by decide +kernel) (by decide +kernel), by decide, by decide, by decide⟩, gdw_of (i := 960) (by decide +kernel) (by decide +kernel), gdw_of (i := 29) (by decide +kernel) (by decide +kernel)⟩
abbrev mX8_truthNow : hMt := (yX8_truthNow, cX8_truthNow, 3, some .int)
def tX8_truthNow : hTb := [(0, .aload_n 1, 1, 1), (1, .invokevirtual 220, 3, 4), (4, .istore_n 2, 1, 5), (5, .iload_n 2, 1, 6), (6, .iconst 0, 1, 7), (7, .iconst 5, 1, 8), (8, .invokestatic 124, 3, 11), (11, .ifCond .eq 12, 3, 14), (14, .aload_n 0, 1, 15), (15, .getfield 18, 3, 18), (18, .iload_n 2, 1, 19), (19, .iaload, 1, 20), (20, .goto 4, 3, 23), (23, .iconst 0, 1, 24), (24, .ireturn, 1, 25)]
theorem ktX8_truthNow : TbOK mX8_truthNow tX8_truthNow := by
  unfold TbOK
  decide +kernel
theorem kdX8_truthNow (k : Nat) {pc : Nat} {i : Instr} {len nx : Nat} (hk : tX8_truthNow[k]? = some (pc, i, len, nx)) : Dc mX8_truthNow pc i len nx := dc_of ktX8_truthNow k hk
theorem iX8_truthNow : MiV mX8_truthNow := ⟨⟨gdw_of (i := 979) (by decide +kernel) (by decide +kernel), gdw_of (i := 117) (by decide +kernel) (by decide +kernel), by decide, by decide, by decide⟩, gdw_of (i := 978) (by decide +kernel) (by decide +kernel), gdw_of (i := 32) (by decide +kernel) (by decide +kernel)⟩
abbrev mX8_receive : hMt := (yX8_receive, cX8_receive, 14, none)
def tX8_receive : hTb := [(0, .aload_n 0, 1, 1), (1, .getfield 79, 3, 4), (4, .istore_n 3, 1, 5), (5, .aload_n 0, 1, 6), (6, .aload_n 1, 1, 7), (7, .iload_n 2, 1, 8), (8, .invokevirtual 165, 3, 11), (11, .istore 4, 2, 13), (13, .aload_n 0, 1, 14), (14, .aload_n 1, 1, 15), (15, .iload 4, 2, 17), (17, .invokevirtual 169, 3, 20), (20, .istore 5, 2, 22), (22, .iload 5, 2, 24), (24, .aload_n 0, 1, 25), (25, .aload_n 1, 1, 26), (26, .invokevirtual 172, 3, 29), (29, .isub, 1, 30), (30, .istore 6, 2, 32), (32, .iload 6, 2, 34), (34, .ifCond .lt 7, 3, 37), (37, .iconst 1, 1, 38), (38, .goto 4, 3, 41), (41, .iconst (-1), 1, 42), (42, .istore 7, 2, 44), (44, .aload_n 0, 1, 45), (45, .aload_n 1, 1, 46), (46, .invokevirtual 175, 3, 49), (49, .istore 8, 2, 51), (51, .iload 8, 2, 53), (53, .ifCond .eq 14, 3, 56), (56, .iload 7, 2, 58), (58, .iload 8, 2, 60), (60, .if_icmp .eq 7, 3, 63), (63, .iconst 1, 1, 64), (64, .goto 4, 3, 67), (67, .iconst 0, 1, 68), (68, .istore 9, 2, 70), (70, .aload_n 0, 1, 71), (71, .getfield 69, 3, 74), (74, .ifCond .le 12, 3, 77), (77, .iload 8, 2, 79), (79, .ifCond .eq 7, 3, 82), (82, .iconst 1, 1, 83), (83, .goto 4, 3, 86), (86, .iconst 0, 1, 87), (87, .istore 10, 2, 89), (89, .iload 10, 2, 91), (91, .ifCond .eq 8, 3, 94), (94, .iload 8, 2, 96), (96, .goto 5, 3, 99), (99, .iload 7, 2, 101), (101, .istore 11, 2, 103), (103, .iload 6, 2, 105), (105, .bipush 64, 2, 107), (107, .aload_n 0, 1, 108), (108, .getfield 57, 3, 111), (111, .imul, 1, 112), (112, .iload 11, 2, 114), (114, .imul, 1, 115), (115, .isub, 1, 116), (116, .invokestatic 178, 3, 119), (119, .istore 12, 2, 121), (121, .aload_n 0, 1, 122), (122, .aload_n 1, 1, 123), (123, .iload 5, 2, 125), (125, .invokevirtual 181, 3, 128), (128, .aload_n 0, 1, 129), (129, .getfield 24, 3, 132), (132, .iload 4, 2, 134), (134, .invokestatic 147, 3, 137), (137, .aload_n 0, 1, 138), (138, .getfield 30, 3, 141), (141, .iload_n 3, 1, 142), (142, .ifCond .ne 17, 3, 145), (145, .iload 4, 2, 147), (147, .invokestatic 184, 3, 150), (150, .aload_n 1, 1, 151), (151, .bipush 6, 2, 153), (153, .invokevirtual 51, 3, 156), (156, .if_icmp .ge 7, 3, 159), (159, .iconst 1, 1, 160), (160, .goto 4, 3, 163), (163, .iconst 0, 1, 164), (164, .invokevirtual 187, 3, 167), (167, .aload_n 0, 1, 168), (168, .getfield 75, 3, 171), (171, .ifCond .ne 21, 3, 174), (174, .aload_n 0, 1, 175), (175, .getfield 30, 3, 178), (178, .getfield 96, 3, 181), (181, .ifCond .ne 11, 3, 184), (184, .iload_n 3, 1, 185), (185, .ifCond .ne 7, 3, 188), (188, .iconst 1, 1, 189), (189, .goto 4, 3, 192), (192, .iconst 0, 1, 193), (193, .istore 13, 2, 195), (195, .iload 13, 2, 197), (197, .ifCond .eq 25, 3, 200), (200, .aload_n 0, 1, 201), (201, .getfield 30, 3, 204), (204, .dup, 1, 205), (205, .getfield 108, 3, 208), (208, .iconst 1, 1, 209), (209, .iadd, 1, 210), (210, .putfield 108, 3, 213), (213, .aload_n 0, 1, 214), (214, .aload_n 1, 1, 215), (215, .iload 11, 2, 217), (217, .iload 12, 2, 219), (219, .invokevirtual 191, 3, 222), (222, .aload_n 0, 1, 223), (223, .getfield 21, 3, 226), (226, .iload 11, 2, 228), (228, .invokestatic 147, 3, 231), (231, .aload_n 0, 1, 232), (232, .getfield 30, 3, 235), (235, .iload 9, 2, 237), (237, .aload_n 1, 1, 238), (238, .invokevirtual 195, 3, 241), (241, .invokevirtual 198, 3, 244), (244, .aload_n 0, 1, 245), (245, .getfield 30, 3, 248), (248, .iload_n 3, 1, 249), (249, .ifCond .eq 8, 3, 252), (252, .ldc 123, 2, 254), (254, .goto 5, 3, 257), (257, .iload 4, 2, 259), (259, .putfield 202, 3, 262), (262, .aload_n 0, 1, 263), (263, .getfield 30, 3, 266), (266, .iload 6, 2, 268), (268, .putfield 205, 3, 271), (271, .aload_n 0, 1, 272), (272, .getfield 30, 3, 275), (275, .iload 12, 2, 277), (277, .putfield 208, 3, 280), (280, .aload_n 0, 1, 281), (281, .getfield 30, 3, 284), (284, .aload_n 0, 1, 285), (285, .getfield 18, 3, 288), (288, .iconst 0, 1, 289), (289, .iaload, 1, 290), (290, .iconst 1, 1, 291), (291, .if_icmp .ne 7, 3, 294), (294, .iconst 1, 1, 295), (295, .goto 4, 3, 298), (298, .iconst 0, 1, 299), (299, .iload 7, 2, 301), (301, .iconst 1, 1, 302), (302, .if_icmp .ne 7, 3, 305), (305, .iconst 2, 1, 306), (306, .goto 4, 3, 309), (309, .iconst 0, 1, 310), (310, .iadd, 1, 311), (311, .iload 9, 2, 313), (313, .ifCond .eq 7, 3, 316), (316, .iconst 4, 1, 317), (317, .goto 4, 3, 320), (320, .iconst 0, 1, 321), (321, .iadd, 1, 322), (322, .aload_n 0, 1, 323), (323, .getfield 30, 3, 326), (326, .getfield 96, 3, 329), (329, .ifCond .eq 8, 3, 332), (332, .bipush 8, 2, 334), (334, .goto 4, 3, 337), (337, .iconst 0, 1, 338), (338, .iadd, 1, 339), (339, .iload 13, 2, 341), (341, .ifCond .eq 8, 3, 344), (344, .bipush 16, 2, 346), (346, .goto 4, 3, 349), (349, .iconst 0, 1, 350), (350, .iadd, 1, 351), (351, .iload 10, 2, 353), (353, .ifCond .eq 8, 3, 356), (356, .bipush 32, 2, 358), (358, .goto 4, 3, 361), (361, .iconst 0, 1, 362), (362, .iadd, 1, 363), (363, .putfield 211, 3, 366), (366, .aload_n 0, 1, 367), (367, .aload_n 0, 1, 368), (368, .getfield 69, 3, 371), (371, .iconst 1, 1, 372), (372, .isub, 1, 373), (373, .iconst 0, 1, 374), (374, .invokestatic 214, 3, 377), (377, .putfield 69, 3, 380), (380, .aload_n 0, 1, 381), (381, .iconst 0, 1, 382), (382, .putfield 79, 3, 385), (385, .aload_n 0, 1, 386), (386, .dup, 1, 387), (387, .getfield 41, 3, 390), (390, .iconst 1, 1, 391), (391, .iadd, 1, 392), (392, .putfield 41, 3, 395), (395, .return_, 1, 396)]
theorem ktX8_receive : TbOK mX8_receive tX8_receive := by
  unfold TbOK
  decide +kernel
theorem kdX8_receive (k : Nat) {pc : Nat} {i : Instr} {len nx : Nat} (hk : tX8_receive[k]? = some (pc, i, len, nx)) : Dc mX8_receive pc i len nx := dc_of ktX8_receive k hk
theorem iX8_receive : MiV mX8_receive := ⟨⟨gdw_of (i := 957) (by decide +kernel) (by decide +kernel), gdw_of (i := 117) (by decide +kernel) (by decide +kernel), by decide, by decide, by decide⟩, gdw_of (i := 955) (by decide +kernel) (by decide +kernel), gdw_of (i := 956) (by decide +kernel) (by decide +kernel)⟩
abbrev mX8_nextBit : hMt := (yX8_nextBit, cX8_nextBit, 5, some .int)
def tX8_nextBit : hTb := [(0, .aload_n 1, 1, 1), (1, .invokevirtual 151, 3, 4), (4, .istore_n 2, 1, 5), (5, .iload_n 2, 1, 6), (6, .ifCond .le 14, 3, 9), (9, .aload_n 1, 1, 10), (10, .aload_n 0, 1, 11), (11, .getfield 41, 3, 14), (14, .iload_n 2, 1, 15), (15, .irem, 1, 16), (16, .invokevirtual 154, 3, 19), (19, .ireturn, 1, 20), (20, .aload_n 0, 1, 21), (21, .getfield 72, 3, 24), (24, .iconst 1, 1, 25), (25, .iand, 1, 26), (26, .istore_n 3, 1, 27), (27, .aload_n 0, 1, 28), (28, .getfield 72, 3, 31), (31, .aload_n 0, 1, 32), (32, .getfield 72, 3, 35), (35, .iconst 1, 1, 36), (36, .ishr, 1, 37), (37, .ixor, 1, 38), (38, .iconst 1, 1, 39), (39, .iand, 1, 40), (40, .istore 4, 2, 42), (42, .aload_n 0, 1, 43), (43, .aload_n 0, 1, 44), (44, .getfield 72, 3, 47), (47, .iconst 1, 1, 48), (48, .ishr, 1, 49), (49, .iload 4, 2, 51), (51, .bipush 6, 2, 53), (53, .ishl, 1, 54), (54, .ior, 1, 55), (55, .putfield 72, 3, 58), (58, .iload_n 3, 1, 59), (59, .ireturn, 1, 60)]
theorem ktX8_nextBit : TbOK mX8_nextBit tX8_nextBit := by
  unfold TbOK
  decide +kernel
theorem kdX8_nextBit (k : Nat) {pc : Nat} {i : Instr} {len nx : Nat} (hk : tX8_nextBit[k]? = some (pc, i, len, nx)) : Dc mX8_nextBit pc i len nx := dc_of ktX8_nextBit k hk
theorem iX8_nextBit : MiV mX8_nextBit := ⟨⟨gdw_of (i := 936) (by decide +kernel) (by decide +kernel), gdw_of (i := 117) (by decide +kernel) (by decide +kernel), by decide, by decide, by decide⟩, gdw_of (i := 935) (by decide +kernel) (by decide +kernel), gdw_of (i := 27) (by decide +kernel) (by decide +kernel)⟩
abbrev mX8_sendBit : hMt := (yX8_sendBit, cX8_sendBit, 2, none)
def tX8_sendBit : hTb := [(0, .aload_n 0, 1, 1), (1, .getfield 18, 3, 4), (4, .aload_n 0, 1, 5), (5, .aload_n 1, 1, 6), (6, .invokevirtual 143, 3, 9), (9, .iconst 1, 1, 10), (10, .if_icmp .ne 7, 3, 13), (13, .iconst 1, 1, 14), (14, .goto 4, 3, 17), (17, .iconst (-1), 1, 18), (18, .invokestatic 147, 3, 21), (21, .return_, 1, 22)]
theorem ktX8_sendBit : TbOK mX8_sendBit tX8_sendBit := by
  unfold TbOK
  decide +kernel
theorem kdX8_sendBit (k : Nat) {pc : Nat} {i : Instr} {len nx : Nat} (hk : tX8_sendBit[k]? = some (pc, i, len, nx)) : Dc mX8_sendBit pc i len nx := dc_of ktX8_sendBit k hk
theorem iX8_sendBit : MiV mX8_sendBit := ⟨⟨gdw_of (i := 932) (by decide +kernel) (by decide +kernel), gdw_of (i := 117) (by decide +kernel) (by decide +kernel), by decide, by decide, by decide⟩, gdw_of (i := 930) (by decide +kernel) (by decide +kernel), gdw_of (i := 931) (by decide +kernel) (by decide +kernel)⟩
abbrev mX8_pass : hMt := (yX8_pass, cX8_pass, 2, none)
def tX8_pass : hTb := [(0, .aload_n 0, 1, 1), (1, .aload_n 1, 1, 2), (2, .invokevirtual 132, 3, 5), (5, .aload_n 0, 1, 6), (6, .aload_n 1, 1, 7), (7, .aload_n 0, 1, 8), (8, .invokevirtual 135, 3, 11), (11, .invokevirtual 139, 3, 14), (14, .return_, 1, 15)]
theorem ktX8_pass : TbOK mX8_pass tX8_pass := by
  unfold TbOK
  decide +kernel
theorem kdX8_pass (k : Nat) {pc : Nat} {i : Instr} {len nx : Nat} (hk : tX8_pass[k]? = some (pc, i, len, nx)) : Dc mX8_pass pc i len nx := dc_of ktX8_pass k hk
theorem iX8_pass : MiV mX8_pass := ⟨⟨gdw_of (i := 928) (by decide +kernel) (by decide +kernel), gdw_of (i := 117) (by decide +kernel) (by decide +kernel), by decide, by decide, by decide⟩, gdw_of (i := 926) (by decide +kernel) (by decide +kernel), gdw_of (i := 927) (by decide +kernel) (by decide +kernel)⟩
abbrev mX8_wrongIn : hMt := (yX8_wrongIn, cX8_wrongIn, 5, some .int)
def tX8_wrongIn : hTb := [(0, .aload_n 0, 1, 1), (1, .getfield 30, 3, 4), (4, .getfield 105, 3, 7), (7, .istore_n 3, 1, 8), (8, .iconst 0, 1, 9), (9, .istore 4, 2, 11), (11, .iload 4, 2, 13), (13, .iload_n 2, 1, 14), (14, .if_icmp .ge 14, 3, 17), (17, .aload_n 0, 1, 18), (18, .aload_n 1, 1, 19), (19, .invokevirtual 128, 3, 22), (22, .iinc 4 1, 3, 25), (25, .goto (-14), 3, 28), (28, .aload_n 0, 1, 29), (29, .getfield 30, 3, 32), (32, .getfield 105, 3, 35), (35, .iload_n 3, 1, 36), (36, .isub, 1, 37), (37, .ireturn, 1, 38)]
theorem ktX8_wrongIn : TbOK mX8_wrongIn tX8_wrongIn := by
  unfold TbOK
  decide +kernel
theorem kdX8_wrongIn (k : Nat) {pc : Nat} {i : Instr} {len nx : Nat} (hk : tX8_wrongIn[k]? = some (pc, i, len, nx)) : Dc mX8_wrongIn pc i len nx := dc_of ktX8_wrongIn k hk
theorem iX8_wrongIn : MiV mX8_wrongIn := ⟨⟨gdw_of (i := 1148) (by decide +kernel) (by decide +kernel), gdw_of (i := 117) (by decide +kernel) (by decide +kernel), by decide, by decide, by decide⟩, gdw_of (i := 1146) (by decide +kernel) (by decide +kernel), gdw_of (i := 1147) (by decide +kernel) (by decide +kernel)⟩
abbrev mX8_wouldErr : hMt := (yX8_wouldErr, cX8_wouldErr, 5, some .boolean)
def tX8_wouldErr : hTb := [(0, .aload_n 0, 1, 1), (1, .aload_n 1, 1, 2), (2, .aload_n 0, 1, 3), (3, .aload_n 1, 1, 4), (4, .iload_n 2, 1, 5), (5, .invokevirtual 165, 3, 8), (8, .invokevirtual 169, 3, 11), (11, .aload_n 0, 1, 12), (12, .aload_n 1, 1, 13), (13, .invokevirtual 172, 3, 16), (16, .isub, 1, 17), (17, .istore_n 3, 1, 18), (18, .aload_n 0, 1, 19), (19, .aload_n 1, 1, 20), (20, .invokevirtual 175, 3, 23), (23, .istore 4, 2, 25), (25, .iload 4, 2, 27), (27, .ifCond .eq 21, 3, 30), (30, .iload 4, 2, 32), (32, .iload_n 3, 1, 33), (33, .ifCond .lt 7, 3, 36), (36, .iconst 1, 1, 37), (37, .goto 4, 3, 40), (40, .iconst (-1), 1, 41), (41, .if_icmp .eq 7, 3, 44), (44, .iconst 1, 1, 45), (45, .goto 4, 3, 48), (48, .iconst 0, 1, 49), (49, .ireturn, 1, 50)]
theorem ktX8_wouldErr : TbOK mX8_wouldErr tX8_wouldErr := by
  unfold TbOK
  decide +kernel
theorem kdX8_wouldErr (k : Nat) {pc : Nat} {i : Instr} {len nx : Nat} (hk : tX8_wouldErr[k]? = some (pc, i, len, nx)) : Dc mX8_wouldErr pc i len nx := dc_of ktX8_wouldErr k hk
theorem iX8_wouldErr : MiV mX8_wouldErr := ⟨⟨gdw_of (i := 1343) (by decide +kernel) (by decide +kernel), gdw_of (i := 117) (by decide +kernel) (by decide +kernel), by decide, by decide, by decide⟩, gdw_of (i := 1341) (by decide +kernel) (by decide +kernel), gdw_of (i := 1342) (by decide +kernel) (by decide +kernel)⟩
theorem lX11_143 : Lk RX11 143 mX8_fact := Or.inl (gdw_of (i := 773) (by decide +kernel) (by decide +kernel))
theorem lX11_146 : Lk RX11 146 mX8_earlier := Or.inl (gdw_of (i := 782) (by decide +kernel) (by decide +kernel))
theorem lX11_192 : Lk RX11 192 mX8_copy := Or.inl (gdw_of (i := 911) (by decide +kernel) (by decide +kernel))
theorem lX11_313 : Lk RX11 313 mX8_wrongIn := Or.inl (gdw_of (i := 1145) (by decide +kernel) (by decide +kernel))
theorem lX11_348 : Lk RX11 348 mX8_begin := Or.inl (gdw_of (i := 717) (by decide +kernel) (by decide +kernel))
theorem lX11_397 : Lk RX11 397 mX8_pass := Or.inl (gdw_of (i := 925) (by decide +kernel) (by decide +kernel))
theorem lX11_408 : Lk RX11 408 mX8_putPhase := Or.inl (gdw_of (i := 1037) (by decide +kernel) (by decide +kernel))
theorem lX11_411 : Lk RX11 411 mX8_putHeld := Or.inl (gdw_of (i := 1041) (by decide +kernel) (by decide +kernel))
theorem lX11_414 : Lk RX11 414 mX8_putTap := Or.inl (gdw_of (i := 1045) (by decide +kernel) (by decide +kernel))
theorem lX11_417 : Lk RX11 417 mX8_putNoise := Or.inl (gdw_of (i := 1049) (by decide +kernel) (by decide +kernel))
theorem lX11_420 : Lk RX11 420 mX8_putTrain := Or.inl (gdw_of (i := 1053) (by decide +kernel) (by decide +kernel))
theorem lX0_22 : Lk RX0 22 mX8_copy := Or.inl (gdw_of (i := 1135) (by decide +kernel) (by decide +kernel))
theorem lX0_34 : Lk RX0 34 mX8_wrongIn := Or.inl (gdw_of (i := 1318) (by decide +kernel) (by decide +kernel))
theorem lX0_53 : Lk RX0 53 mX8_pass := Or.inl (gdw_of (i := 1291) (by decide +kernel) (by decide +kernel))
theorem lX0_82 : Lk RX0 82 mX8_sendBit := Or.inl (gdw_of (i := 1339) (by decide +kernel) (by decide +kernel))
theorem lX0_88 : Lk RX0 88 mX8_wouldErr := Or.inl (gdw_of (i := 1340) (by decide +kernel) (by decide +kernel))
theorem lX0_96 : Lk RX0 96 mX8_receive := Or.inl (gdw_of (i := 1348) (by decide +kernel) (by decide +kernel))
theorem lX8_34 : Lk RX8 34 mX8_forget := Or.inl (gdw_of (i := 721) (by decide +kernel) (by decide +kernel))
theorem lX8_128 : Lk RX8 128 mX8_pass := Or.inl (gdw_of (i := 1149) (by decide +kernel) (by decide +kernel))
theorem lX8_132 : Lk RX8 132 mX8_sendBit := Or.inl (gdw_of (i := 929) (by decide +kernel) (by decide +kernel))
theorem lX8_135 : Lk RX8 135 mX8_drawnNoise := Or.inl (gdw_of (i := 942) (by decide +kernel) (by decide +kernel))
theorem lX8_139 : Lk RX8 139 mX8_receive := Or.inl (gdw_of (i := 954) (by decide +kernel) (by decide +kernel))
theorem lX8_143 : Lk RX8 143 mX8_nextBit := Or.inl (gdw_of (i := 933) (by decide +kernel) (by decide +kernel))
theorem lX8_165 : Lk RX8 165 mX8_sampleWith := Or.inl (gdw_of (i := 958) (by decide +kernel) (by decide +kernel))
theorem lX8_169 : Lk RX8 169 mX8_foreSum := Or.inl (gdw_of (i := 963) (by decide +kernel) (by decide +kernel))
theorem lX8_172 : Lk RX8 172 mX8_backSum := Or.inl (gdw_of (i := 968) (by decide +kernel) (by decide +kernel))
theorem lX8_175 : Lk RX8 175 mX8_truthNow := Or.inl (gdw_of (i := 976) (by decide +kernel) (by decide +kernel))
theorem lX8_181 : Lk RX8 181 mX8_keepForUnrolling := Or.inl (gdw_of (i := 984) (by decide +kernel) (by decide +kernel))
theorem lX8_191 : Lk RX8 191 mX8_learn := Or.inl (gdw_of (i := 996) (by decide +kernel) (by decide +kernel))
theorem lX8_234 : Lk RX8 234 mX8_vote := Or.inl (gdw_of (i := 1000) (by decide +kernel) (by decide +kernel))
theorem lX8_238 : Lk RX8 238 mX8_voteLevel := Or.inl (gdw_of (i := 1007) (by decide +kernel) (by decide +kernel))
theorem lX8_242 : Lk RX8 242 mX8_votePhase := Or.inl (gdw_of (i := 1011) (by decide +kernel) (by decide +kernel))
def bJX8_forget_2 (K2 : Int32 → hM → hR) (K18 : hM → hR) (u0 : Nat) (w0 : Nat) (v1 : Int32) (m : hM) : hR :=
  alenJ u0 w0 fun x1 =>
  if x1 ≤ v1 then (K18 m) else (ast m u0 w0 v1 0 fun m2 =>
  K2 (v1 + 1) m2)
set_option maxRecDepth 20000 in
theorem BbJX8_forget_2 (K2 : Int32 → hM → hR) (K18 : hM → hR) (u0 : Nat) (w0 : Nat) (h2 : ∀ (v1 : Int32) (m : hM), G mX8_forget 0 2 [(0, .inr (.inr (u0, w0))), (1, .inl v1)] [] m (K2 v1 m)) (h18 : ∀ (m : hM), G mX8_forget 0 18 [] [] m (K18 m)) (v1 : Int32) (m : hM) : G mX8_forget 0 2 [(0, .inr (.inr (u0, w0))), (1, .inl v1)] [] m (bJX8_forget_2 K2 K18 u0 w0 v1 m) := by
  unfold bJX8_forget_2
  refine g_iload_n 1 (kdX8_forget 2 rfl) rfl ?_
  refine g_aload_n 0 (kdX8_forget 3 rfl) rfl ?_
  refine g_alen (kdX8_forget 4 rfl) (fun x1 => ?_)
  refine g_icmp_ge (tgt := 18) (kdX8_forget 5 rfl) (by decide) (fun _ => ?_) (fun _ => ?_)
  · exact g_fgt [] rfl (h18 m)
  · refine g_aload_n 0 (kdX8_forget 6 rfl) rfl ?_
    refine g_iload_n 1 (kdX8_forget 7 rfl) rfl ?_
    refine g_iconst (v := 0) (kdX8_forget 8 rfl) (by decide) ?_
    refine g_iast (kdX8_forget 9 rfl) (fun m2 => ?_)
    refine g_iinc (v := v1 + 1) (L2 := [(1, .inl (v1 + 1)), (0, .inr (.inr (u0, w0)))]) 1 (kdX8_forget 10 rfl) rfl rfl rfl (by decide) ?_
    refine g_goto (tgt := 2) (kdX8_forget 11 rfl) (by decide) ?_
    exact g_fgt [1, 0] rfl (h2 (v1 + 1) m2)
def JX8_forget_2 (K18 : hM → hR) (u0 : Nat) (w0 : Nat) : Nat → Int32 → hM → hR
  | 0, _, _ => none
  | f + 1, v1, m => bJX8_forget_2 (fun v1 m => JX8_forget_2 K18 u0 w0 f v1 m) K18 u0 w0 v1 m
theorem BJX8_forget_2 (K18 : hM → hR) (u0 : Nat) (w0 : Nat) (h18 : ∀ (m : hM), G mX8_forget 0 18 [] [] m (K18 m)) : ∀ (f : Nat) (v1 : Int32) (m : hM), G mX8_forget 0 2 [(0, .inr (.inr (u0, w0))), (1, .inl v1)] [] m (JX8_forget_2 K18 u0 w0 f v1 m)
  | 0, _, _ => g_none
  | f + 1, v1, m => BbJX8_forget_2  _ K18 u0 w0 (fun v1 m => BJX8_forget_2  K18 u0 w0 h18 f v1 m) h18 v1 m
def JX8_forget (t1 : Nat) (n1 : Nat) (m : hM) : hR :=
  JX8_forget_2 (fun m3 => some (none, m3)) t1 n1 FU 0 m
set_option maxRecDepth 20000 in
theorem CX8_forget (t1 : Nat) (n1 : Nat) (m : hM) : Cn mX8_forget 0 [.inr (.inr (t1, n1))] m (JX8_forget t1 n1 m) := by
  refine cn_of (by decide +kernel) (by simp only [List.map, vcat, List.sum_cons, List.sum_nil]; decide) ?_
  unfold JX8_forget
  show G mX8_forget 0 0 [(0, .inr (.inr (t1, n1)))] [] m _
  refine g_iconst (v := 0) (kdX8_forget 0 rfl) (by decide) ?_
  refine g_istore_n (L2 := [(1, .inl 0), (0, .inr (.inr (t1, n1)))]) (kdX8_forget 1 rfl) rfl (by decide) ?_
  refine g_fgt [1, 0] rfl (BJX8_forget_2  _ t1 n1 ?_ FU 0 m)
  · intro m3
    exact g_vret rfl (kdX8_forget 12 rfl)
def JX8_begin_23 (K2 : Int32 → hM → hR) (K37 : hM → hR) (w0 : Nat) (w1 : Nat) (v2 : Int32) (v100 : Int32) (v101 : Int32) (w102 : Nat) (m : hM) : hR :=
  ast m 13 w102 v101 v100 fun m1 =>
  ast m1 14 w0 v2 0 fun m2 =>
  K2 (v2 + 1) m2
set_option maxRecDepth 20000 in
theorem BX8_begin_23 (w0 : Nat) (w1 : Nat) (K2 : Int32 → hM → hR) (K37 : hM → hR) (h2 : ∀ (v2 : Int32) (m : hM), G mX8_begin 2 2 [(0, .inr (.inr (12, w0))), (1, .inr (.inr (4, w1))), (2, .inl v2)] [] m (K2 v2 m)) (h37 : ∀ (m : hM), G mX8_begin 2 37 [(0, .inr (.inr (12, w0))), (1, .inr (.inr (4, w1)))] [] m (K37 m)) (v2 : Int32) (v100 : Int32) (v101 : Int32) (w102 : Nat) (m : hM) : G mX8_begin 2 23 [(0, .inr (.inr (12, w0))), (1, .inr (.inr (4, w1))), (2, .inl v2)] [.inl v100, .inl v101, .inr (.inr (13, w102))] m (JX8_begin_23 K2 K37 w0 w1 v2 v100 v101 w102 m) := by
  unfold JX8_begin_23
  refine g_iast (kdX8_begin 13 rfl) (fun m1 => ?_)
  refine g_aload_n 0 (kdX8_begin 14 rfl) rfl ?_
  refine g_get (v := .inr (.inr (14, w0))) (kdX8_begin 15 rfl) fX8_15 rfl ?_
  refine g_iload_n 2 (kdX8_begin 16 rfl) rfl ?_
  refine g_iconst (v := 0) (kdX8_begin 17 rfl) (by decide) ?_
  refine g_iast (kdX8_begin 18 rfl) (fun m2 => ?_)
  refine g_iinc (v := v2 + 1) (L2 := [(2, .inl (v2 + 1)), (0, .inr (.inr (12, w0))), (1, .inr (.inr (4, w1)))]) 2 (kdX8_begin 19 rfl) rfl rfl rfl (by decide) ?_
  refine g_goto (tgt := 2) (kdX8_begin 20 rfl) (by decide) ?_
  exact g_fgt [1, 2, 0] rfl (h2 (v2 + 1) m2)
def bJX8_begin_2 (K2 : Int32 → hM → hR) (K37 : hM → hR) (w0 : Nat) (w1 : Nat) (v2 : Int32) (m : hM) : hR :=
  if 6 ≤ v2 then (K37 m) else (if v2 = 0 then (JX8_begin_23 K2 K37 w0 w1 v2 64 v2 w0 m) else (JX8_begin_23 K2 K37 w0 w1 v2 0 v2 w0 m))
set_option maxRecDepth 20000 in
theorem BbJX8_begin_2 (K2 : Int32 → hM → hR) (K37 : hM → hR) (w0 : Nat) (w1 : Nat) (h2 : ∀ (v2 : Int32) (m : hM), G mX8_begin 2 2 [(0, .inr (.inr (12, w0))), (1, .inr (.inr (4, w1))), (2, .inl v2)] [] m (K2 v2 m)) (h37 : ∀ (m : hM), G mX8_begin 2 37 [(0, .inr (.inr (12, w0))), (1, .inr (.inr (4, w1)))] [] m (K37 m)) (v2 : Int32) (m : hM) : G mX8_begin 2 2 [(0, .inr (.inr (12, w0))), (1, .inr (.inr (4, w1))), (2, .inl v2)] [] m (bJX8_begin_2 K2 K37 w0 w1 v2 m) := by
  unfold bJX8_begin_2
  refine g_iload_n 2 (kdX8_begin 2 rfl) rfl ?_
  refine g_bipush (v := 6) (kdX8_begin 3 rfl) (by decide) ?_
  refine g_icmp_ge (tgt := 37) (kdX8_begin 4 rfl) (by decide) (fun _ => ?_) (fun _ => ?_)
  · exact g_fgt [0, 1] rfl (h37 m)
  · refine g_aload_n 0 (kdX8_begin 5 rfl) rfl ?_
    refine g_get (v := .inr (.inr (13, w0))) (kdX8_begin 6 rfl) fX8_9 rfl ?_
    refine g_iload_n 2 (kdX8_begin 7 rfl) rfl ?_
    refine g_iload_n 2 (kdX8_begin 8 rfl) rfl ?_
    refine g_if_ne (tgt := 22) (kdX8_begin 9 rfl) (by decide) (fun _ => ?_) (fun _ => ?_)
    · refine g_iconst (v := 0) (kdX8_begin 12 rfl) (by decide) ?_
      exact g_fgt [0, 1, 2] rfl (BX8_begin_23 w0 w1 _ _ h2 h37 v2 0 v2 w0 m)
    · refine g_bipush (v := 64) (kdX8_begin 10 rfl) (by decide) ?_
      refine g_goto (tgt := 23) (kdX8_begin 11 rfl) (by decide) ?_
      exact g_fgt [0, 1, 2] rfl (BX8_begin_23 w0 w1 _ _ h2 h37 v2 64 v2 w0 m)
def JX8_begin_2 (K37 : hM → hR) (w0 : Nat) (w1 : Nat) : Nat → Int32 → hM → hR
  | 0, _, _ => none
  | f + 1, v2, m => bJX8_begin_2 (fun v2 m => JX8_begin_2 K37 w0 w1 f v2 m) K37 w0 w1 v2 m
theorem BJX8_begin_2 (K37 : hM → hR) (w0 : Nat) (w1 : Nat) (h37 : ∀ (m : hM), G mX8_begin 2 37 [(0, .inr (.inr (12, w0))), (1, .inr (.inr (4, w1)))] [] m (K37 m)) : ∀ (f : Nat) (v2 : Int32) (m : hM), G mX8_begin 2 2 [(0, .inr (.inr (12, w0))), (1, .inr (.inr (4, w1))), (2, .inl v2)] [] m (JX8_begin_2 K37 w0 w1 f v2 m)
  | 0, _, _ => g_none
  | f + 1, v2, m => BbJX8_begin_2  _ K37 w0 w1 (fun v2 m => BJX8_begin_2  K37 w0 w1 h37 f v2 m) h37 v2 m
def JX8_begin (n : Nat) (n1 : Nat) (m : hM) : hR :=
  JX8_begin_2 (fun m3 => calV (JX8_forget 15 n m3) fun m4 =>
  calV (JX8_forget 16 n m4) fun m5 =>
  calV (JX8_forget 17 n m5) fun m6 =>
  calV (JX10_clear n m6) fun m7 =>
  stI m7 12 n 6 0 fun m8 =>
  stI m8 12 n 7 0 fun m9 =>
  stI m9 12 n 8 0 fun m10 =>
  calI (JX4_ruleOf n1 4 m10) fun x12 m11 =>
  stI m11 12 n 9 x12 fun m13 =>
  stI m13 12 n 10 0 fun m14 =>
  calI (JX4_ruleOf n1 5 m14) fun x16 m15 =>
  stI m15 12 n 11 x16 fun m17 =>
  calI (JX4_ruleOf n1 7 m17) fun x19 m18 =>
  stI m18 12 n 12 x19 fun m20 =>
  calI (JX4_ruleOf n1 8 m20) fun x22 m21 =>
  stI m21 12 n 13 x22 fun m23 =>
  calI (JX4_ruleOf n1 9 m23) fun x25 m24 =>
  stI m24 12 n 14 x25 fun m26 =>
  stZ m26 12 n 15 0 fun m27 =>
  stZ m27 12 n 16 0 fun m28 =>
  stL m28 12 n 17 0 fun m29 =>
  some (none, m29)) n n1 FU 0 m
set_option maxRecDepth 20000 in
theorem CX8_begin (n : Nat) (n1 : Nat) (m : hM) : Cn mX8_begin 2 [.inr (.inr (12, n)), .inr (.inr (4, n1))] m (JX8_begin n n1 m) := by
  refine cn_of (by decide +kernel) (by simp only [List.map, vcat, List.sum_cons, List.sum_nil]; decide) ?_
  unfold JX8_begin
  show G mX8_begin 2 0 [(0, .inr (.inr (12, n))), (1, .inr (.inr (4, n1)))] [] m _
  refine g_iconst (v := 0) (kdX8_begin 0 rfl) (by decide) ?_
  refine g_istore_n (L2 := [(2, .inl 0), (0, .inr (.inr (12, n))), (1, .inr (.inr (4, n1)))]) (kdX8_begin 1 rfl) rfl (by decide) ?_
  refine g_fgt [1, 2, 0] rfl (BJX8_begin_2  _ n n1 ?_ FU 0 m)
  · intro m3
    refine g_aload_n 0 (kdX8_begin 21 rfl) rfl ?_
    refine g_get (v := .inr (.inr (15, n))) (kdX8_begin 22 rfl) fX8_18 rfl ?_
    refine g_calV (ck_S (As := [.inr (.inr (15, n))]) (S := []) (kdX8_begin 23 rfl) iX8_forget lX8_34 rfl rfl rfl (by decide) (by simp only [List.map, vcat, List.sum_cons, List.sum_nil]; decide)) (CX8_forget 15 n m3) (fun m4 => ?_)
    refine g_aload_n 0 (kdX8_begin 24 rfl) rfl ?_
    refine g_get (v := .inr (.inr (16, n))) (kdX8_begin 25 rfl) fX8_21 rfl ?_
    refine g_calV (ck_S (As := [.inr (.inr (16, n))]) (S := []) (kdX8_begin 26 rfl) iX8_forget lX8_34 rfl rfl rfl (by decide) (by simp only [List.map, vcat, List.sum_cons, List.sum_nil]; decide)) (CX8_forget 16 n m4) (fun m5 => ?_)
    refine g_aload_n 0 (kdX8_begin 27 rfl) rfl ?_
    refine g_get (v := .inr (.inr (17, n))) (kdX8_begin 28 rfl) fX8_24 rfl ?_
    refine g_calV (ck_S (As := [.inr (.inr (17, n))]) (S := []) (kdX8_begin 29 rfl) iX8_forget lX8_34 rfl rfl rfl (by decide) (by simp only [List.map, vcat, List.sum_cons, List.sum_nil]; decide)) (CX8_forget 17 n m5) (fun m6 => ?_)
    refine g_aload_n 0 (kdX8_begin 30 rfl) rfl ?_
    refine g_get (v := .inr (.inr (18, n))) (kdX8_begin 31 rfl) fX8_30 rfl ?_
    refine g_calV (ck_V (As := []) (S := []) (t := 18) (o := n) (kdX8_begin 32 rfl) iX10_clear lX8_38 rc_18 rfl rfl rfl (by decide) (by simp only [List.map, vcat, List.sum_cons, List.sum_nil]; decide)) (CX10_clear n m6) (fun m7 => ?_)
    refine g_aload_n 0 (kdX8_begin 33 rfl) rfl ?_
    refine g_iconst (v := 0) (kdX8_begin 34 rfl) (by decide) ?_
    refine g_putI (kdX8_begin 35 rfl) fX8_41 rfl (fun m8 => ?_)
    refine g_aload_n 0 (kdX8_begin 36 rfl) rfl ?_
    refine g_iconst (v := 0) (kdX8_begin 37 rfl) (by decide) ?_
    refine g_putI (kdX8_begin 38 rfl) fX8_45 rfl (fun m9 => ?_)
    refine g_aload_n 0 (kdX8_begin 39 rfl) rfl ?_
    refine g_iconst (v := 0) (kdX8_begin 40 rfl) (by decide) ?_
    refine g_putI (kdX8_begin 41 rfl) fX8_48 rfl (fun m10 => ?_)
    refine g_aload_n 0 (kdX8_begin 42 rfl) rfl ?_
    refine g_aload_n 1 (kdX8_begin 43 rfl) rfl ?_
    refine g_iconst (v := 4) (kdX8_begin 44 rfl) (by decide) ?_
    refine g_calI (ck_V (As := [.inl 4]) (S := [.inr (.inr (12, n))]) (t := 4) (o := n1) (kdX8_begin 45 rfl) iX4_ruleOf lX8_51 rc_4 rfl rfl rfl (by decide) (by simp only [List.map, vcat, List.sum_cons, List.sum_nil]; decide)) (CX4_ruleOf n1 4 m10) (fun x12 m11 => ?_)
    refine g_putI (kdX8_begin 46 rfl) fX8_57 rfl (fun m13 => ?_)
    refine g_aload_n 0 (kdX8_begin 47 rfl) rfl ?_
    refine g_iconst (v := 0) (kdX8_begin 48 rfl) (by decide) ?_
    refine g_putI (kdX8_begin 49 rfl) fX8_60 rfl (fun m14 => ?_)
    refine g_aload_n 0 (kdX8_begin 50 rfl) rfl ?_
    refine g_aload_n 1 (kdX8_begin 51 rfl) rfl ?_
    refine g_iconst (v := 5) (kdX8_begin 52 rfl) (by decide) ?_
    refine g_calI (ck_V (As := [.inl 5]) (S := [.inr (.inr (12, n))]) (t := 4) (o := n1) (kdX8_begin 53 rfl) iX4_ruleOf lX8_51 rc_4 rfl rfl rfl (by decide) (by simp only [List.map, vcat, List.sum_cons, List.sum_nil]; decide)) (CX4_ruleOf n1 5 m14) (fun x16 m15 => ?_)
    refine g_putI (kdX8_begin 54 rfl) fX8_63 rfl (fun m17 => ?_)
    refine g_aload_n 0 (kdX8_begin 55 rfl) rfl ?_
    refine g_aload_n 1 (kdX8_begin 56 rfl) rfl ?_
    refine g_bipush (v := 7) (kdX8_begin 57 rfl) (by decide) ?_
    refine g_calI (ck_V (As := [.inl 7]) (S := [.inr (.inr (12, n))]) (t := 4) (o := n1) (kdX8_begin 58 rfl) iX4_ruleOf lX8_51 rc_4 rfl rfl rfl (by decide) (by simp only [List.map, vcat, List.sum_cons, List.sum_nil]; decide)) (CX4_ruleOf n1 7 m17) (fun x19 m18 => ?_)
    refine g_putI (kdX8_begin 59 rfl) fX8_66 rfl (fun m20 => ?_)
    refine g_aload_n 0 (kdX8_begin 60 rfl) rfl ?_
    refine g_aload_n 1 (kdX8_begin 61 rfl) rfl ?_
    refine g_bipush (v := 8) (kdX8_begin 62 rfl) (by decide) ?_
    refine g_calI (ck_V (As := [.inl 8]) (S := [.inr (.inr (12, n))]) (t := 4) (o := n1) (kdX8_begin 63 rfl) iX4_ruleOf lX8_51 rc_4 rfl rfl rfl (by decide) (by simp only [List.map, vcat, List.sum_cons, List.sum_nil]; decide)) (CX4_ruleOf n1 8 m20) (fun x22 m21 => ?_)
    refine g_putI (kdX8_begin 64 rfl) fX8_69 rfl (fun m23 => ?_)
    refine g_aload_n 0 (kdX8_begin 65 rfl) rfl ?_
    refine g_aload_n 1 (kdX8_begin 66 rfl) rfl ?_
    refine g_bipush (v := 9) (kdX8_begin 67 rfl) (by decide) ?_
    refine g_calI (ck_V (As := [.inl 9]) (S := [.inr (.inr (12, n))]) (t := 4) (o := n1) (kdX8_begin 68 rfl) iX4_ruleOf lX8_51 rc_4 rfl rfl rfl (by decide) (by simp only [List.map, vcat, List.sum_cons, List.sum_nil]; decide)) (CX4_ruleOf n1 9 m23) (fun x25 m24 => ?_)
    refine g_putI (kdX8_begin 69 rfl) fX8_72 rfl (fun m26 => ?_)
    refine g_aload_n 0 (kdX8_begin 70 rfl) rfl ?_
    refine g_iconst (v := 0) (kdX8_begin 71 rfl) (by decide) ?_
    refine g_putZ (kdX8_begin 72 rfl) fX8_75 rfl (fun m27 => ?_)
    refine g_aload_n 0 (kdX8_begin 73 rfl) rfl ?_
    refine g_iconst (v := 0) (kdX8_begin 74 rfl) (by decide) ?_
    refine g_putZ (kdX8_begin 75 rfl) fX8_79 rfl (fun m28 => ?_)
    refine g_aload_n 0 (kdX8_begin 76 rfl) rfl ?_
    refine g_lconst (v := 0) (kdX8_begin 77 rfl) (by decide) ?_
    refine g_putL (kdX8_begin 78 rfl) fX8_82 rfl (fun m29 => ?_)
    exact g_vret rfl (kdX8_begin 79 rfl)
def JX8_copy (n : Nat) (n1 : Nat) (m : hM) : hR :=
  acp m 13 n1 0 13 n 0 6 fun m1 =>
  acp m1 14 n1 0 14 n 0 6 fun m2 =>
  acp m2 15 n1 0 15 n 0 6 fun m3 =>
  acp m3 16 n1 0 16 n 0 3 fun m4 =>
  acp m4 17 n1 0 17 n 0 3 fun m5 =>
  calV (JX10_copy n n1 m5) fun m6 =>
  stI m6 12 n 6 (m6.1 12 n1 6) fun m7 =>
  stI m7 12 n 7 (m7.1 12 n1 7) fun m8 =>
  stI m8 12 n 8 (m8.1 12 n1 8) fun m9 =>
  stI m9 12 n 9 (m9.1 12 n1 9) fun m10 =>
  stI m10 12 n 10 (m10.1 12 n1 10) fun m11 =>
  stI m11 12 n 11 (m11.1 12 n1 11) fun m12 =>
  stI m12 12 n 12 (m12.1 12 n1 12) fun m13 =>
  stI m13 12 n 13 (m13.1 12 n1 13) fun m14 =>
  stI m14 12 n 14 (m14.1 12 n1 14) fun m15 =>
  stZ m15 12 n 15 (m15.1 12 n1 15) fun m16 =>
  stZ m16 12 n 16 (m16.1 12 n1 16) fun m17 =>
  stL m17 12 n 17 (m17.2 12 n1 17) fun m18 =>
  some (none, m18)
set_option maxRecDepth 20000 in
theorem CX8_copy (n : Nat) (n1 : Nat) (m : hM) : Cn mX8_copy 2 [.inr (.inr (12, n)), .inr (.inr (12, n1))] m (JX8_copy n n1 m) := by
  refine cn_of (by decide +kernel) (by simp only [List.map, vcat, List.sum_cons, List.sum_nil]; decide) ?_
  unfold JX8_copy
  show G mX8_copy 2 0 [(0, .inr (.inr (12, n))), (1, .inr (.inr (12, n1)))] [] m _
  refine g_aload_n 1 (kdX8_copy 0 rfl) rfl ?_
  refine g_get (v := .inr (.inr (13, n1))) (kdX8_copy 1 rfl) fX8_9 rfl ?_
  refine g_iconst (v := 0) (kdX8_copy 2 rfl) (by decide) ?_
  refine g_aload_n 0 (kdX8_copy 3 rfl) rfl ?_
  refine g_get (v := .inr (.inr (13, n))) (kdX8_copy 4 rfl) fX8_9 rfl ?_
  refine g_iconst (v := 0) (kdX8_copy 5 rfl) (by decide) ?_
  refine g_bipush (v := 6) (kdX8_copy 6 rfl) (by decide) ?_
  refine g_acp (kdX8_copy 7 rfl) lX8_86 acW_ok (by decide) (by decide) (fun m1 => ?_)
  refine g_aload_n 1 (kdX8_copy 8 rfl) rfl ?_
  refine g_get (v := .inr (.inr (14, n1))) (kdX8_copy 9 rfl) fX8_15 rfl ?_
  refine g_iconst (v := 0) (kdX8_copy 10 rfl) (by decide) ?_
  refine g_aload_n 0 (kdX8_copy 11 rfl) rfl ?_
  refine g_get (v := .inr (.inr (14, n))) (kdX8_copy 12 rfl) fX8_15 rfl ?_
  refine g_iconst (v := 0) (kdX8_copy 13 rfl) (by decide) ?_
  refine g_bipush (v := 6) (kdX8_copy 14 rfl) (by decide) ?_
  refine g_acp (kdX8_copy 15 rfl) lX8_86 acW_ok (by decide) (by decide) (fun m2 => ?_)
  refine g_aload_n 1 (kdX8_copy 16 rfl) rfl ?_
  refine g_get (v := .inr (.inr (15, n1))) (kdX8_copy 17 rfl) fX8_18 rfl ?_
  refine g_iconst (v := 0) (kdX8_copy 18 rfl) (by decide) ?_
  refine g_aload_n 0 (kdX8_copy 19 rfl) rfl ?_
  refine g_get (v := .inr (.inr (15, n))) (kdX8_copy 20 rfl) fX8_18 rfl ?_
  refine g_iconst (v := 0) (kdX8_copy 21 rfl) (by decide) ?_
  refine g_bipush (v := 6) (kdX8_copy 22 rfl) (by decide) ?_
  refine g_acp (kdX8_copy 23 rfl) lX8_86 acW_ok (by decide) (by decide) (fun m3 => ?_)
  refine g_aload_n 1 (kdX8_copy 24 rfl) rfl ?_
  refine g_get (v := .inr (.inr (16, n1))) (kdX8_copy 25 rfl) fX8_21 rfl ?_
  refine g_iconst (v := 0) (kdX8_copy 26 rfl) (by decide) ?_
  refine g_aload_n 0 (kdX8_copy 27 rfl) rfl ?_
  refine g_get (v := .inr (.inr (16, n))) (kdX8_copy 28 rfl) fX8_21 rfl ?_
  refine g_iconst (v := 0) (kdX8_copy 29 rfl) (by decide) ?_
  refine g_iconst (v := 3) (kdX8_copy 30 rfl) (by decide) ?_
  refine g_acp (kdX8_copy 31 rfl) lX8_86 acW_ok (by decide) (by decide) (fun m4 => ?_)
  refine g_aload_n 1 (kdX8_copy 32 rfl) rfl ?_
  refine g_get (v := .inr (.inr (17, n1))) (kdX8_copy 33 rfl) fX8_24 rfl ?_
  refine g_iconst (v := 0) (kdX8_copy 34 rfl) (by decide) ?_
  refine g_aload_n 0 (kdX8_copy 35 rfl) rfl ?_
  refine g_get (v := .inr (.inr (17, n))) (kdX8_copy 36 rfl) fX8_24 rfl ?_
  refine g_iconst (v := 0) (kdX8_copy 37 rfl) (by decide) ?_
  refine g_iconst (v := 3) (kdX8_copy 38 rfl) (by decide) ?_
  refine g_acp (kdX8_copy 39 rfl) lX8_86 acW_ok (by decide) (by decide) (fun m5 => ?_)
  refine g_aload_n 0 (kdX8_copy 40 rfl) rfl ?_
  refine g_get (v := .inr (.inr (18, n))) (kdX8_copy 41 rfl) fX8_30 rfl ?_
  refine g_aload_n 1 (kdX8_copy 42 rfl) rfl ?_
  refine g_get (v := .inr (.inr (18, n1))) (kdX8_copy 43 rfl) fX8_30 rfl ?_
  refine g_calV (ck_V (As := [.inr (.inr (18, n1))]) (S := []) (t := 18) (o := n) (kdX8_copy 44 rfl) iX10_copy lX8_92 rc_18 rfl rfl rfl (by decide) (by simp only [List.map, vcat, List.sum_cons, List.sum_nil]; decide)) (CX10_copy n n1 m5) (fun m6 => ?_)
  refine g_aload_n 0 (kdX8_copy 45 rfl) rfl ?_
  refine g_aload_n 1 (kdX8_copy 46 rfl) rfl ?_
  refine g_get (v := .inl (m6.1 12 n1 6)) (kdX8_copy 47 rfl) fX8_41 rfl ?_
  refine g_putI (kdX8_copy 48 rfl) fX8_41 rfl (fun m7 => ?_)
  refine g_aload_n 0 (kdX8_copy 49 rfl) rfl ?_
  refine g_aload_n 1 (kdX8_copy 50 rfl) rfl ?_
  refine g_get (v := .inl (m7.1 12 n1 7)) (kdX8_copy 51 rfl) fX8_45 rfl ?_
  refine g_putI (kdX8_copy 52 rfl) fX8_45 rfl (fun m8 => ?_)
  refine g_aload_n 0 (kdX8_copy 53 rfl) rfl ?_
  refine g_aload_n 1 (kdX8_copy 54 rfl) rfl ?_
  refine g_get (v := .inl (m8.1 12 n1 8)) (kdX8_copy 55 rfl) fX8_48 rfl ?_
  refine g_putI (kdX8_copy 56 rfl) fX8_48 rfl (fun m9 => ?_)
  refine g_aload_n 0 (kdX8_copy 57 rfl) rfl ?_
  refine g_aload_n 1 (kdX8_copy 58 rfl) rfl ?_
  refine g_get (v := .inl (m9.1 12 n1 9)) (kdX8_copy 59 rfl) fX8_57 rfl ?_
  refine g_putI (kdX8_copy 60 rfl) fX8_57 rfl (fun m10 => ?_)
  refine g_aload_n 0 (kdX8_copy 61 rfl) rfl ?_
  refine g_aload_n 1 (kdX8_copy 62 rfl) rfl ?_
  refine g_get (v := .inl (m10.1 12 n1 10)) (kdX8_copy 63 rfl) fX8_60 rfl ?_
  refine g_putI (kdX8_copy 64 rfl) fX8_60 rfl (fun m11 => ?_)
  refine g_aload_n 0 (kdX8_copy 65 rfl) rfl ?_
  refine g_aload_n 1 (kdX8_copy 66 rfl) rfl ?_
  refine g_get (v := .inl (m11.1 12 n1 11)) (kdX8_copy 67 rfl) fX8_63 rfl ?_
  refine g_putI (kdX8_copy 68 rfl) fX8_63 rfl (fun m12 => ?_)
  refine g_aload_n 0 (kdX8_copy 69 rfl) rfl ?_
  refine g_aload_n 1 (kdX8_copy 70 rfl) rfl ?_
  refine g_get (v := .inl (m12.1 12 n1 12)) (kdX8_copy 71 rfl) fX8_66 rfl ?_
  refine g_putI (kdX8_copy 72 rfl) fX8_66 rfl (fun m13 => ?_)
  refine g_aload_n 0 (kdX8_copy 73 rfl) rfl ?_
  refine g_aload_n 1 (kdX8_copy 74 rfl) rfl ?_
  refine g_get (v := .inl (m13.1 12 n1 13)) (kdX8_copy 75 rfl) fX8_69 rfl ?_
  refine g_putI (kdX8_copy 76 rfl) fX8_69 rfl (fun m14 => ?_)
  refine g_aload_n 0 (kdX8_copy 77 rfl) rfl ?_
  refine g_aload_n 1 (kdX8_copy 78 rfl) rfl ?_
  refine g_get (v := .inl (m14.1 12 n1 14)) (kdX8_copy 79 rfl) fX8_72 rfl ?_
  refine g_putI (kdX8_copy 80 rfl) fX8_72 rfl (fun m15 => ?_)
  refine g_aload_n 0 (kdX8_copy 81 rfl) rfl ?_
  refine g_aload_n 1 (kdX8_copy 82 rfl) rfl ?_
  refine g_get (v := .inl (m15.1 12 n1 15)) (kdX8_copy 83 rfl) fX8_75 rfl ?_
  refine g_putZ (kdX8_copy 84 rfl) fX8_75 rfl (fun m16 => ?_)
  refine g_aload_n 0 (kdX8_copy 85 rfl) rfl ?_
  refine g_aload_n 1 (kdX8_copy 86 rfl) rfl ?_
  refine g_get (v := .inl (m16.1 12 n1 16)) (kdX8_copy 87 rfl) fX8_79 rfl ?_
  refine g_putZ (kdX8_copy 88 rfl) fX8_79 rfl (fun m17 => ?_)
  refine g_aload_n 0 (kdX8_copy 89 rfl) rfl ?_
  refine g_aload_n 1 (kdX8_copy 90 rfl) rfl ?_
  refine g_get (v := .inr (.inl (m17.2 12 n1 17))) (kdX8_copy 91 rfl) fX8_82 rfl ?_
  refine g_putL (kdX8_copy 92 rfl) fX8_82 rfl (fun m18 => ?_)
  exact g_vret rfl (kdX8_copy 93 rfl)
def JX8_fact (n : Nat) (a1 : Int32) (m : hM) : hR :=
  swL a1 [(0, some (some (.inl (m.1 12 n 6)), m)), (1, some (some (.inl (m.1 12 n 7)), m)), (2, if (m.1 12 n 15) = 0 then (some (some (.inl 0), m)) else (some (some (.inl 1), m))), (3, if (m.1 18 n 2) = 0 then (some (some (.inl 0), m)) else (some (some (.inl 1), m))), (4, some (some (.inl (m.1 12 n 12)), m)), (5, some (some (.inl (m.1 12 n 13)), m)), (6, some (some (.inl (m.1 12 n 14)), m)), (7, if (m.1 12 n 16) = 0 then (some (some (.inl 0), m)) else (some (some (.inl 1), m))), (8, some (some (.inl (m.1 18 n 0)), m)), (9, some (some (.inl (m.1 18 n 1)), m)), (10, some (some (.inl (m.1 18 n 3)), m)), (11, some (some (.inl (m.1 18 n 4)), m)), (12, some (some (.inl (m.1 18 n 5)), m)), (13, some (some (.inl (m.1 18 n 6)), m)), (14, some (some (.inl (m.1 18 n 7)), m)), (15, some (some (.inl (m.1 18 n 8)), m)), (16, some (some (.inl (m.1 12 n 9)), m)), (17, some (some (.inl (m.1 12 n 10)), m)), (18, some (some (.inl (m.1 12 n 8)), m))] (some (some (.inl (-1000000000)), m))
set_option maxRecDepth 20000 in
theorem CX8_fact (n : Nat) (a1 : Int32) (m : hM) : Cn mX8_fact 0 [.inr (.inr (12, n)), .inl a1] m (JX8_fact n a1 m) := by
  refine cn_of (by decide +kernel) (by simp only [List.map, vcat, List.sum_cons, List.sum_nil]; decide) ?_
  unfold JX8_fact
  show G mX8_fact 0 0 [(0, .inr (.inr (12, n))), (1, .inl a1)] [] m _
  refine g_iload_n 1 (kdX8_fact 0 rfl) rfl ?_
  refine g_table (offs := [91, 96, 101, 114, 130, 135, 140, 145, 158, 166, 174, 182, 190, 198, 206, 214, 222, 227, 232]) (dt := 238) (kdX8_fact 1 rfl) (by simp only [swK]; decide) rfl (by decide) ⟨⟨92, by decide, ?_⟩, ⟨97, by decide, ?_⟩, ⟨102, by decide, ?_⟩, ⟨115, by decide, ?_⟩, ⟨131, by decide, ?_⟩, ⟨136, by decide, ?_⟩, ⟨141, by decide, ?_⟩, ⟨146, by decide, ?_⟩, ⟨159, by decide, ?_⟩, ⟨167, by decide, ?_⟩, ⟨175, by decide, ?_⟩, ⟨183, by decide, ?_⟩, ⟨191, by decide, ?_⟩, ⟨199, by decide, ?_⟩, ⟨207, by decide, ?_⟩, ⟨215, by decide, ?_⟩, ⟨223, by decide, ?_⟩, ⟨228, by decide, ?_⟩, ⟨233, by decide, ?_⟩, trivial⟩ ?_
  · refine g_aload_n 0 (kdX8_fact 2 rfl) rfl ?_
    refine g_get (v := .inl (m.1 12 n 6)) (kdX8_fact 3 rfl) fX8_41 rfl ?_
    exact g_iret rfl (kdX8_fact 4 rfl)
  · refine g_aload_n 0 (kdX8_fact 5 rfl) rfl ?_
    refine g_get (v := .inl (m.1 12 n 7)) (kdX8_fact 6 rfl) fX8_45 rfl ?_
    exact g_iret rfl (kdX8_fact 7 rfl)
  · refine g_aload_n 0 (kdX8_fact 8 rfl) rfl ?_
    refine g_get (v := .inl (m.1 12 n 15)) (kdX8_fact 9 rfl) fX8_75 rfl ?_
    refine g_if_eq (tgt := 113) (kdX8_fact 10 rfl) (by decide) (fun _ => ?_) (fun _ => ?_)
    · refine g_iconst (v := 0) (kdX8_fact 13 rfl) (by decide) ?_
      exact g_iret rfl (kdX8_fact 14 rfl)
    · refine g_iconst (v := 1) (kdX8_fact 11 rfl) (by decide) ?_
      refine g_goto (tgt := 114) (kdX8_fact 12 rfl) (by decide) ?_
      exact g_iret rfl (kdX8_fact 14 rfl)
  · refine g_aload_n 0 (kdX8_fact 15 rfl) rfl ?_
    refine g_get (v := .inr (.inr (18, n))) (kdX8_fact 16 rfl) fX8_30 rfl ?_
    refine g_get (v := .inl (m.1 18 n 2)) (kdX8_fact 17 rfl) fX8_96 rfl ?_
    refine g_if_eq (tgt := 129) (kdX8_fact 18 rfl) (by decide) (fun _ => ?_) (fun _ => ?_)
    · refine g_iconst (v := 0) (kdX8_fact 21 rfl) (by decide) ?_
      exact g_iret rfl (kdX8_fact 22 rfl)
    · refine g_iconst (v := 1) (kdX8_fact 19 rfl) (by decide) ?_
      refine g_goto (tgt := 130) (kdX8_fact 20 rfl) (by decide) ?_
      exact g_iret rfl (kdX8_fact 22 rfl)
  · refine g_aload_n 0 (kdX8_fact 23 rfl) rfl ?_
    refine g_get (v := .inl (m.1 12 n 12)) (kdX8_fact 24 rfl) fX8_66 rfl ?_
    exact g_iret rfl (kdX8_fact 25 rfl)
  · refine g_aload_n 0 (kdX8_fact 26 rfl) rfl ?_
    refine g_get (v := .inl (m.1 12 n 13)) (kdX8_fact 27 rfl) fX8_69 rfl ?_
    exact g_iret rfl (kdX8_fact 28 rfl)
  · refine g_aload_n 0 (kdX8_fact 29 rfl) rfl ?_
    refine g_get (v := .inl (m.1 12 n 14)) (kdX8_fact 30 rfl) fX8_72 rfl ?_
    exact g_iret rfl (kdX8_fact 31 rfl)
  · refine g_aload_n 0 (kdX8_fact 32 rfl) rfl ?_
    refine g_get (v := .inl (m.1 12 n 16)) (kdX8_fact 33 rfl) fX8_79 rfl ?_
    refine g_if_eq (tgt := 157) (kdX8_fact 34 rfl) (by decide) (fun _ => ?_) (fun _ => ?_)
    · refine g_iconst (v := 0) (kdX8_fact 37 rfl) (by decide) ?_
      exact g_iret rfl (kdX8_fact 38 rfl)
    · refine g_iconst (v := 1) (kdX8_fact 35 rfl) (by decide) ?_
      refine g_goto (tgt := 158) (kdX8_fact 36 rfl) (by decide) ?_
      exact g_iret rfl (kdX8_fact 38 rfl)
  · refine g_aload_n 0 (kdX8_fact 39 rfl) rfl ?_
    refine g_get (v := .inr (.inr (18, n))) (kdX8_fact 40 rfl) fX8_30 rfl ?_
    refine g_get (v := .inl (m.1 18 n 0)) (kdX8_fact 41 rfl) fX8_99 rfl ?_
    exact g_iret rfl (kdX8_fact 42 rfl)
  · refine g_aload_n 0 (kdX8_fact 43 rfl) rfl ?_
    refine g_get (v := .inr (.inr (18, n))) (kdX8_fact 44 rfl) fX8_30 rfl ?_
    refine g_get (v := .inl (m.1 18 n 1)) (kdX8_fact 45 rfl) fX8_102 rfl ?_
    exact g_iret rfl (kdX8_fact 46 rfl)
  · refine g_aload_n 0 (kdX8_fact 47 rfl) rfl ?_
    refine g_get (v := .inr (.inr (18, n))) (kdX8_fact 48 rfl) fX8_30 rfl ?_
    refine g_get (v := .inl (m.1 18 n 3)) (kdX8_fact 49 rfl) fX8_105 rfl ?_
    exact g_iret rfl (kdX8_fact 50 rfl)
  · refine g_aload_n 0 (kdX8_fact 51 rfl) rfl ?_
    refine g_get (v := .inr (.inr (18, n))) (kdX8_fact 52 rfl) fX8_30 rfl ?_
    refine g_get (v := .inl (m.1 18 n 4)) (kdX8_fact 53 rfl) fX8_108 rfl ?_
    exact g_iret rfl (kdX8_fact 54 rfl)
  · refine g_aload_n 0 (kdX8_fact 55 rfl) rfl ?_
    refine g_get (v := .inr (.inr (18, n))) (kdX8_fact 56 rfl) fX8_30 rfl ?_
    refine g_get (v := .inl (m.1 18 n 5)) (kdX8_fact 57 rfl) fX8_111 rfl ?_
    exact g_iret rfl (kdX8_fact 58 rfl)
  · refine g_aload_n 0 (kdX8_fact 59 rfl) rfl ?_
    refine g_get (v := .inr (.inr (18, n))) (kdX8_fact 60 rfl) fX8_30 rfl ?_
    refine g_get (v := .inl (m.1 18 n 6)) (kdX8_fact 61 rfl) fX8_114 rfl ?_
    exact g_iret rfl (kdX8_fact 62 rfl)
  · refine g_aload_n 0 (kdX8_fact 63 rfl) rfl ?_
    refine g_get (v := .inr (.inr (18, n))) (kdX8_fact 64 rfl) fX8_30 rfl ?_
    refine g_get (v := .inl (m.1 18 n 7)) (kdX8_fact 65 rfl) fX8_117 rfl ?_
    exact g_iret rfl (kdX8_fact 66 rfl)
  · refine g_aload_n 0 (kdX8_fact 67 rfl) rfl ?_
    refine g_get (v := .inr (.inr (18, n))) (kdX8_fact 68 rfl) fX8_30 rfl ?_
    refine g_get (v := .inl (m.1 18 n 8)) (kdX8_fact 69 rfl) fX8_120 rfl ?_
    exact g_iret rfl (kdX8_fact 70 rfl)
  · refine g_aload_n 0 (kdX8_fact 71 rfl) rfl ?_
    refine g_get (v := .inl (m.1 12 n 9)) (kdX8_fact 72 rfl) fX8_57 rfl ?_
    exact g_iret rfl (kdX8_fact 73 rfl)
  · refine g_aload_n 0 (kdX8_fact 74 rfl) rfl ?_
    refine g_get (v := .inl (m.1 12 n 10)) (kdX8_fact 75 rfl) fX8_60 rfl ?_
    exact g_iret rfl (kdX8_fact 76 rfl)
  · refine g_aload_n 0 (kdX8_fact 77 rfl) rfl ?_
    refine g_get (v := .inl (m.1 12 n 8)) (kdX8_fact 78 rfl) fX8_48 rfl ?_
    exact g_iret rfl (kdX8_fact 79 rfl)
  · refine g_ldc (kdX8_fact 80 rfl) cX8_123 ?_
    exact g_iret rfl (kdX8_fact 81 rfl)
def JX8_earlier (n : Nat) (a1 : Int32) (a2 : Int32) (m : hM) : hR :=
  if a1 = 0 then (calI (JX11_within a2 0 5 m) fun x8 m7 =>
  if x8 = 0 then (some (some (.inl (-1000000000)), m7)) else (ald m7 15 n a2 fun x9 =>
  some (some (.inl x9), m7))) else (if a1 = 1 then (calI (JX11_within a2 0 2 m) fun x5 m4 =>
  if x5 = 0 then (some (some (.inl (-1000000000)), m4)) else (ald m4 16 n a2 fun x6 =>
  some (some (.inl x6), m4))) else (if a1 = 2 then (calI (JX11_within a2 0 2 m) fun x2 m1 =>
  if x2 = 0 then (some (some (.inl (-1000000000)), m1)) else (ald m1 17 n a2 fun x3 =>
  some (some (.inl x3), m1))) else (some (some (.inl (-1000000000)), m))))
set_option maxRecDepth 20000 in
theorem CX8_earlier (n : Nat) (a1 : Int32) (a2 : Int32) (m : hM) : Cn mX8_earlier 1 [.inr (.inr (12, n)), .inl a1, .inl a2] m (JX8_earlier n a1 a2 m) := by
  refine cn_of (by decide +kernel) (by simp only [List.map, vcat, List.sum_cons, List.sum_nil]; decide) ?_
  unfold JX8_earlier
  show G mX8_earlier 1 0 [(0, .inr (.inr (12, n))), (1, .inl a1), (2, .inl a2)] [] m _
  refine g_iload_n 1 (kdX8_earlier 0 rfl) rfl ?_
  refine g_if_ne (tgt := 25) (kdX8_earlier 1 rfl) (by decide) (fun _ => ?_) (fun _ => ?_)
  · refine g_iload_n 1 (kdX8_earlier 14 rfl) rfl ?_
    refine g_iconst (v := 1) (kdX8_earlier 15 rfl) (by decide) ?_
    refine g_icmp_ne (tgt := 51) (kdX8_earlier 16 rfl) (by decide) (fun _ => ?_) (fun _ => ?_)
    · refine g_iload_n 1 (kdX8_earlier 29 rfl) rfl ?_
      refine g_iconst (v := 2) (kdX8_earlier 30 rfl) (by decide) ?_
      refine g_icmp_ne (tgt := 74) (kdX8_earlier 31 rfl) (by decide) (fun _ => ?_) (fun _ => ?_)
      · refine g_ldc (kdX8_earlier 42 rfl) cX8_123 ?_
        exact g_iret rfl (kdX8_earlier 43 rfl)
      · refine g_iload_n 2 (kdX8_earlier 32 rfl) rfl ?_
        refine g_iconst (v := 0) (kdX8_earlier 33 rfl) (by decide) ?_
        refine g_iconst (v := 2) (kdX8_earlier 34 rfl) (by decide) ?_
        refine g_calI (ck_S (As := [.inl a2, .inl 0, .inl 2]) (S := []) (kdX8_earlier 35 rfl) iX11_within lX8_124 rfl rfl rfl (by decide) (by simp only [List.map, vcat, List.sum_cons, List.sum_nil]; decide)) (CX11_within a2 0 2 m) (fun x2 m1 => ?_)
        refine g_if_eq (tgt := 74) (kdX8_earlier 36 rfl) (by decide) (fun _ => ?_) (fun _ => ?_)
        · refine g_ldc (kdX8_earlier 42 rfl) cX8_123 ?_
          exact g_iret rfl (kdX8_earlier 43 rfl)
        · refine g_aload_n 0 (kdX8_earlier 37 rfl) rfl ?_
          refine g_get (v := .inr (.inr (17, n))) (kdX8_earlier 38 rfl) fX8_24 rfl ?_
          refine g_iload_n 2 (kdX8_earlier 39 rfl) rfl ?_
          refine g_iald (kdX8_earlier 40 rfl) (fun x3 => ?_)
          refine g_goto (tgt := 76) (kdX8_earlier 41 rfl) (by decide) ?_
          exact g_iret rfl (kdX8_earlier 43 rfl)
    · refine g_iload_n 2 (kdX8_earlier 17 rfl) rfl ?_
      refine g_iconst (v := 0) (kdX8_earlier 18 rfl) (by decide) ?_
      refine g_iconst (v := 2) (kdX8_earlier 19 rfl) (by decide) ?_
      refine g_calI (ck_S (As := [.inl a2, .inl 0, .inl 2]) (S := []) (kdX8_earlier 20 rfl) iX11_within lX8_124 rfl rfl rfl (by decide) (by simp only [List.map, vcat, List.sum_cons, List.sum_nil]; decide)) (CX11_within a2 0 2 m) (fun x5 m4 => ?_)
      refine g_if_eq (tgt := 48) (kdX8_earlier 21 rfl) (by decide) (fun _ => ?_) (fun _ => ?_)
      · refine g_ldc (kdX8_earlier 27 rfl) cX8_123 ?_
        exact g_iret rfl (kdX8_earlier 28 rfl)
      · refine g_aload_n 0 (kdX8_earlier 22 rfl) rfl ?_
        refine g_get (v := .inr (.inr (16, n))) (kdX8_earlier 23 rfl) fX8_21 rfl ?_
        refine g_iload_n 2 (kdX8_earlier 24 rfl) rfl ?_
        refine g_iald (kdX8_earlier 25 rfl) (fun x6 => ?_)
        refine g_goto (tgt := 50) (kdX8_earlier 26 rfl) (by decide) ?_
        exact g_iret rfl (kdX8_earlier 28 rfl)
  · refine g_iload_n 2 (kdX8_earlier 2 rfl) rfl ?_
    refine g_iconst (v := 0) (kdX8_earlier 3 rfl) (by decide) ?_
    refine g_iconst (v := 5) (kdX8_earlier 4 rfl) (by decide) ?_
    refine g_calI (ck_S (As := [.inl a2, .inl 0, .inl 5]) (S := []) (kdX8_earlier 5 rfl) iX11_within lX8_124 rfl rfl rfl (by decide) (by simp only [List.map, vcat, List.sum_cons, List.sum_nil]; decide)) (CX11_within a2 0 5 m) (fun x8 m7 => ?_)
    refine g_if_eq (tgt := 22) (kdX8_earlier 6 rfl) (by decide) (fun _ => ?_) (fun _ => ?_)
    · refine g_ldc (kdX8_earlier 12 rfl) cX8_123 ?_
      exact g_iret rfl (kdX8_earlier 13 rfl)
    · refine g_aload_n 0 (kdX8_earlier 7 rfl) rfl ?_
      refine g_get (v := .inr (.inr (15, n))) (kdX8_earlier 8 rfl) fX8_18 rfl ?_
      refine g_iload_n 2 (kdX8_earlier 9 rfl) rfl ?_
      refine g_iald (kdX8_earlier 10 rfl) (fun x9 => ?_)
      refine g_goto (tgt := 24) (kdX8_earlier 11 rfl) (by decide) ?_
      exact g_iret rfl (kdX8_earlier 13 rfl)
def JX8_putPhase (n : Nat) (a1 : Int32) (m : hM) : hR :=
  lt (m.1 12 n 7) fun x1 =>
  stI m 12 n 7 a1 fun m2 =>
  some (some (.inl x1), m2)
set_option maxRecDepth 20000 in
theorem CX8_putPhase (n : Nat) (a1 : Int32) (m : hM) : Cn mX8_putPhase 0 [.inr (.inr (12, n)), .inl a1] m (JX8_putPhase n a1 m) := by
  refine cn_of (by decide +kernel) (by simp only [List.map, vcat, List.sum_cons, List.sum_nil]; decide) ?_
  unfold JX8_putPhase
  show G mX8_putPhase 0 0 [(0, .inr (.inr (12, n))), (1, .inl a1)] [] m _
  refine g_aload_n 0 (kdX8_putPhase 0 rfl) rfl ?_
  refine g_get (v := .inl (m.1 12 n 7)) (kdX8_putPhase 1 rfl) fX8_45 rfl ?_
  refine g_lt (fun x1 => ?_)
  refine g_istore_n (L2 := [(2, .inl x1), (0, .inr (.inr (12, n))), (1, .inl a1)]) (kdX8_putPhase 2 rfl) rfl (by decide) ?_
  refine g_aload_n 1 (kdX8_putPhase 3 rfl) rfl ?_
  refine g_iload_n 2 (kdX8_putPhase 4 rfl) rfl ?_
  refine g_putI (kdX8_putPhase 5 rfl) fX8_45 rfl (fun m2 => ?_)
  refine g_iload_n 0 (kdX8_putPhase 6 rfl) rfl ?_
  exact g_iret rfl (kdX8_putPhase 7 rfl)
def JX8_putHeld_12 (w0 : Nat) (v1 : Int32) (v100 : Int32) (m : hM) : hR :=
  if v1 = 1 then (stZ m 12 w0 15 1 fun m2 =>
  some (some (.inl v100), m2)) else (stZ m 12 w0 15 0 fun m1 =>
  some (some (.inl v100), m1))
set_option maxRecDepth 20000 in
theorem BX8_putHeld_12 (w0 : Nat) (v1 : Int32) (v100 : Int32) (m : hM) : G mX8_putHeld 0 12 [(0, .inr (.inr (12, w0))), (1, .inl v1)] [.inl v100] m (JX8_putHeld_12 w0 v1 v100 m) := by
  unfold JX8_putHeld_12
  refine g_istore_n (L2 := [(2, .inl v100), (0, .inr (.inr (12, w0))), (1, .inl v1)]) (kdX8_putHeld 6 rfl) rfl (by decide) ?_
  refine g_aload_n 1 (kdX8_putHeld 7 rfl) rfl ?_
  refine g_iload_n 2 (kdX8_putHeld 8 rfl) rfl ?_
  refine g_iconst (v := 1) (kdX8_putHeld 9 rfl) (by decide) ?_
  refine g_icmp_ne (tgt := 23) (kdX8_putHeld 10 rfl) (by decide) (fun _ => ?_) (fun _ => ?_)
  · refine g_iconst (v := 0) (kdX8_putHeld 13 rfl) (by decide) ?_
    refine g_putZ (kdX8_putHeld 14 rfl) fX8_75 rfl (fun m1 => ?_)
    refine g_iload_n 0 (kdX8_putHeld 15 rfl) rfl ?_
    exact g_iret rfl (kdX8_putHeld 16 rfl)
  · refine g_iconst (v := 1) (kdX8_putHeld 11 rfl) (by decide) ?_
    refine g_goto (tgt := 24) (kdX8_putHeld 12 rfl) (by decide) ?_
    refine g_putZ (kdX8_putHeld 14 rfl) fX8_75 rfl (fun m2 => ?_)
    refine g_iload_n 0 (kdX8_putHeld 15 rfl) rfl ?_
    exact g_iret rfl (kdX8_putHeld 16 rfl)
def JX8_putHeld (n : Nat) (a1 : Int32) (m : hM) : hR :=
  if (m.1 12 n 15) = 0 then (JX8_putHeld_12 n a1 0 m) else (JX8_putHeld_12 n a1 1 m)
set_option maxRecDepth 20000 in
theorem CX8_putHeld (n : Nat) (a1 : Int32) (m : hM) : Cn mX8_putHeld 0 [.inr (.inr (12, n)), .inl a1] m (JX8_putHeld n a1 m) := by
  refine cn_of (by decide +kernel) (by simp only [List.map, vcat, List.sum_cons, List.sum_nil]; decide) ?_
  unfold JX8_putHeld
  show G mX8_putHeld 0 0 [(0, .inr (.inr (12, n))), (1, .inl a1)] [] m _
  refine g_aload_n 0 (kdX8_putHeld 0 rfl) rfl ?_
  refine g_get (v := .inl (m.1 12 n 15)) (kdX8_putHeld 1 rfl) fX8_75 rfl ?_
  refine g_if_eq (tgt := 11) (kdX8_putHeld 2 rfl) (by decide) (fun _ => ?_) (fun _ => ?_)
  · refine g_iconst (v := 0) (kdX8_putHeld 5 rfl) (by decide) ?_
    exact g_fgt [0, 1] rfl (BX8_putHeld_12 n a1 0 m)
  · refine g_iconst (v := 1) (kdX8_putHeld 3 rfl) (by decide) ?_
    refine g_goto (tgt := 12) (kdX8_putHeld 4 rfl) (by decide) ?_
    exact g_fgt [0, 1] rfl (BX8_putHeld_12 n a1 1 m)
def JX8_putTap (n : Nat) (a1 : Int32) (a2 : Int32) (m : hM) : hR :=
  calI (JX11_within a1 0 5 m) fun x2 m1 =>
  if x2 = 0 then (some (some (.inl (-1000000000)), m1)) else (ald m1 13 n a1 fun x3 =>
  ast m1 13 n a1 a2 fun m4 =>
  ast m4 14 n a1 0 fun m5 =>
  some (some (.inl x3), m5))
set_option maxRecDepth 20000 in
theorem CX8_putTap (n : Nat) (a1 : Int32) (a2 : Int32) (m : hM) : Cn mX8_putTap 1 [.inr (.inr (12, n)), .inl a1, .inl a2] m (JX8_putTap n a1 a2 m) := by
  refine cn_of (by decide +kernel) (by simp only [List.map, vcat, List.sum_cons, List.sum_nil]; decide) ?_
  unfold JX8_putTap
  show G mX8_putTap 1 0 [(0, .inr (.inr (12, n))), (1, .inl a1), (2, .inl a2)] [] m _
  refine g_iload_n 1 (kdX8_putTap 0 rfl) rfl ?_
  refine g_iconst (v := 0) (kdX8_putTap 1 rfl) (by decide) ?_
  refine g_iconst (v := 5) (kdX8_putTap 2 rfl) (by decide) ?_
  refine g_calI (ck_S (As := [.inl a1, .inl 0, .inl 5]) (S := []) (kdX8_putTap 3 rfl) iX11_within lX8_124 rfl rfl rfl (by decide) (by simp only [List.map, vcat, List.sum_cons, List.sum_nil]; decide)) (CX11_within a1 0 5 m) (fun x2 m1 => ?_)
  refine g_if_ne (tgt := 12) (kdX8_putTap 4 rfl) (by decide) (fun _ => ?_) (fun _ => ?_)
  · refine g_aload_n 0 (kdX8_putTap 7 rfl) rfl ?_
    refine g_get (v := .inr (.inr (13, n))) (kdX8_putTap 8 rfl) fX8_9 rfl ?_
    refine g_iload_n 1 (kdX8_putTap 9 rfl) rfl ?_
    refine g_iald (kdX8_putTap 10 rfl) (fun x3 => ?_)
    refine g_istore_n (L2 := [(3, .inl x3), (0, .inr (.inr (12, n))), (1, .inl a1), (2, .inl a2)]) (kdX8_putTap 11 rfl) rfl (by decide) ?_
    refine g_aload_n 1 (kdX8_putTap 12 rfl) rfl ?_
    refine g_get (v := .inr (.inr (13, n))) (kdX8_putTap 13 rfl) fX8_9 rfl ?_
    refine g_iload_n 2 (kdX8_putTap 14 rfl) rfl ?_
    refine g_iload_n 3 (kdX8_putTap 15 rfl) rfl ?_
    refine g_iast (kdX8_putTap 16 rfl) (fun m4 => ?_)
    refine g_aload_n 1 (kdX8_putTap 17 rfl) rfl ?_
    refine g_get (v := .inr (.inr (14, n))) (kdX8_putTap 18 rfl) fX8_15 rfl ?_
    refine g_iload_n 2 (kdX8_putTap 19 rfl) rfl ?_
    refine g_iconst (v := 0) (kdX8_putTap 20 rfl) (by decide) ?_
    refine g_iast (kdX8_putTap 21 rfl) (fun m5 => ?_)
    refine g_iload_n 0 (kdX8_putTap 22 rfl) rfl ?_
    exact g_iret rfl (kdX8_putTap 23 rfl)
  · refine g_ldc (kdX8_putTap 5 rfl) cX8_123 ?_
    exact g_iret rfl (kdX8_putTap 6 rfl)
def JX8_putNoise (n : Nat) (a1 : Int32) (m : hM) : hR :=
  lt (m.1 12 n 12) fun x1 =>
  stI m 12 n 12 a1 fun m2 =>
  some (some (.inl x1), m2)
set_option maxRecDepth 20000 in
theorem CX8_putNoise (n : Nat) (a1 : Int32) (m : hM) : Cn mX8_putNoise 0 [.inr (.inr (12, n)), .inl a1] m (JX8_putNoise n a1 m) := by
  refine cn_of (by decide +kernel) (by simp only [List.map, vcat, List.sum_cons, List.sum_nil]; decide) ?_
  unfold JX8_putNoise
  show G mX8_putNoise 0 0 [(0, .inr (.inr (12, n))), (1, .inl a1)] [] m _
  refine g_aload_n 0 (kdX8_putNoise 0 rfl) rfl ?_
  refine g_get (v := .inl (m.1 12 n 12)) (kdX8_putNoise 1 rfl) fX8_66 rfl ?_
  refine g_lt (fun x1 => ?_)
  refine g_istore_n (L2 := [(2, .inl x1), (0, .inr (.inr (12, n))), (1, .inl a1)]) (kdX8_putNoise 2 rfl) rfl (by decide) ?_
  refine g_aload_n 1 (kdX8_putNoise 3 rfl) rfl ?_
  refine g_iload_n 2 (kdX8_putNoise 4 rfl) rfl ?_
  refine g_putI (kdX8_putNoise 5 rfl) fX8_66 rfl (fun m2 => ?_)
  refine g_iload_n 0 (kdX8_putNoise 6 rfl) rfl ?_
  exact g_iret rfl (kdX8_putNoise 7 rfl)
def JX8_putTrain (n : Nat) (a1 : Int32) (m : hM) : hR :=
  lt (m.1 12 n 13) fun x1 =>
  stI m 12 n 13 a1 fun m2 =>
  some (some (.inl x1), m2)
set_option maxRecDepth 20000 in
theorem CX8_putTrain (n : Nat) (a1 : Int32) (m : hM) : Cn mX8_putTrain 0 [.inr (.inr (12, n)), .inl a1] m (JX8_putTrain n a1 m) := by
  refine cn_of (by decide +kernel) (by simp only [List.map, vcat, List.sum_cons, List.sum_nil]; decide) ?_
  unfold JX8_putTrain
  show G mX8_putTrain 0 0 [(0, .inr (.inr (12, n))), (1, .inl a1)] [] m _
  refine g_aload_n 0 (kdX8_putTrain 0 rfl) rfl ?_
  refine g_get (v := .inl (m.1 12 n 13)) (kdX8_putTrain 1 rfl) fX8_69 rfl ?_
  refine g_lt (fun x1 => ?_)
  refine g_istore_n (L2 := [(2, .inl x1), (0, .inr (.inr (12, n))), (1, .inl a1)]) (kdX8_putTrain 2 rfl) rfl (by decide) ?_
  refine g_aload_n 1 (kdX8_putTrain 3 rfl) rfl ?_
  refine g_iload_n 2 (kdX8_putTrain 4 rfl) rfl ?_
  refine g_putI (kdX8_putTrain 5 rfl) fX8_69 rfl (fun m2 => ?_)
  refine g_iload_n 0 (kdX8_putTrain 6 rfl) rfl ?_
  exact g_iret rfl (kdX8_putTrain 7 rfl)
def JX8_drawnNoise (n : Nat) (m : hM) : hR :=
  if 0 < (m.1 12 n 12) then (calL (JX11_turned (m.2 12 n 17) m) fun x2 m1 =>
  stL m1 12 n 17 x2 fun m3 =>
  calI (JX11_drawn (m3.2 12 n 17) ((2 * (m3.1 12 n 12)) + 1) m3) fun x5 m4 =>
  some (some (.inl (x5 - (m4.1 12 n 12))), m4)) else (some (some (.inl 0), m))
set_option maxRecDepth 20000 in
theorem CX8_drawnNoise (n : Nat) (m : hM) : Cn mX8_drawnNoise 1 [.inr (.inr (12, n))] m (JX8_drawnNoise n m) := by
  refine cn_of (by decide +kernel) (by simp only [List.map, vcat, List.sum_cons, List.sum_nil]; decide) ?_
  unfold JX8_drawnNoise
  show G mX8_drawnNoise 1 0 [(0, .inr (.inr (12, n)))] [] m _
  refine g_aload_n 0 (kdX8_drawnNoise 0 rfl) rfl ?_
  refine g_get (v := .inl (m.1 12 n 12)) (kdX8_drawnNoise 1 rfl) fX8_66 rfl ?_
  refine g_if_gt (tgt := 9) (kdX8_drawnNoise 2 rfl) (by decide) (fun _ => ?_) (fun _ => ?_)
  · refine g_aload_n 0 (kdX8_drawnNoise 5 rfl) rfl ?_
    refine g_aload_n 0 (kdX8_drawnNoise 6 rfl) rfl ?_
    refine g_get (v := .inr (.inl (m.2 12 n 17))) (kdX8_drawnNoise 7 rfl) fX8_82 rfl ?_
    refine g_calL (ck_S (As := [.inr (.inl (m.2 12 n 17))]) (S := [.inr (.inr (12, n))]) (kdX8_drawnNoise 8 rfl) iX11_turned lX8_157 rfl rfl rfl (by decide) (by simp only [List.map, vcat, List.sum_cons, List.sum_nil]; decide)) (CX11_turned (m.2 12 n 17) m) (fun x2 m1 => ?_)
    refine g_putL (kdX8_drawnNoise 9 rfl) fX8_82 rfl (fun m3 => ?_)
    refine g_aload_n 0 (kdX8_drawnNoise 10 rfl) rfl ?_
    refine g_get (v := .inr (.inl (m3.2 12 n 17))) (kdX8_drawnNoise 11 rfl) fX8_82 rfl ?_
    refine g_iconst (v := 2) (kdX8_drawnNoise 12 rfl) (by decide) ?_
    refine g_aload_n 0 (kdX8_drawnNoise 13 rfl) rfl ?_
    refine g_get (v := .inl (m3.1 12 n 12)) (kdX8_drawnNoise 14 rfl) fX8_66 rfl ?_
    refine g_imul (kdX8_drawnNoise 15 rfl) ?_
    refine g_iconst (v := 1) (kdX8_drawnNoise 16 rfl) (by decide) ?_
    refine g_iadd (kdX8_drawnNoise 17 rfl) ?_
    refine g_calI (ck_S (As := [.inr (.inl (m3.2 12 n 17)), .inl ((2 * (m3.1 12 n 12)) + 1)]) (S := []) (kdX8_drawnNoise 18 rfl) iX11_drawn lX8_161 rfl rfl rfl (by decide) (by simp only [List.map, vcat, List.sum_cons, List.sum_nil]; decide)) (CX11_drawn (m3.2 12 n 17) ((2 * (m3.1 12 n 12)) + 1) m3) (fun x5 m4 => ?_)
    refine g_aload_n 0 (kdX8_drawnNoise 19 rfl) rfl ?_
    refine g_get (v := .inl (m4.1 12 n 12)) (kdX8_drawnNoise 20 rfl) fX8_66 rfl ?_
    refine g_isub (kdX8_drawnNoise 21 rfl) ?_
    exact g_iret rfl (kdX8_drawnNoise 22 rfl)
  · refine g_iconst (v := 0) (kdX8_drawnNoise 3 rfl) (by decide) ?_
    exact g_iret rfl (kdX8_drawnNoise 4 rfl)
def bJX8_backSum_10 (K10 : Int32 → Int32 → hM → hR) (K63 : Int32 → hM → hR) (w0 : Nat) (w1 : Nat) (v3 : Int32) (v2 : Int32) (v4 : Int32) (m : hM) : hR :=
  calI (JX4_backTaps w1 m) fun x4 m3 =>
  if x4 ≤ v4 then (K63 v2 m3) else (if 3 ≤ v4 then (K63 v2 m3) else (if 6 ≤ (v3 + v4) then (K63 v2 m3) else (ald m3 13 w0 (v3 + v4) fun x5 =>
  ald m3 16 w0 v4 fun x6 =>
  lt (v2 + ((64 * x5) * x6)) fun x7 =>
  K10 x7 (v4 + 1) m3)))
set_option maxRecDepth 20000 in
theorem BbJX8_backSum_10 (K10 : Int32 → Int32 → hM → hR) (K63 : Int32 → hM → hR) (w0 : Nat) (w1 : Nat) (v3 : Int32) (h10 : ∀ (v2 : Int32) (v4 : Int32) (m : hM), G mX8_backSum 1 10 [(0, .inr (.inr (12, w0))), (1, .inr (.inr (4, w1))), (2, .inl v2), (3, .inl v3), (4, .inl v4)] [] m (K10 v2 v4 m)) (h63 : ∀ (v2 : Int32) (m : hM), G mX8_backSum 1 63 [(2, .inl v2)] [] m (K63 v2 m)) (v2 : Int32) (v4 : Int32) (m : hM) : G mX8_backSum 1 10 [(0, .inr (.inr (12, w0))), (1, .inr (.inr (4, w1))), (2, .inl v2), (3, .inl v3), (4, .inl v4)] [] m (bJX8_backSum_10 K10 K63 w0 w1 v3 v2 v4 m) := by
  unfold bJX8_backSum_10
  refine g_iload 4 (kdX8_backSum 7 rfl) rfl ?_
  refine g_aload_n 1 (kdX8_backSum 8 rfl) rfl ?_
  refine g_calI (ck_V (As := []) (S := [.inl v4]) (t := 4) (o := w1) (kdX8_backSum 9 rfl) iX4_backTaps lX8_195 rc_4 rfl rfl rfl (by decide) (by simp only [List.map, vcat, List.sum_cons, List.sum_nil]; decide)) (CX4_backTaps w1 m) (fun x4 m3 => ?_)
  refine g_icmp_ge (tgt := 63) (kdX8_backSum 10 rfl) (by decide) (fun _ => ?_) (fun _ => ?_)
  · exact g_fgt [2] rfl (h63 v2 m3)
  · refine g_iload 4 (kdX8_backSum 11 rfl) rfl ?_
    refine g_iconst (v := 3) (kdX8_backSum 12 rfl) (by decide) ?_
    refine g_icmp_ge (tgt := 63) (kdX8_backSum 13 rfl) (by decide) (fun _ => ?_) (fun _ => ?_)
    · exact g_fgt [2] rfl (h63 v2 m3)
    · refine g_iload_n 3 (kdX8_backSum 14 rfl) rfl ?_
      refine g_iload 4 (kdX8_backSum 15 rfl) rfl ?_
      refine g_iadd (kdX8_backSum 16 rfl) ?_
      refine g_bipush (v := 6) (kdX8_backSum 17 rfl) (by decide) ?_
      refine g_icmp_ge (tgt := 63) (kdX8_backSum 18 rfl) (by decide) (fun _ => ?_) (fun _ => ?_)
      · exact g_fgt [2] rfl (h63 v2 m3)
      · refine g_iload_n 2 (kdX8_backSum 19 rfl) rfl ?_
        refine g_bipush (v := 64) (kdX8_backSum 20 rfl) (by decide) ?_
        refine g_aload_n 0 (kdX8_backSum 21 rfl) rfl ?_
        refine g_get (v := .inr (.inr (13, w0))) (kdX8_backSum 22 rfl) fX8_9 rfl ?_
        refine g_iload_n 3 (kdX8_backSum 23 rfl) rfl ?_
        refine g_iload 4 (kdX8_backSum 24 rfl) rfl ?_
        refine g_iadd (kdX8_backSum 25 rfl) ?_
        refine g_iald (kdX8_backSum 26 rfl) (fun x5 => ?_)
        refine g_imul (kdX8_backSum 27 rfl) ?_
        refine g_aload_n 0 (kdX8_backSum 28 rfl) rfl ?_
        refine g_get (v := .inr (.inr (16, w0))) (kdX8_backSum 29 rfl) fX8_21 rfl ?_
        refine g_iload 4 (kdX8_backSum 30 rfl) rfl ?_
        refine g_iald (kdX8_backSum 31 rfl) (fun x6 => ?_)
        refine g_imul (kdX8_backSum 32 rfl) ?_
        refine g_iadd (kdX8_backSum 33 rfl) ?_
        refine g_lt (fun x7 => ?_)
        refine g_istore_n (L2 := [(2, .inl x7), (0, .inr (.inr (12, w0))), (1, .inr (.inr (4, w1))), (3, .inl v3), (4, .inl v4)]) (kdX8_backSum 34 rfl) rfl (by decide) ?_
        refine g_iinc (v := v4 + 1) (L2 := [(4, .inl (v4 + 1)), (2, .inl x7), (0, .inr (.inr (12, w0))), (1, .inr (.inr (4, w1))), (3, .inl v3)]) 4 (kdX8_backSum 35 rfl) rfl rfl rfl (by decide) ?_
        refine g_goto (tgt := 10) (kdX8_backSum 36 rfl) (by decide) ?_
        exact g_fgt [2, 3, 1, 4, 0] rfl (h10 x7 (v4 + 1) m3)
def JX8_backSum_10 (K63 : Int32 → hM → hR) (w0 : Nat) (w1 : Nat) (v3 : Int32) : Nat → Int32 → Int32 → hM → hR
  | 0, _, _, _ => none
  | f + 1, v2, v4, m => bJX8_backSum_10 (fun v2 v4 m => JX8_backSum_10 K63 w0 w1 v3 f v2 v4 m) K63 w0 w1 v3 v2 v4 m
theorem BJX8_backSum_10 (K63 : Int32 → hM → hR) (w0 : Nat) (w1 : Nat) (v3 : Int32) (h63 : ∀ (v2 : Int32) (m : hM), G mX8_backSum 1 63 [(2, .inl v2)] [] m (K63 v2 m)) : ∀ (f : Nat) (v2 : Int32) (v4 : Int32) (m : hM), G mX8_backSum 1 10 [(0, .inr (.inr (12, w0))), (1, .inr (.inr (4, w1))), (2, .inl v2), (3, .inl v3), (4, .inl v4)] [] m (JX8_backSum_10 K63 w0 w1 v3 f v2 v4 m)
  | 0, _, _, _ => g_none
  | f + 1, v2, v4, m => BbJX8_backSum_10  _ K63 w0 w1 v3 (fun v2 v4 m => BJX8_backSum_10  K63 w0 w1 v3 h63 f v2 v4 m) h63 v2 v4 m
def JX8_backSum (n : Nat) (n1 : Nat) (m : hM) : hR :=
  calI (JX4_foreTaps n1 m) fun x2 m1 =>
  JX8_backSum_10 (fun v2 m8 => some (some (.inl v2), m8)) n n1 x2 FU 0 0 m1
set_option maxRecDepth 20000 in
theorem CX8_backSum (n : Nat) (n1 : Nat) (m : hM) : Cn mX8_backSum 1 [.inr (.inr (12, n)), .inr (.inr (4, n1))] m (JX8_backSum n n1 m) := by
  refine cn_of (by decide +kernel) (by simp only [List.map, vcat, List.sum_cons, List.sum_nil]; decide) ?_
  unfold JX8_backSum
  show G mX8_backSum 1 0 [(0, .inr (.inr (12, n))), (1, .inr (.inr (4, n1)))] [] m _
  refine g_iconst (v := 0) (kdX8_backSum 0 rfl) (by decide) ?_
  refine g_istore_n (L2 := [(2, .inl 0), (0, .inr (.inr (12, n))), (1, .inr (.inr (4, n1)))]) (kdX8_backSum 1 rfl) rfl (by decide) ?_
  refine g_aload_n 2 (kdX8_backSum 2 rfl) rfl ?_
  refine g_calI (ck_V (As := []) (S := []) (t := 4) (o := n1) (kdX8_backSum 3 rfl) iX4_foreTaps lX8_226 rc_4 rfl rfl rfl (by decide) (by simp only [List.map, vcat, List.sum_cons, List.sum_nil]; decide)) (CX4_foreTaps n1 m) (fun x2 m1 => ?_)
  refine g_istore_n (L2 := [(3, .inl x2), (2, .inl 0), (0, .inr (.inr (12, n))), (1, .inr (.inr (4, n1)))]) (kdX8_backSum 4 rfl) rfl (by decide) ?_
  refine g_iconst (v := 0) (kdX8_backSum 5 rfl) (by decide) ?_
  refine g_istore (L2 := [(4, .inl 0), (3, .inl x2), (2, .inl 0), (0, .inr (.inr (12, n))), (1, .inr (.inr (4, n1)))]) (kdX8_backSum 6 rfl) rfl (by decide) ?_
  refine g_fgt [3, 4, 2, 1, 0] rfl (BJX8_backSum_10  _ n n1 x2 ?_ FU 0 0 m1)
  · intro v2 m8
    refine g_iload_n 0 (kdX8_backSum 37 rfl) rfl ?_
    exact g_iret rfl (kdX8_backSum 38 rfl)
def bJX8_foreSum_12 (K12 : Int32 → Int32 → hM → hR) (K53 : Int32 → hM → hR) (w0 : Nat) (w1 : Nat) (v3 : Int32) (v4 : Int32) (m : hM) : hR :=
  calI (JX4_foreTaps w1 m) fun x4 m3 =>
  if x4 ≤ v4 then (K53 v3 m3) else (if 3 ≤ v4 then (K53 v3 m3) else (ald m3 13 w0 v4 fun x5 =>
  ald m3 17 w0 (v4 - 1) fun x6 =>
  lt (v3 + (x5 * x6)) fun x7 =>
  K12 x7 (v4 + 1) m3))
set_option maxRecDepth 20000 in
theorem BbJX8_foreSum_12 (K12 : Int32 → Int32 → hM → hR) (K53 : Int32 → hM → hR) (w0 : Nat) (w1 : Nat) (h12 : ∀ (v3 : Int32) (v4 : Int32) (m : hM), G mX8_foreSum 1 12 [(0, .inr (.inr (12, w0))), (1, .inr (.inr (4, w1))), (3, .inl v3), (4, .inl v4)] [] m (K12 v3 v4 m)) (h53 : ∀ (v3 : Int32) (m : hM), G mX8_foreSum 1 53 [(3, .inl v3)] [] m (K53 v3 m)) (v3 : Int32) (v4 : Int32) (m : hM) : G mX8_foreSum 1 12 [(0, .inr (.inr (12, w0))), (1, .inr (.inr (4, w1))), (3, .inl v3), (4, .inl v4)] [] m (bJX8_foreSum_12 K12 K53 w0 w1 v3 v4 m) := by
  unfold bJX8_foreSum_12
  refine g_iload 3 (kdX8_foreSum 9 rfl) rfl ?_
  refine g_aload_n 1 (kdX8_foreSum 10 rfl) rfl ?_
  refine g_calI (ck_V (As := []) (S := [.inl v4]) (t := 4) (o := w1) (kdX8_foreSum 11 rfl) iX4_foreTaps lX8_226 rc_4 rfl rfl rfl (by decide) (by simp only [List.map, vcat, List.sum_cons, List.sum_nil]; decide)) (CX4_foreTaps w1 m) (fun x4 m3 => ?_)
  refine g_icmp_ge (tgt := 53) (kdX8_foreSum 12 rfl) (by decide) (fun _ => ?_) (fun _ => ?_)
  · exact g_fgt [2] rfl (h53 v3 m3)
  · refine g_iload 3 (kdX8_foreSum 13 rfl) rfl ?_
    refine g_iconst (v := 3) (kdX8_foreSum 14 rfl) (by decide) ?_
    refine g_icmp_ge (tgt := 53) (kdX8_foreSum 15 rfl) (by decide) (fun _ => ?_) (fun _ => ?_)
    · exact g_fgt [2] rfl (h53 v3 m3)
    · refine g_iload_n 2 (kdX8_foreSum 16 rfl) rfl ?_
      refine g_aload_n 0 (kdX8_foreSum 17 rfl) rfl ?_
      refine g_get (v := .inr (.inr (13, w0))) (kdX8_foreSum 18 rfl) fX8_9 rfl ?_
      refine g_iload 3 (kdX8_foreSum 19 rfl) rfl ?_
      refine g_iald (kdX8_foreSum 20 rfl) (fun x5 => ?_)
      refine g_aload_n 0 (kdX8_foreSum 21 rfl) rfl ?_
      refine g_get (v := .inr (.inr (17, w0))) (kdX8_foreSum 22 rfl) fX8_24 rfl ?_
      refine g_iload 3 (kdX8_foreSum 23 rfl) rfl ?_
      refine g_iconst (v := 1) (kdX8_foreSum 24 rfl) (by decide) ?_
      refine g_isub (kdX8_foreSum 25 rfl) ?_
      refine g_iald (kdX8_foreSum 26 rfl) (fun x6 => ?_)
      refine g_imul (kdX8_foreSum 27 rfl) ?_
      refine g_iadd (kdX8_foreSum 28 rfl) ?_
      refine g_lt (fun x7 => ?_)
      refine g_istore_n (L2 := [(3, .inl x7), (0, .inr (.inr (12, w0))), (1, .inr (.inr (4, w1))), (4, .inl v4)]) (kdX8_foreSum 29 rfl) rfl (by decide) ?_
      refine g_iinc (v := v4 + 1) (L2 := [(4, .inl (v4 + 1)), (3, .inl x7), (0, .inr (.inr (12, w0))), (1, .inr (.inr (4, w1)))]) 3 (kdX8_foreSum 30 rfl) rfl rfl rfl (by decide) ?_
      refine g_goto (tgt := 12) (kdX8_foreSum 31 rfl) (by decide) ?_
      exact g_fgt [2, 3, 1, 0] rfl (h12 x7 (v4 + 1) m3)
def JX8_foreSum_12 (K53 : Int32 → hM → hR) (w0 : Nat) (w1 : Nat) : Nat → Int32 → Int32 → hM → hR
  | 0, _, _, _ => none
  | f + 1, v3, v4, m => bJX8_foreSum_12 (fun v3 v4 m => JX8_foreSum_12 K53 w0 w1 f v3 v4 m) K53 w0 w1 v3 v4 m
theorem BJX8_foreSum_12 (K53 : Int32 → hM → hR) (w0 : Nat) (w1 : Nat) (h53 : ∀ (v3 : Int32) (m : hM), G mX8_foreSum 1 53 [(3, .inl v3)] [] m (K53 v3 m)) : ∀ (f : Nat) (v3 : Int32) (v4 : Int32) (m : hM), G mX8_foreSum 1 12 [(0, .inr (.inr (12, w0))), (1, .inr (.inr (4, w1))), (3, .inl v3), (4, .inl v4)] [] m (JX8_foreSum_12 K53 w0 w1 f v3 v4 m)
  | 0, _, _, _ => g_none
  | f + 1, v3, v4, m => BbJX8_foreSum_12  _ K53 w0 w1 (fun v3 v4 m => BJX8_foreSum_12  K53 w0 w1 h53 f v3 v4 m) h53 v3 v4 m
def JX8_foreSum (n : Nat) (n1 : Nat) (a2 : Int32) (m : hM) : hR :=
  ald m 13 n 0 fun x1 =>
  lt (x1 * a2) fun x2 =>
  JX8_foreSum_12 (fun v3 m8 => some (some (.inl v3), m8)) n n1 FU x2 1 m
set_option maxRecDepth 20000 in
theorem CX8_foreSum (n : Nat) (n1 : Nat) (a2 : Int32) (m : hM) : Cn mX8_foreSum 1 [.inr (.inr (12, n)), .inr (.inr (4, n1)), .inl a2] m (JX8_foreSum n n1 a2 m) := by
  refine cn_of (by decide +kernel) (by simp only [List.map, vcat, List.sum_cons, List.sum_nil]; decide) ?_
  unfold JX8_foreSum
  show G mX8_foreSum 1 0 [(0, .inr (.inr (12, n))), (1, .inr (.inr (4, n1))), (2, .inl a2)] [] m _
  refine g_aload_n 0 (kdX8_foreSum 0 rfl) rfl ?_
  refine g_get (v := .inr (.inr (13, n))) (kdX8_foreSum 1 rfl) fX8_9 rfl ?_
  refine g_iconst (v := 0) (kdX8_foreSum 2 rfl) (by decide) ?_
  refine g_iald (kdX8_foreSum 3 rfl) (fun x1 => ?_)
  refine g_iload_n 2 (kdX8_foreSum 4 rfl) rfl ?_
  refine g_imul (kdX8_foreSum 5 rfl) ?_
  refine g_lt (fun x2 => ?_)
  refine g_istore_n (L2 := [(3, .inl x2), (0, .inr (.inr (12, n))), (1, .inr (.inr (4, n1))), (2, .inl a2)]) (kdX8_foreSum 6 rfl) rfl (by decide) ?_
  refine g_iconst (v := 1) (kdX8_foreSum 7 rfl) (by decide) ?_
  refine g_istore (L2 := [(4, .inl 1), (3, .inl x2), (0, .inr (.inr (12, n))), (1, .inr (.inr (4, n1))), (2, .inl a2)]) (kdX8_foreSum 8 rfl) rfl (by decide) ?_
  refine g_fgt [2, 3, 1, 0] rfl (BJX8_foreSum_12  _ n n1 ?_ FU x2 1 m)
  · intro v3 m8
    refine g_iload_n 0 (kdX8_foreSum 32 rfl) rfl ?_
    exact g_iret rfl (kdX8_foreSum 33 rfl)
def bJX8_keepForUnrolling_16 (K16 : Int32 → hM → hR) (K65 : hM → hR) (w0 : Nat) (w1 : Nat) (v3 : Int32) (v4 : Int32) (m : hM) : hR :=
  calI (JX4_backTaps w1 m) fun x5 m4 =>
  if x5 ≤ v4 then (K65 m4) else (if 3 ≤ v4 then (K65 m4) else (if 6 ≤ (v3 + v4) then (K65 m4) else (ald m4 13 w0 (v3 + v4) fun x6 =>
  ast m4 19 w0 v4 x6 fun m7 =>
  K16 (v4 + 1) m7)))
set_option maxRecDepth 20000 in
theorem BbJX8_keepForUnrolling_16 (K16 : Int32 → hM → hR) (K65 : hM → hR) (w0 : Nat) (w1 : Nat) (v3 : Int32) (h16 : ∀ (v4 : Int32) (m : hM), G mX8_keepForUnrolling 1 16 [(0, .inr (.inr (12, w0))), (1, .inr (.inr (4, w1))), (3, .inl v3), (4, .inl v4)] [] m (K16 v4 m)) (h65 : ∀ (m : hM), G mX8_keepForUnrolling 1 65 [] [] m (K65 m)) (v4 : Int32) (m : hM) : G mX8_keepForUnrolling 1 16 [(0, .inr (.inr (12, w0))), (1, .inr (.inr (4, w1))), (3, .inl v3), (4, .inl v4)] [] m (bJX8_keepForUnrolling_16 K16 K65 w0 w1 v3 v4 m) := by
  unfold bJX8_keepForUnrolling_16
  refine g_iload 3 (kdX8_keepForUnrolling 9 rfl) rfl ?_
  refine g_aload_n 1 (kdX8_keepForUnrolling 10 rfl) rfl ?_
  refine g_calI (ck_V (As := []) (S := [.inl v4]) (t := 4) (o := w1) (kdX8_keepForUnrolling 11 rfl) iX4_backTaps lX8_195 rc_4 rfl rfl rfl (by decide) (by simp only [List.map, vcat, List.sum_cons, List.sum_nil]; decide)) (CX4_backTaps w1 m) (fun x5 m4 => ?_)
  refine g_icmp_ge (tgt := 65) (kdX8_keepForUnrolling 12 rfl) (by decide) (fun _ => ?_) (fun _ => ?_)
  · exact g_fgt [] rfl (h65 m4)
  · refine g_iload 3 (kdX8_keepForUnrolling 13 rfl) rfl ?_
    refine g_iconst (v := 3) (kdX8_keepForUnrolling 14 rfl) (by decide) ?_
    refine g_icmp_ge (tgt := 65) (kdX8_keepForUnrolling 15 rfl) (by decide) (fun _ => ?_) (fun _ => ?_)
    · exact g_fgt [] rfl (h65 m4)
    · refine g_iload_n 2 (kdX8_keepForUnrolling 16 rfl) rfl ?_
      refine g_iload 3 (kdX8_keepForUnrolling 17 rfl) rfl ?_
      refine g_iadd (kdX8_keepForUnrolling 18 rfl) ?_
      refine g_bipush (v := 6) (kdX8_keepForUnrolling 19 rfl) (by decide) ?_
      refine g_icmp_ge (tgt := 65) (kdX8_keepForUnrolling 20 rfl) (by decide) (fun _ => ?_) (fun _ => ?_)
      · exact g_fgt [] rfl (h65 m4)
      · refine g_aload_n 0 (kdX8_keepForUnrolling 21 rfl) rfl ?_
        refine g_get (v := .inr (.inr (18, w0))) (kdX8_keepForUnrolling 22 rfl) fX8_30 rfl ?_
        refine g_get (v := .inr (.inr (19, w0))) (kdX8_keepForUnrolling 23 rfl) fX8_231 rfl ?_
        refine g_iload 3 (kdX8_keepForUnrolling 24 rfl) rfl ?_
        refine g_aload_n 0 (kdX8_keepForUnrolling 25 rfl) rfl ?_
        refine g_get (v := .inr (.inr (13, w0))) (kdX8_keepForUnrolling 26 rfl) fX8_9 rfl ?_
        refine g_iload_n 2 (kdX8_keepForUnrolling 27 rfl) rfl ?_
        refine g_iload 3 (kdX8_keepForUnrolling 28 rfl) rfl ?_
        refine g_iadd (kdX8_keepForUnrolling 29 rfl) ?_
        refine g_iald (kdX8_keepForUnrolling 30 rfl) (fun x6 => ?_)
        refine g_iast (kdX8_keepForUnrolling 31 rfl) (fun m7 => ?_)
        refine g_iinc (v := v4 + 1) (L2 := [(4, .inl (v4 + 1)), (0, .inr (.inr (12, w0))), (1, .inr (.inr (4, w1))), (3, .inl v3)]) 3 (kdX8_keepForUnrolling 32 rfl) rfl rfl rfl (by decide) ?_
        refine g_goto (tgt := 16) (kdX8_keepForUnrolling 33 rfl) (by decide) ?_
        exact g_fgt [1, 2, 3, 0] rfl (h16 (v4 + 1) m7)
def JX8_keepForUnrolling_16 (K65 : hM → hR) (w0 : Nat) (w1 : Nat) (v3 : Int32) : Nat → Int32 → hM → hR
  | 0, _, _ => none
  | f + 1, v4, m => bJX8_keepForUnrolling_16 (fun v4 m => JX8_keepForUnrolling_16 K65 w0 w1 v3 f v4 m) K65 w0 w1 v3 v4 m
theorem BJX8_keepForUnrolling_16 (K65 : hM → hR) (w0 : Nat) (w1 : Nat) (v3 : Int32) (h65 : ∀ (m : hM), G mX8_keepForUnrolling 1 65 [] [] m (K65 m)) : ∀ (f : Nat) (v4 : Int32) (m : hM), G mX8_keepForUnrolling 1 16 [(0, .inr (.inr (12, w0))), (1, .inr (.inr (4, w1))), (3, .inl v3), (4, .inl v4)] [] m (JX8_keepForUnrolling_16 K65 w0 w1 v3 f v4 m)
  | 0, _, _ => g_none
  | f + 1, v4, m => BbJX8_keepForUnrolling_16  _ K65 w0 w1 v3 (fun v4 m => BJX8_keepForUnrolling_16  K65 w0 w1 v3 h65 f v4 m) h65 v4 m
def JX8_keepForUnrolling (n : Nat) (n1 : Nat) (a2 : Int32) (m : hM) : hR :=
  stI m 18 n 11 a2 fun m1 =>
  calI (JX4_foreTaps n1 m1) fun x3 m2 =>
  JX8_keepForUnrolling_16 (fun m8 => some (none, m8)) n n1 x3 FU 0 m2
set_option maxRecDepth 20000 in
theorem CX8_keepForUnrolling (n : Nat) (n1 : Nat) (a2 : Int32) (m : hM) : Cn mX8_keepForUnrolling 1 [.inr (.inr (12, n)), .inr (.inr (4, n1)), .inl a2] m (JX8_keepForUnrolling n n1 a2 m) := by
  refine cn_of (by decide +kernel) (by simp only [List.map, vcat, List.sum_cons, List.sum_nil]; decide) ?_
  unfold JX8_keepForUnrolling
  show G mX8_keepForUnrolling 1 0 [(0, .inr (.inr (12, n))), (1, .inr (.inr (4, n1))), (2, .inl a2)] [] m _
  refine g_aload_n 0 (kdX8_keepForUnrolling 0 rfl) rfl ?_
  refine g_get (v := .inr (.inr (18, n))) (kdX8_keepForUnrolling 1 rfl) fX8_30 rfl ?_
  refine g_iload_n 2 (kdX8_keepForUnrolling 2 rfl) rfl ?_
  refine g_putI (kdX8_keepForUnrolling 3 rfl) fX8_229 rfl (fun m1 => ?_)
  refine g_aload_n 1 (kdX8_keepForUnrolling 4 rfl) rfl ?_
  refine g_calI (ck_V (As := []) (S := []) (t := 4) (o := n1) (kdX8_keepForUnrolling 5 rfl) iX4_foreTaps lX8_226 rc_4 rfl rfl rfl (by decide) (by simp only [List.map, vcat, List.sum_cons, List.sum_nil]; decide)) (CX4_foreTaps n1 m1) (fun x3 m2 => ?_)
  refine g_istore_n (L2 := [(3, .inl x3), (0, .inr (.inr (12, n))), (1, .inr (.inr (4, n1))), (2, .inl a2)]) (kdX8_keepForUnrolling 6 rfl) rfl (by decide) ?_
  refine g_iconst (v := 0) (kdX8_keepForUnrolling 7 rfl) (by decide) ?_
  refine g_istore (L2 := [(4, .inl 0), (3, .inl x3), (0, .inr (.inr (12, n))), (1, .inr (.inr (4, n1))), (2, .inl a2)]) (kdX8_keepForUnrolling 8 rfl) rfl (by decide) ?_
  refine g_fgt [2, 3, 1, 0] rfl (BJX8_keepForUnrolling_16  _ n n1 x3 ?_ FU 0 m2)
  · intro m8
    exact g_vret rfl (kdX8_keepForUnrolling 34 rfl)
def JX8_vote (n : Nat) (a1 : Int32) (a2 : Int32) (m : hM) : hR :=
  ald m 14 n a1 fun x1 =>
  ast m 14 n a1 (x1 + a2) fun m2 =>
  ald m2 14 n a1 fun x3 =>
  calI (JX11_sizeOf x3 m2) fun x5 m4 =>
  if x5 < (m4.1 12 n 11) then (some (none, m4)) else (ald m4 13 n a1 fun x6 =>
  ald m4 14 n a1 fun x7 =>
  calI (JX11_signOf x7 m4) fun x9 m8 =>
  calI (JX11_moved x6 x9 (-255) 255 m8) fun x11 m10 =>
  ast m10 13 n a1 x11 fun m12 =>
  ast m12 14 n a1 0 fun m13 =>
  some (none, m13))
set_option maxRecDepth 20000 in
theorem CX8_vote (n : Nat) (a1 : Int32) (a2 : Int32) (m : hM) : Cn mX8_vote 1 [.inr (.inr (12, n)), .inl a1, .inl a2] m (JX8_vote n a1 a2 m) := by
  refine cn_of (by decide +kernel) (by simp only [List.map, vcat, List.sum_cons, List.sum_nil]; decide) ?_
  unfold JX8_vote
  show G mX8_vote 1 0 [(0, .inr (.inr (12, n))), (1, .inl a1), (2, .inl a2)] [] m _
  refine g_aload_n 0 (kdX8_vote 0 rfl) rfl ?_
  refine g_get (v := .inr (.inr (14, n))) (kdX8_vote 1 rfl) fX8_15 rfl ?_
  refine g_iload_n 1 (kdX8_vote 2 rfl) rfl ?_
  refine g_dup2 (kdX8_vote 3 rfl) rfl rfl ?_
  refine g_iald (kdX8_vote 4 rfl) (fun x1 => ?_)
  refine g_iload_n 2 (kdX8_vote 5 rfl) rfl ?_
  refine g_iadd (kdX8_vote 6 rfl) ?_
  refine g_iast (kdX8_vote 7 rfl) (fun m2 => ?_)
  refine g_aload_n 0 (kdX8_vote 8 rfl) rfl ?_
  refine g_get (v := .inr (.inr (14, n))) (kdX8_vote 9 rfl) fX8_15 rfl ?_
  refine g_iload_n 1 (kdX8_vote 10 rfl) rfl ?_
  refine g_iald (kdX8_vote 11 rfl) (fun x3 => ?_)
  refine g_calI (ck_S (As := [.inl x3]) (S := []) (kdX8_vote 12 rfl) iX11_sizeOf lX8_184 rfl rfl rfl (by decide) (by simp only [List.map, vcat, List.sum_cons, List.sum_nil]; decide)) (CX11_sizeOf x3 m2) (fun x5 m4 => ?_)
  refine g_aload_n 0 (kdX8_vote 13 rfl) rfl ?_
  refine g_get (v := .inl (m4.1 12 n 11)) (kdX8_vote 14 rfl) fX8_63 rfl ?_
  refine g_icmp_lt (tgt := 63) (kdX8_vote 15 rfl) (by decide) (fun _ => ?_) (fun _ => ?_)
  · exact g_vret rfl (kdX8_vote 37 rfl)
  · refine g_aload_n 0 (kdX8_vote 16 rfl) rfl ?_
    refine g_get (v := .inr (.inr (13, n))) (kdX8_vote 17 rfl) fX8_9 rfl ?_
    refine g_iload_n 1 (kdX8_vote 18 rfl) rfl ?_
    refine g_aload_n 0 (kdX8_vote 19 rfl) rfl ?_
    refine g_get (v := .inr (.inr (13, n))) (kdX8_vote 20 rfl) fX8_9 rfl ?_
    refine g_iload_n 1 (kdX8_vote 21 rfl) rfl ?_
    refine g_iald (kdX8_vote 22 rfl) (fun x6 => ?_)
    refine g_aload_n 0 (kdX8_vote 23 rfl) rfl ?_
    refine g_get (v := .inr (.inr (14, n))) (kdX8_vote 24 rfl) fX8_15 rfl ?_
    refine g_iload_n 1 (kdX8_vote 25 rfl) rfl ?_
    refine g_iald (kdX8_vote 26 rfl) (fun x7 => ?_)
    refine g_calI (ck_S (As := [.inl x7]) (S := [.inl x6, .inl a1, .inr (.inr (13, n))]) (kdX8_vote 27 rfl) iX11_signOf lX8_178 rfl rfl rfl (by decide) (by simp only [List.map, vcat, List.sum_cons, List.sum_nil]; decide)) (CX11_signOf x7 m4) (fun x9 m8 => ?_)
    refine g_sipush (v := (-255)) (kdX8_vote 28 rfl) (by decide) ?_
    refine g_sipush (v := 255) (kdX8_vote 29 rfl) (by decide) ?_
    refine g_calI (ck_S (As := [.inl x6, .inl x9, .inl (-255), .inl 255]) (S := [.inl a1, .inr (.inr (13, n))]) (kdX8_vote 30 rfl) iX11_moved lX8_245 rfl rfl rfl (by decide) (by simp only [List.map, vcat, List.sum_cons, List.sum_nil]; decide)) (CX11_moved x6 x9 (-255) 255 m8) (fun x11 m10 => ?_)
    refine g_iast (kdX8_vote 31 rfl) (fun m12 => ?_)
    refine g_aload_n 0 (kdX8_vote 32 rfl) rfl ?_
    refine g_get (v := .inr (.inr (14, n))) (kdX8_vote 33 rfl) fX8_15 rfl ?_
    refine g_iload_n 1 (kdX8_vote 34 rfl) rfl ?_
    refine g_iconst (v := 0) (kdX8_vote 35 rfl) (by decide) ?_
    refine g_iast (kdX8_vote 36 rfl) (fun m13 => ?_)
    exact g_vret rfl (kdX8_vote 37 rfl)
def JX8_voteLevel (n : Nat) (a1 : Int32) (m : hM) : hR :=
  stI m 12 n 10 ((m.1 12 n 10) + a1) fun m1 =>
  calI (JX11_sizeOf (m1.1 12 n 10) m1) fun x3 m2 =>
  if x3 < (m2.1 12 n 11) then (some (none, m2)) else (calI (JX11_signOf (m2.1 12 n 10) m2) fun x5 m4 =>
  calI (JX11_moved (m2.1 12 n 9) x5 1 99 m4) fun x7 m6 =>
  stI m6 12 n 9 x7 fun m8 =>
  stI m8 12 n 10 0 fun m9 =>
  some (none, m9))
set_option maxRecDepth 20000 in
theorem CX8_voteLevel (n : Nat) (a1 : Int32) (m : hM) : Cn mX8_voteLevel 1 [.inr (.inr (12, n)), .inl a1] m (JX8_voteLevel n a1 m) := by
  refine cn_of (by decide +kernel) (by simp only [List.map, vcat, List.sum_cons, List.sum_nil]; decide) ?_
  unfold JX8_voteLevel
  show G mX8_voteLevel 1 0 [(0, .inr (.inr (12, n))), (1, .inl a1)] [] m _
  refine g_aload_n 0 (kdX8_voteLevel 0 rfl) rfl ?_
  refine g_dup (kdX8_voteLevel 1 rfl) rfl ?_
  refine g_get (v := .inl (m.1 12 n 10)) (kdX8_voteLevel 2 rfl) fX8_60 rfl ?_
  refine g_iload_n 1 (kdX8_voteLevel 3 rfl) rfl ?_
  refine g_iadd (kdX8_voteLevel 4 rfl) ?_
  refine g_putI (kdX8_voteLevel 5 rfl) fX8_60 rfl (fun m1 => ?_)
  refine g_aload_n 0 (kdX8_voteLevel 6 rfl) rfl ?_
  refine g_get (v := .inl (m1.1 12 n 10)) (kdX8_voteLevel 7 rfl) fX8_60 rfl ?_
  refine g_calI (ck_S (As := [.inl (m1.1 12 n 10)]) (S := []) (kdX8_voteLevel 8 rfl) iX11_sizeOf lX8_184 rfl rfl rfl (by decide) (by simp only [List.map, vcat, List.sum_cons, List.sum_nil]; decide)) (CX11_sizeOf (m1.1 12 n 10) m1) (fun x3 m2 => ?_)
  refine g_aload_n 0 (kdX8_voteLevel 9 rfl) rfl ?_
  refine g_get (v := .inl (m2.1 12 n 11)) (kdX8_voteLevel 10 rfl) fX8_63 rfl ?_
  refine g_icmp_lt (tgt := 50) (kdX8_voteLevel 11 rfl) (by decide) (fun _ => ?_) (fun _ => ?_)
  · exact g_vret rfl (kdX8_voteLevel 25 rfl)
  · refine g_aload_n 0 (kdX8_voteLevel 12 rfl) rfl ?_
    refine g_aload_n 0 (kdX8_voteLevel 13 rfl) rfl ?_
    refine g_get (v := .inl (m2.1 12 n 9)) (kdX8_voteLevel 14 rfl) fX8_57 rfl ?_
    refine g_aload_n 0 (kdX8_voteLevel 15 rfl) rfl ?_
    refine g_get (v := .inl (m2.1 12 n 10)) (kdX8_voteLevel 16 rfl) fX8_60 rfl ?_
    refine g_calI (ck_S (As := [.inl (m2.1 12 n 10)]) (S := [.inl (m2.1 12 n 9), .inr (.inr (12, n))]) (kdX8_voteLevel 17 rfl) iX11_signOf lX8_178 rfl rfl rfl (by decide) (by simp only [List.map, vcat, List.sum_cons, List.sum_nil]; decide)) (CX11_signOf (m2.1 12 n 10) m2) (fun x5 m4 => ?_)
    refine g_iconst (v := 1) (kdX8_voteLevel 18 rfl) (by decide) ?_
    refine g_bipush (v := 99) (kdX8_voteLevel 19 rfl) (by decide) ?_
    refine g_calI (ck_S (As := [.inl (m2.1 12 n 9), .inl x5, .inl 1, .inl 99]) (S := [.inr (.inr (12, n))]) (kdX8_voteLevel 20 rfl) iX11_moved lX8_245 rfl rfl rfl (by decide) (by simp only [List.map, vcat, List.sum_cons, List.sum_nil]; decide)) (CX11_moved (m2.1 12 n 9) x5 1 99 m4) (fun x7 m6 => ?_)
    refine g_putI (kdX8_voteLevel 21 rfl) fX8_57 rfl (fun m8 => ?_)
    refine g_aload_n 0 (kdX8_voteLevel 22 rfl) rfl ?_
    refine g_iconst (v := 0) (kdX8_voteLevel 23 rfl) (by decide) ?_
    refine g_putI (kdX8_voteLevel 24 rfl) fX8_60 rfl (fun m9 => ?_)
    exact g_vret rfl (kdX8_voteLevel 25 rfl)
def JX8_votePhase (n : Nat) (a1 : Int32) (a2 : Int32) (m : hM) : hR :=
  stI m 12 n 8 ((m.1 12 n 8) + a1) fun m1 =>
  calI (JX11_sizeOf (m1.1 12 n 8) m1) fun x3 m2 =>
  if x3 < a2 then (some (none, m2)) else (calI (JX11_signOf (m2.1 12 n 8) m2) fun x5 m4 =>
  calI (JX11_moved (m2.1 12 n 7) x5 0 3 m4) fun x7 m6 =>
  stI m6 12 n 7 x7 fun m8 =>
  stI m8 12 n 8 0 fun m9 =>
  some (none, m9))
set_option maxRecDepth 20000 in
theorem CX8_votePhase (n : Nat) (a1 : Int32) (a2 : Int32) (m : hM) : Cn mX8_votePhase 1 [.inr (.inr (12, n)), .inl a1, .inl a2] m (JX8_votePhase n a1 a2 m) := by
  refine cn_of (by decide +kernel) (by simp only [List.map, vcat, List.sum_cons, List.sum_nil]; decide) ?_
  unfold JX8_votePhase
  show G mX8_votePhase 1 0 [(0, .inr (.inr (12, n))), (1, .inl a1), (2, .inl a2)] [] m _
  refine g_aload_n 0 (kdX8_votePhase 0 rfl) rfl ?_
  refine g_dup (kdX8_votePhase 1 rfl) rfl ?_
  refine g_get (v := .inl (m.1 12 n 8)) (kdX8_votePhase 2 rfl) fX8_48 rfl ?_
  refine g_iload_n 1 (kdX8_votePhase 3 rfl) rfl ?_
  refine g_iadd (kdX8_votePhase 4 rfl) ?_
  refine g_putI (kdX8_votePhase 5 rfl) fX8_48 rfl (fun m1 => ?_)
  refine g_aload_n 0 (kdX8_votePhase 6 rfl) rfl ?_
  refine g_get (v := .inl (m1.1 12 n 8)) (kdX8_votePhase 7 rfl) fX8_48 rfl ?_
  refine g_calI (ck_S (As := [.inl (m1.1 12 n 8)]) (S := []) (kdX8_votePhase 8 rfl) iX11_sizeOf lX8_184 rfl rfl rfl (by decide) (by simp only [List.map, vcat, List.sum_cons, List.sum_nil]; decide)) (CX11_sizeOf (m1.1 12 n 8) m1) (fun x3 m2 => ?_)
  refine g_iload_n 2 (kdX8_votePhase 9 rfl) rfl ?_
  refine g_icmp_lt (tgt := 46) (kdX8_votePhase 10 rfl) (by decide) (fun _ => ?_) (fun _ => ?_)
  · exact g_vret rfl (kdX8_votePhase 24 rfl)
  · refine g_aload_n 0 (kdX8_votePhase 11 rfl) rfl ?_
    refine g_aload_n 0 (kdX8_votePhase 12 rfl) rfl ?_
    refine g_get (v := .inl (m2.1 12 n 7)) (kdX8_votePhase 13 rfl) fX8_45 rfl ?_
    refine g_aload_n 0 (kdX8_votePhase 14 rfl) rfl ?_
    refine g_get (v := .inl (m2.1 12 n 8)) (kdX8_votePhase 15 rfl) fX8_48 rfl ?_
    refine g_calI (ck_S (As := [.inl (m2.1 12 n 8)]) (S := [.inl (m2.1 12 n 7), .inr (.inr (12, n))]) (kdX8_votePhase 16 rfl) iX11_signOf lX8_178 rfl rfl rfl (by decide) (by simp only [List.map, vcat, List.sum_cons, List.sum_nil]; decide)) (CX11_signOf (m2.1 12 n 8) m2) (fun x5 m4 => ?_)
    refine g_iconst (v := 0) (kdX8_votePhase 17 rfl) (by decide) ?_
    refine g_iconst (v := 3) (kdX8_votePhase 18 rfl) (by decide) ?_
    refine g_calI (ck_S (As := [.inl (m2.1 12 n 7), .inl x5, .inl 0, .inl 3]) (S := [.inr (.inr (12, n))]) (kdX8_votePhase 19 rfl) iX11_moved lX8_245 rfl rfl rfl (by decide) (by simp only [List.map, vcat, List.sum_cons, List.sum_nil]; decide)) (CX11_moved (m2.1 12 n 7) x5 0 3 m4) (fun x7 m6 => ?_)
    refine g_putI (kdX8_votePhase 20 rfl) fX8_45 rfl (fun m8 => ?_)
    refine g_aload_n 0 (kdX8_votePhase 21 rfl) rfl ?_
    refine g_iconst (v := 0) (kdX8_votePhase 22 rfl) (by decide) ?_
    refine g_putI (kdX8_votePhase 23 rfl) fX8_48 rfl (fun m9 => ?_)
    exact g_vret rfl (kdX8_votePhase 24 rfl)
def bJX8_learn_9 (K9 : Int32 → hM → hR) (K47 : hM → hR) (w0 : Nat) (w1 : Nat) (v2 : Int32) (v3 : Int32) (v4 : Int32) (v5 : Int32) (m : hM) : hR :=
  if v4 ≤ v5 then (K47 m) else (if 3 ≤ v5 then (K47 m) else (ald m 17 w0 v5 fun x3 =>
  calI (JX11_signOf x3 m) fun x5 m4 =>
  calV (JX8_vote w0 v5 ((-x5) * v3) m4) fun m6 =>
  K9 (v5 + 1) m6))
set_option maxRecDepth 20000 in
theorem BbJX8_learn_9 (K9 : Int32 → hM → hR) (K47 : hM → hR) (w0 : Nat) (w1 : Nat) (v2 : Int32) (v3 : Int32) (v4 : Int32) (h9 : ∀ (v5 : Int32) (m : hM), G mX8_learn 2 9 [(0, .inr (.inr (12, w0))), (1, .inr (.inr (4, w1))), (2, .inl v2), (3, .inl v3), (4, .inl v4), (5, .inl v5)] [] m (K9 v5 m)) (h47 : ∀ (m : hM), G mX8_learn 2 47 [(0, .inr (.inr (12, w0))), (1, .inr (.inr (4, w1))), (2, .inl v2), (3, .inl v3), (4, .inl v4)] [] m (K47 m)) (v5 : Int32) (m : hM) : G mX8_learn 2 9 [(0, .inr (.inr (12, w0))), (1, .inr (.inr (4, w1))), (2, .inl v2), (3, .inl v3), (4, .inl v4), (5, .inl v5)] [] m (bJX8_learn_9 K9 K47 w0 w1 v2 v3 v4 v5 m) := by
  unfold bJX8_learn_9
  refine g_iload 5 (kdX8_learn 5 rfl) rfl ?_
  refine g_iload 4 (kdX8_learn 6 rfl) rfl ?_
  refine g_icmp_ge (tgt := 47) (kdX8_learn 7 rfl) (by decide) (fun _ => ?_) (fun _ => ?_)
  · exact g_fgt [0, 1, 2, 3, 4] rfl (h47 m)
  · refine g_iload 5 (kdX8_learn 8 rfl) rfl ?_
    refine g_iconst (v := 3) (kdX8_learn 9 rfl) (by decide) ?_
    refine g_icmp_ge (tgt := 47) (kdX8_learn 10 rfl) (by decide) (fun _ => ?_) (fun _ => ?_)
    · exact g_fgt [0, 1, 2, 3, 4] rfl (h47 m)
    · refine g_aload_n 0 (kdX8_learn 11 rfl) rfl ?_
      refine g_iload 5 (kdX8_learn 12 rfl) rfl ?_
      refine g_aload_n 0 (kdX8_learn 13 rfl) rfl ?_
      refine g_get (v := .inr (.inr (17, w0))) (kdX8_learn 14 rfl) fX8_24 rfl ?_
      refine g_iload 5 (kdX8_learn 15 rfl) rfl ?_
      refine g_iald (kdX8_learn 16 rfl) (fun x3 => ?_)
      refine g_calI (ck_S (As := [.inl x3]) (S := [.inl v5, .inr (.inr (12, w0))]) (kdX8_learn 17 rfl) iX11_signOf lX8_178 rfl rfl rfl (by decide) (by simp only [List.map, vcat, List.sum_cons, List.sum_nil]; decide)) (CX11_signOf x3 m) (fun x5 m4 => ?_)
      refine g_ineg (kdX8_learn 18 rfl) ?_
      refine g_iload_n 3 (kdX8_learn 19 rfl) rfl ?_
      refine g_imul (kdX8_learn 20 rfl) ?_
      refine g_calV (ck_V (As := [.inl v5, .inl ((-x5) * v3)]) (S := []) (t := 12) (o := w0) (kdX8_learn 21 rfl) iX8_vote lX8_234 rc_12 rfl rfl rfl (by decide) (by simp only [List.map, vcat, List.sum_cons, List.sum_nil]; decide)) (CX8_vote w0 v5 ((-x5) * v3) m4) (fun m6 => ?_)
      refine g_iinc (v := v5 + 1) (L2 := [(5, .inl (v5 + 1)), (0, .inr (.inr (12, w0))), (1, .inr (.inr (4, w1))), (2, .inl v2), (3, .inl v3), (4, .inl v4)]) 5 (kdX8_learn 22 rfl) rfl rfl rfl (by decide) ?_
      refine g_goto (tgt := 9) (kdX8_learn 23 rfl) (by decide) ?_
      exact g_fgt [1, 2, 3, 4, 5, 0] rfl (h9 (v5 + 1) m6)
def JX8_learn_9 (K47 : hM → hR) (w0 : Nat) (w1 : Nat) (v2 : Int32) (v3 : Int32) (v4 : Int32) : Nat → Int32 → hM → hR
  | 0, _, _ => none
  | f + 1, v5, m => bJX8_learn_9 (fun v5 m => JX8_learn_9 K47 w0 w1 v2 v3 v4 f v5 m) K47 w0 w1 v2 v3 v4 v5 m
theorem BJX8_learn_9 (K47 : hM → hR) (w0 : Nat) (w1 : Nat) (v2 : Int32) (v3 : Int32) (v4 : Int32) (h47 : ∀ (m : hM), G mX8_learn 2 47 [(0, .inr (.inr (12, w0))), (1, .inr (.inr (4, w1))), (2, .inl v2), (3, .inl v3), (4, .inl v4)] [] m (K47 m)) : ∀ (f : Nat) (v5 : Int32) (m : hM), G mX8_learn 2 9 [(0, .inr (.inr (12, w0))), (1, .inr (.inr (4, w1))), (2, .inl v2), (3, .inl v3), (4, .inl v4), (5, .inl v5)] [] m (JX8_learn_9 K47 w0 w1 v2 v3 v4 f v5 m)
  | 0, _, _ => g_none
  | f + 1, v5, m => BbJX8_learn_9  _ K47 w0 w1 v2 v3 v4 (fun v5 m => BJX8_learn_9  K47 w0 w1 v2 v3 v4 h47 f v5 m) h47 v5 m
def bJX8_learn_50 (K50 : Int32 → hM → hR) (K99 : hM → hR) (w0 : Nat) (w1 : Nat) (v2 : Int32) (v3 : Int32) (v4 : Int32) (v5 : Int32) (m : hM) : hR :=
  calI (JX4_backTaps w1 m) fun x9 m8 =>
  if x9 ≤ v5 then (K99 m8) else (if 3 ≤ v5 then (K99 m8) else (if 6 ≤ (v4 + v5) then (K99 m8) else (ald m8 16 w0 v5 fun x10 =>
  calV (JX8_vote w0 (v4 + v5) (x10 * v3) m8) fun m11 =>
  K50 (v5 + 1) m11)))
set_option maxRecDepth 20000 in
theorem BbJX8_learn_50 (K50 : Int32 → hM → hR) (K99 : hM → hR) (w0 : Nat) (w1 : Nat) (v2 : Int32) (v3 : Int32) (v4 : Int32) (h50 : ∀ (v5 : Int32) (m : hM), G mX8_learn 2 50 [(0, .inr (.inr (12, w0))), (1, .inr (.inr (4, w1))), (2, .inl v2), (3, .inl v3), (4, .inl v4), (5, .inl v5)] [] m (K50 v5 m)) (h99 : ∀ (m : hM), G mX8_learn 2 99 [(0, .inr (.inr (12, w0))), (1, .inr (.inr (4, w1))), (2, .inl v2), (3, .inl v3)] [] m (K99 m)) (v5 : Int32) (m : hM) : G mX8_learn 2 50 [(0, .inr (.inr (12, w0))), (1, .inr (.inr (4, w1))), (2, .inl v2), (3, .inl v3), (4, .inl v4), (5, .inl v5)] [] m (bJX8_learn_50 K50 K99 w0 w1 v2 v3 v4 v5 m) := by
  unfold bJX8_learn_50
  refine g_iload 5 (kdX8_learn 26 rfl) rfl ?_
  refine g_aload_n 1 (kdX8_learn 27 rfl) rfl ?_
  refine g_calI (ck_V (As := []) (S := [.inl v5]) (t := 4) (o := w1) (kdX8_learn 28 rfl) iX4_backTaps lX8_195 rc_4 rfl rfl rfl (by decide) (by simp only [List.map, vcat, List.sum_cons, List.sum_nil]; decide)) (CX4_backTaps w1 m) (fun x9 m8 => ?_)
  refine g_icmp_ge (tgt := 99) (kdX8_learn 29 rfl) (by decide) (fun _ => ?_) (fun _ => ?_)
  · exact g_fgt [0, 1, 2, 3] rfl (h99 m8)
  · refine g_iload 5 (kdX8_learn 30 rfl) rfl ?_
    refine g_iconst (v := 3) (kdX8_learn 31 rfl) (by decide) ?_
    refine g_icmp_ge (tgt := 99) (kdX8_learn 32 rfl) (by decide) (fun _ => ?_) (fun _ => ?_)
    · exact g_fgt [0, 1, 2, 3] rfl (h99 m8)
    · refine g_iload 4 (kdX8_learn 33 rfl) rfl ?_
      refine g_iload 5 (kdX8_learn 34 rfl) rfl ?_
      refine g_iadd (kdX8_learn 35 rfl) ?_
      refine g_bipush (v := 6) (kdX8_learn 36 rfl) (by decide) ?_
      refine g_icmp_ge (tgt := 99) (kdX8_learn 37 rfl) (by decide) (fun _ => ?_) (fun _ => ?_)
      · exact g_fgt [0, 1, 2, 3] rfl (h99 m8)
      · refine g_aload_n 0 (kdX8_learn 38 rfl) rfl ?_
        refine g_iload 4 (kdX8_learn 39 rfl) rfl ?_
        refine g_iload 5 (kdX8_learn 40 rfl) rfl ?_
        refine g_iadd (kdX8_learn 41 rfl) ?_
        refine g_aload_n 0 (kdX8_learn 42 rfl) rfl ?_
        refine g_get (v := .inr (.inr (16, w0))) (kdX8_learn 43 rfl) fX8_21 rfl ?_
        refine g_iload 5 (kdX8_learn 44 rfl) rfl ?_
        refine g_iald (kdX8_learn 45 rfl) (fun x10 => ?_)
        refine g_iload_n 3 (kdX8_learn 46 rfl) rfl ?_
        refine g_imul (kdX8_learn 47 rfl) ?_
        refine g_calV (ck_V (As := [.inl (v4 + v5), .inl (x10 * v3)]) (S := []) (t := 12) (o := w0) (kdX8_learn 48 rfl) iX8_vote lX8_234 rc_12 rfl rfl rfl (by decide) (by simp only [List.map, vcat, List.sum_cons, List.sum_nil]; decide)) (CX8_vote w0 (v4 + v5) (x10 * v3) m8) (fun m11 => ?_)
        refine g_iinc (v := v5 + 1) (L2 := [(5, .inl (v5 + 1)), (0, .inr (.inr (12, w0))), (1, .inr (.inr (4, w1))), (2, .inl v2), (3, .inl v3), (4, .inl v4)]) 5 (kdX8_learn 49 rfl) rfl rfl rfl (by decide) ?_
        refine g_goto (tgt := 50) (kdX8_learn 50 rfl) (by decide) ?_
        exact g_fgt [1, 2, 3, 4, 5, 0] rfl (h50 (v5 + 1) m11)
def JX8_learn_50 (K99 : hM → hR) (w0 : Nat) (w1 : Nat) (v2 : Int32) (v3 : Int32) (v4 : Int32) : Nat → Int32 → hM → hR
  | 0, _, _ => none
  | f + 1, v5, m => bJX8_learn_50 (fun v5 m => JX8_learn_50 K99 w0 w1 v2 v3 v4 f v5 m) K99 w0 w1 v2 v3 v4 v5 m
theorem BJX8_learn_50 (K99 : hM → hR) (w0 : Nat) (w1 : Nat) (v2 : Int32) (v3 : Int32) (v4 : Int32) (h99 : ∀ (m : hM), G mX8_learn 2 99 [(0, .inr (.inr (12, w0))), (1, .inr (.inr (4, w1))), (2, .inl v2), (3, .inl v3)] [] m (K99 m)) : ∀ (f : Nat) (v5 : Int32) (m : hM), G mX8_learn 2 50 [(0, .inr (.inr (12, w0))), (1, .inr (.inr (4, w1))), (2, .inl v2), (3, .inl v3), (4, .inl v4), (5, .inl v5)] [] m (JX8_learn_50 K99 w0 w1 v2 v3 v4 f v5 m)
  | 0, _, _ => g_none
  | f + 1, v5, m => BbJX8_learn_50  _ K99 w0 w1 v2 v3 v4 (fun v5 m => BJX8_learn_50  K99 w0 w1 v2 v3 v4 h99 f v5 m) h99 v5 m
def JX8_learn_116 (w0 : Nat) (w1 : Nat) (v2 : Int32) (v3 : Int32) (m : hM) : hR :=
  calI (JX4_ruleOf w1 11 m) fun x16 m15 =>
  if x16 ≤ 0 then (some (none, m15)) else (ald m15 16 w0 0 fun x17 =>
  calV (JX8_votePhase w0 ((v3 * x17) - ((m15.1 18 w0 12) * v2)) x16 m15) fun m18 =>
  some (none, m18))
set_option maxRecDepth 20000 in
theorem BX8_learn_116 (w0 : Nat) (w1 : Nat) (v2 : Int32) (v3 : Int32) (m : hM) : G mX8_learn 2 116 [(0, .inr (.inr (12, w0))), (1, .inr (.inr (4, w1))), (2, .inl v2), (3, .inl v3)] [] m (JX8_learn_116 w0 w1 v2 v3 m) := by
  unfold JX8_learn_116
  refine g_aload_n 1 (kdX8_learn 61 rfl) rfl ?_
  refine g_bipush (v := 11) (kdX8_learn 62 rfl) (by decide) ?_
  refine g_calI (ck_V (As := [.inl 11]) (S := []) (t := 4) (o := w1) (kdX8_learn 63 rfl) iX4_ruleOf lX8_51 rc_4 rfl rfl rfl (by decide) (by simp only [List.map, vcat, List.sum_cons, List.sum_nil]; decide)) (CX4_ruleOf w1 11 m) (fun x16 m15 => ?_)
  refine g_istore (L2 := [(5, .inl x16), (0, .inr (.inr (12, w0))), (1, .inr (.inr (4, w1))), (2, .inl v2), (3, .inl v3)]) (kdX8_learn 64 rfl) rfl (by decide) ?_
  refine g_iload 0 (kdX8_learn 65 rfl) rfl ?_
  refine g_if_le (tgt := 153) (kdX8_learn 66 rfl) (by decide) (fun _ => ?_) (fun _ => ?_)
  · exact g_vret rfl (kdX8_learn 82 rfl)
  · refine g_aload_n 1 (kdX8_learn 67 rfl) rfl ?_
    refine g_iload_n 4 (kdX8_learn 68 rfl) rfl ?_
    refine g_aload_n 1 (kdX8_learn 69 rfl) rfl ?_
    refine g_get (v := .inr (.inr (16, w0))) (kdX8_learn 70 rfl) fX8_21 rfl ?_
    refine g_iconst (v := 0) (kdX8_learn 71 rfl) (by decide) ?_
    refine g_iald (kdX8_learn 72 rfl) (fun x17 => ?_)
    refine g_imul (kdX8_learn 73 rfl) ?_
    refine g_aload_n 1 (kdX8_learn 74 rfl) rfl ?_
    refine g_get (v := .inr (.inr (18, w0))) (kdX8_learn 75 rfl) fX8_30 rfl ?_
    refine g_get (v := .inl (m15.1 18 w0 12)) (kdX8_learn 76 rfl) fX8_208 rfl ?_
    refine g_iload_n 3 (kdX8_learn 77 rfl) rfl ?_
    refine g_imul (kdX8_learn 78 rfl) ?_
    refine g_isub (kdX8_learn 79 rfl) ?_
    refine g_iload 0 (kdX8_learn 80 rfl) rfl ?_
    refine g_calV (ck_V (As := [.inl ((v3 * x17) - ((m15.1 18 w0 12) * v2)), .inl x16]) (S := []) (t := 12) (o := w0) (kdX8_learn 81 rfl) iX8_votePhase lX8_242 rc_12 rfl rfl rfl (by decide) (by simp only [List.map, vcat, List.sum_cons, List.sum_nil]; decide)) (CX8_votePhase w0 ((v3 * x17) - ((m15.1 18 w0 12) * v2)) x16 m15) (fun m18 => ?_)
    exact g_vret rfl (kdX8_learn 82 rfl)
def JX8_learn_99 (w0 : Nat) (w1 : Nat) (v2 : Int32) (v3 : Int32) (m : hM) : hR :=
  calI (JX4_ruleOf w1 10 m) fun x14 m13 =>
  if x14 = 1 then (calV (JX8_voteLevel w0 (v2 * v3) m13) fun m19 =>
  JX8_learn_116 w0 w1 v2 v3 m19) else (JX8_learn_116 w0 w1 v2 v3 m13)
set_option maxRecDepth 20000 in
theorem BX8_learn_99 (w0 : Nat) (w1 : Nat) (v2 : Int32) (v3 : Int32) (m : hM) : G mX8_learn 2 99 [(0, .inr (.inr (12, w0))), (1, .inr (.inr (4, w1))), (2, .inl v2), (3, .inl v3)] [] m (JX8_learn_99 w0 w1 v2 v3 m) := by
  unfold JX8_learn_99
  refine g_aload_n 1 (kdX8_learn 51 rfl) rfl ?_
  refine g_bipush (v := 10) (kdX8_learn 52 rfl) (by decide) ?_
  refine g_calI (ck_V (As := [.inl 10]) (S := []) (t := 4) (o := w1) (kdX8_learn 53 rfl) iX4_ruleOf lX8_51 rc_4 rfl rfl rfl (by decide) (by simp only [List.map, vcat, List.sum_cons, List.sum_nil]; decide)) (CX4_ruleOf w1 10 m) (fun x14 m13 => ?_)
  refine g_iconst (v := 1) (kdX8_learn 54 rfl) (by decide) ?_
  refine g_icmp_ne (tgt := 116) (kdX8_learn 55 rfl) (by decide) (fun _ => ?_) (fun _ => ?_)
  · exact g_fgt [0, 1, 2, 3] rfl (BX8_learn_116 w0 w1 v2 v3 m13)
  · refine g_aload_n 0 (kdX8_learn 56 rfl) rfl ?_
    refine g_iload_n 2 (kdX8_learn 57 rfl) rfl ?_
    refine g_iload_n 3 (kdX8_learn 58 rfl) rfl ?_
    refine g_imul (kdX8_learn 59 rfl) ?_
    refine g_calV (ck_V (As := [.inl (v2 * v3)]) (S := []) (t := 12) (o := w0) (kdX8_learn 60 rfl) iX8_voteLevel lX8_238 rc_12 rfl rfl rfl (by decide) (by simp only [List.map, vcat, List.sum_cons, List.sum_nil]; decide)) (CX8_voteLevel w0 (v2 * v3) m13) (fun m19 => ?_)
    exact g_fgt [0, 1, 2, 3] rfl (BX8_learn_116 w0 w1 v2 v3 m19)
def JX8_learn_47 (w0 : Nat) (w1 : Nat) (v2 : Int32) (v3 : Int32) (v4 : Int32) (m : hM) : hR :=
  JX8_learn_50 (fun m12 => JX8_learn_99 w0 w1 v2 v3 m12) w0 w1 v2 v3 v4 FU 0 m
set_option maxRecDepth 20000 in
theorem BX8_learn_47 (w0 : Nat) (w1 : Nat) (v2 : Int32) (v3 : Int32) (v4 : Int32) (m : hM) : G mX8_learn 2 47 [(0, .inr (.inr (12, w0))), (1, .inr (.inr (4, w1))), (2, .inl v2), (3, .inl v3), (4, .inl v4)] [] m (JX8_learn_47 w0 w1 v2 v3 v4 m) := by
  unfold JX8_learn_47
  refine g_iconst (v := 0) (kdX8_learn 24 rfl) (by decide) ?_
  refine g_istore (L2 := [(5, .inl 0), (0, .inr (.inr (12, w0))), (1, .inr (.inr (4, w1))), (2, .inl v2), (3, .inl v3), (4, .inl v4)]) (kdX8_learn 25 rfl) rfl (by decide) ?_
  refine g_fgt [1, 2, 3, 4, 5, 0] rfl (BJX8_learn_50  _ w0 w1 v2 v3 v4 ?_ FU 0 m)
  · intro m12
    exact g_fgt [0, 1, 2, 3] rfl (BX8_learn_99 w0 w1 v2 v3 m12)
def JX8_learn (n : Nat) (n1 : Nat) (a2 : Int32) (a3 : Int32) (m : hM) : hR :=
  calI (JX4_foreTaps n1 m) fun x2 m1 =>
  JX8_learn_9 (fun m7 => JX8_learn_47 n n1 a2 a3 x2 m7) n n1 a2 a3 x2 FU 0 m1
set_option maxRecDepth 20000 in
theorem CX8_learn (n : Nat) (n1 : Nat) (a2 : Int32) (a3 : Int32) (m : hM) : Cn mX8_learn 2 [.inr (.inr (12, n)), .inr (.inr (4, n1)), .inl a2, .inl a3] m (JX8_learn n n1 a2 a3 m) := by
  refine cn_of (by decide +kernel) (by simp only [List.map, vcat, List.sum_cons, List.sum_nil]; decide) ?_
  unfold JX8_learn
  show G mX8_learn 2 0 [(0, .inr (.inr (12, n))), (1, .inr (.inr (4, n1))), (2, .inl a2), (3, .inl a3)] [] m _
  refine g_aload_n 1 (kdX8_learn 0 rfl) rfl ?_
  refine g_calI (ck_V (As := []) (S := []) (t := 4) (o := n1) (kdX8_learn 1 rfl) iX4_foreTaps lX8_226 rc_4 rfl rfl rfl (by decide) (by simp only [List.map, vcat, List.sum_cons, List.sum_nil]; decide)) (CX4_foreTaps n1 m) (fun x2 m1 => ?_)
  refine g_istore (L2 := [(4, .inl x2), (0, .inr (.inr (12, n))), (1, .inr (.inr (4, n1))), (2, .inl a2), (3, .inl a3)]) (kdX8_learn 2 rfl) rfl (by decide) ?_
  refine g_iconst (v := 0) (kdX8_learn 3 rfl) (by decide) ?_
  refine g_istore (L2 := [(5, .inl 0), (4, .inl x2), (0, .inr (.inr (12, n))), (1, .inr (.inr (4, n1))), (2, .inl a2), (3, .inl a3)]) (kdX8_learn 4 rfl) rfl (by decide) ?_
  refine g_fgt [2, 3, 4, 5, 1, 0] rfl (BJX8_learn_9  _ n n1 a2 a3 x2 ?_ FU 0 m1)
  · intro m7
    exact g_fgt [0, 1, 2, 3, 4] rfl (BX8_learn_47 n n1 a2 a3 x2 m7)
def bJX8_sampleWith_14 (K14 : Int32 → Int32 → hM → hR) (K51 : Int32 → hM → hR) (w0 : Nat) (w1 : Nat) (v3 : Int32) (v4 : Int32) (m : hM) : hR :=
  if 6 ≤ v4 then (K51 v3 m) else (calI (JX4_pulseAt w1 ((4 * v4) + (m.1 12 w0 7)) m) fun x2 m1 =>
  ald m1 15 w0 v4 fun x3 =>
  lt (v3 + (x2 * x3)) fun x4 =>
  K14 x4 (v4 + 1) m1)
set_option maxRecDepth 20000 in
theorem BbJX8_sampleWith_14 (K14 : Int32 → Int32 → hM → hR) (K51 : Int32 → hM → hR) (w0 : Nat) (w1 : Nat) (h14 : ∀ (v3 : Int32) (v4 : Int32) (m : hM), G mX8_sampleWith 1 14 [(0, .inr (.inr (12, w0))), (1, .inr (.inr (4, w1))), (3, .inl v3), (4, .inl v4)] [] m (K14 v3 v4 m)) (h51 : ∀ (v3 : Int32) (m : hM), G mX8_sampleWith 1 51 [(3, .inl v3)] [] m (K51 v3 m)) (v3 : Int32) (v4 : Int32) (m : hM) : G mX8_sampleWith 1 14 [(0, .inr (.inr (12, w0))), (1, .inr (.inr (4, w1))), (3, .inl v3), (4, .inl v4)] [] m (bJX8_sampleWith_14 K14 K51 w0 w1 v3 v4 m) := by
  unfold bJX8_sampleWith_14
  refine g_iload 3 (kdX8_sampleWith 9 rfl) rfl ?_
  refine g_bipush (v := 6) (kdX8_sampleWith 10 rfl) (by decide) ?_
  refine g_icmp_ge (tgt := 51) (kdX8_sampleWith 11 rfl) (by decide) (fun _ => ?_) (fun _ => ?_)
  · exact g_fgt [2] rfl (h51 v3 m)
  · refine g_iload_n 2 (kdX8_sampleWith 12 rfl) rfl ?_
    refine g_aload_n 1 (kdX8_sampleWith 13 rfl) rfl ?_
    refine g_iconst (v := 4) (kdX8_sampleWith 14 rfl) (by decide) ?_
    refine g_iload 3 (kdX8_sampleWith 15 rfl) rfl ?_
    refine g_imul (kdX8_sampleWith 16 rfl) ?_
    refine g_aload_n 0 (kdX8_sampleWith 17 rfl) rfl ?_
    refine g_get (v := .inl (m.1 12 w0 7)) (kdX8_sampleWith 18 rfl) fX8_45 rfl ?_
    refine g_iadd (kdX8_sampleWith 19 rfl) ?_
    refine g_calI (ck_V (As := [.inl ((4 * v4) + (m.1 12 w0 7))]) (S := [.inl v3]) (t := 4) (o := w1) (kdX8_sampleWith 20 rfl) iX4_pulseAt lX8_223 rc_4 rfl rfl rfl (by decide) (by simp only [List.map, vcat, List.sum_cons, List.sum_nil]; decide)) (CX4_pulseAt w1 ((4 * v4) + (m.1 12 w0 7)) m) (fun x2 m1 => ?_)
    refine g_aload_n 0 (kdX8_sampleWith 21 rfl) rfl ?_
    refine g_get (v := .inr (.inr (15, w0))) (kdX8_sampleWith 22 rfl) fX8_18 rfl ?_
    refine g_iload 3 (kdX8_sampleWith 23 rfl) rfl ?_
    refine g_iald (kdX8_sampleWith 24 rfl) (fun x3 => ?_)
    refine g_imul (kdX8_sampleWith 25 rfl) ?_
    refine g_iadd (kdX8_sampleWith 26 rfl) ?_
    refine g_lt (fun x4 => ?_)
    refine g_istore_n (L2 := [(3, .inl x4), (0, .inr (.inr (12, w0))), (1, .inr (.inr (4, w1))), (4, .inl v4)]) (kdX8_sampleWith 27 rfl) rfl (by decide) ?_
    refine g_iinc (v := v4 + 1) (L2 := [(4, .inl (v4 + 1)), (3, .inl x4), (0, .inr (.inr (12, w0))), (1, .inr (.inr (4, w1)))]) 3 (kdX8_sampleWith 28 rfl) rfl rfl rfl (by decide) ?_
    refine g_goto (tgt := 14) (kdX8_sampleWith 29 rfl) (by decide) ?_
    exact g_fgt [2, 3, 1, 0] rfl (h14 x4 (v4 + 1) m1)
def JX8_sampleWith_14 (K51 : Int32 → hM → hR) (w0 : Nat) (w1 : Nat) : Nat → Int32 → Int32 → hM → hR
  | 0, _, _, _ => none
  | f + 1, v3, v4, m => bJX8_sampleWith_14 (fun v3 v4 m => JX8_sampleWith_14 K51 w0 w1 f v3 v4 m) K51 w0 w1 v3 v4 m
theorem BJX8_sampleWith_14 (K51 : Int32 → hM → hR) (w0 : Nat) (w1 : Nat) (h51 : ∀ (v3 : Int32) (m : hM), G mX8_sampleWith 1 51 [(3, .inl v3)] [] m (K51 v3 m)) : ∀ (f : Nat) (v3 : Int32) (v4 : Int32) (m : hM), G mX8_sampleWith 1 14 [(0, .inr (.inr (12, w0))), (1, .inr (.inr (4, w1))), (3, .inl v3), (4, .inl v4)] [] m (JX8_sampleWith_14 K51 w0 w1 f v3 v4 m)
  | 0, _, _, _ => g_none
  | f + 1, v3, v4, m => BbJX8_sampleWith_14  _ K51 w0 w1 (fun v3 v4 m => BJX8_sampleWith_14  K51 w0 w1 h51 f v3 v4 m) h51 v3 v4 m
def JX8_sampleWith (n : Nat) (n1 : Nat) (a2 : Int32) (m : hM) : hR :=
  if (m.1 12 n 16) = 0 then (JX8_sampleWith_14 (fun v3 m5 => some (some (.inl v3), m5)) n n1 FU a2 0 m) else (some (some (.inl 0), m))
set_option maxRecDepth 20000 in
theorem CX8_sampleWith (n : Nat) (n1 : Nat) (a2 : Int32) (m : hM) : Cn mX8_sampleWith 1 [.inr (.inr (12, n)), .inr (.inr (4, n1)), .inl a2] m (JX8_sampleWith n n1 a2 m) := by
  refine cn_of (by decide +kernel) (by simp only [List.map, vcat, List.sum_cons, List.sum_nil]; decide) ?_
  unfold JX8_sampleWith
  show G mX8_sampleWith 1 0 [(0, .inr (.inr (12, n))), (1, .inr (.inr (4, n1))), (2, .inl a2)] [] m _
  refine g_aload_n 0 (kdX8_sampleWith 0 rfl) rfl ?_
  refine g_get (v := .inl (m.1 12 n 16)) (kdX8_sampleWith 1 rfl) fX8_79 rfl ?_
  refine g_if_eq (tgt := 9) (kdX8_sampleWith 2 rfl) (by decide) (fun _ => ?_) (fun _ => ?_)
  · refine g_iload_n 2 (kdX8_sampleWith 5 rfl) rfl ?_
    refine g_istore_n (L2 := [(3, .inl a2), (0, .inr (.inr (12, n))), (1, .inr (.inr (4, n1))), (2, .inl a2)]) (kdX8_sampleWith 6 rfl) rfl (by decide) ?_
    refine g_iconst (v := 0) (kdX8_sampleWith 7 rfl) (by decide) ?_
    refine g_istore (L2 := [(4, .inl 0), (3, .inl a2), (0, .inr (.inr (12, n))), (1, .inr (.inr (4, n1))), (2, .inl a2)]) (kdX8_sampleWith 8 rfl) rfl (by decide) ?_
    refine g_fgt [2, 3, 1, 0] rfl (BJX8_sampleWith_14  _ n n1 ?_ FU a2 0 m)
    · intro v3 m5
      refine g_iload_n 0 (kdX8_sampleWith 30 rfl) rfl ?_
      exact g_iret rfl (kdX8_sampleWith 31 rfl)
  · refine g_iconst (v := 0) (kdX8_sampleWith 3 rfl) (by decide) ?_
    exact g_iret rfl (kdX8_sampleWith 4 rfl)
def JX8_truthNow (n : Nat) (n1 : Nat) (m : hM) : hR :=
  calI (JX4_delay n1 m) fun x2 m1 =>
  calI (JX11_within x2 0 5 m1) fun x4 m3 =>
  if x4 = 0 then (some (some (.inl 0), m3)) else (ald m3 15 n x2 fun x5 =>
  some (some (.inl x5), m3))
set_option maxRecDepth 20000 in
theorem CX8_truthNow (n : Nat) (n1 : Nat) (m : hM) : Cn mX8_truthNow 1 [.inr (.inr (12, n)), .inr (.inr (4, n1))] m (JX8_truthNow n n1 m) := by
  refine cn_of (by decide +kernel) (by simp only [List.map, vcat, List.sum_cons, List.sum_nil]; decide) ?_
  unfold JX8_truthNow
  show G mX8_truthNow 1 0 [(0, .inr (.inr (12, n))), (1, .inr (.inr (4, n1)))] [] m _
  refine g_aload_n 1 (kdX8_truthNow 0 rfl) rfl ?_
  refine g_calI (ck_V (As := []) (S := []) (t := 4) (o := n1) (kdX8_truthNow 1 rfl) iX4_delay lX8_220 rc_4 rfl rfl rfl (by decide) (by simp only [List.map, vcat, List.sum_cons, List.sum_nil]; decide)) (CX4_delay n1 m) (fun x2 m1 => ?_)
  refine g_istore_n (L2 := [(2, .inl x2), (0, .inr (.inr (12, n))), (1, .inr (.inr (4, n1)))]) (kdX8_truthNow 2 rfl) rfl (by decide) ?_
  refine g_iload_n 0 (kdX8_truthNow 3 rfl) rfl ?_
  refine g_iconst (v := 0) (kdX8_truthNow 4 rfl) (by decide) ?_
  refine g_iconst (v := 5) (kdX8_truthNow 5 rfl) (by decide) ?_
  refine g_calI (ck_S (As := [.inl x2, .inl 0, .inl 5]) (S := []) (kdX8_truthNow 6 rfl) iX11_within lX8_124 rfl rfl rfl (by decide) (by simp only [List.map, vcat, List.sum_cons, List.sum_nil]; decide)) (CX11_within x2 0 5 m1) (fun x4 m3 => ?_)
  refine g_if_eq (tgt := 23) (kdX8_truthNow 7 rfl) (by decide) (fun _ => ?_) (fun _ => ?_)
  · refine g_iconst (v := 0) (kdX8_truthNow 13 rfl) (by decide) ?_
    exact g_iret rfl (kdX8_truthNow 14 rfl)
  · refine g_aload_n 1 (kdX8_truthNow 8 rfl) rfl ?_
    refine g_get (v := .inr (.inr (15, n))) (kdX8_truthNow 9 rfl) fX8_18 rfl ?_
    refine g_iload_n 0 (kdX8_truthNow 10 rfl) rfl ?_
    refine g_iald (kdX8_truthNow 11 rfl) (fun x5 => ?_)
    refine g_goto (tgt := 24) (kdX8_truthNow 12 rfl) (by decide) ?_
    exact g_iret rfl (kdX8_truthNow 14 rfl)
def JX8_receive_362 (w0 : Nat) (v100 : Int32) (v101 : Int32) (w102 : Nat) (m : hM) : hR :=
  stI m 18 w102 13 (v101 + v100) fun m24 =>
  calI (JJ9_max_7cf53 ((m24.1 12 w0 13) - 1) 0 m24) fun x26 m25 =>
  stI m25 12 w0 13 x26 fun m27 =>
  stZ m27 12 w0 16 0 fun m28 =>
  stI m28 12 w0 6 ((m28.1 12 w0 6) + 1) fun m29 =>
  some (none, m29)
set_option maxRecDepth 20000 in
theorem BX8_receive_362 (w0 : Nat) (v100 : Int32) (v101 : Int32) (w102 : Nat) (m : hM) : G mX8_receive 3 362 [(0, .inr (.inr (12, w0)))] [.inl v100, .inl v101, .inr (.inr (18, w102))] m (JX8_receive_362 w0 v100 v101 w102 m) := by
  unfold JX8_receive_362
  refine g_iadd (kdX8_receive 181 rfl) ?_
  refine g_putI (kdX8_receive 182 rfl) fX8_211 rfl (fun m24 => ?_)
  refine g_aload_n 0 (kdX8_receive 183 rfl) rfl ?_
  refine g_aload_n 0 (kdX8_receive 184 rfl) rfl ?_
  refine g_get (v := .inl (m24.1 12 w0 13)) (kdX8_receive 185 rfl) fX8_69 rfl ?_
  refine g_iconst (v := 1) (kdX8_receive 186 rfl) (by decide) ?_
  refine g_isub (kdX8_receive 187 rfl) ?_
  refine g_iconst (v := 0) (kdX8_receive 188 rfl) (by decide) ?_
  refine g_calI (ck_S (As := [.inl ((m24.1 12 w0 13) - 1), .inl 0]) (S := [.inr (.inr (12, w0))]) (kdX8_receive 189 rfl) iJ9_max_7cf53 lX8_214 rfl rfl rfl (by decide) (by simp only [List.map, vcat, List.sum_cons, List.sum_nil]; decide)) (CJ9_max_7cf53 ((m24.1 12 w0 13) - 1) 0 m24) (fun x26 m25 => ?_)
  refine g_putI (kdX8_receive 190 rfl) fX8_69 rfl (fun m27 => ?_)
  refine g_aload_n 0 (kdX8_receive 191 rfl) rfl ?_
  refine g_iconst (v := 0) (kdX8_receive 192 rfl) (by decide) ?_
  refine g_putZ (kdX8_receive 193 rfl) fX8_79 rfl (fun m28 => ?_)
  refine g_aload_n 0 (kdX8_receive 194 rfl) rfl ?_
  refine g_dup (kdX8_receive 195 rfl) rfl ?_
  refine g_get (v := .inl (m28.1 12 w0 6)) (kdX8_receive 196 rfl) fX8_41 rfl ?_
  refine g_iconst (v := 1) (kdX8_receive 197 rfl) (by decide) ?_
  refine g_iadd (kdX8_receive 198 rfl) ?_
  refine g_putI (kdX8_receive 199 rfl) fX8_41 rfl (fun m29 => ?_)
  exact g_vret rfl (kdX8_receive 200 rfl)
def JX8_receive_350 (w0 : Nat) (v10 : Int32) (v100 : Int32) (v101 : Int32) (w102 : Nat) (m : hM) : hR :=
  if v10 = 0 then (JX8_receive_362 w0 0 (v101 + v100) w102 m) else (JX8_receive_362 w0 32 (v101 + v100) w102 m)
set_option maxRecDepth 20000 in
theorem BX8_receive_350 (w0 : Nat) (v10 : Int32) (v100 : Int32) (v101 : Int32) (w102 : Nat) (m : hM) : G mX8_receive 3 350 [(0, .inr (.inr (12, w0))), (10, .inl v10)] [.inl v100, .inl v101, .inr (.inr (18, w102))] m (JX8_receive_350 w0 v10 v100 v101 w102 m) := by
  unfold JX8_receive_350
  refine g_iadd (kdX8_receive 175 rfl) ?_
  refine g_iload 1 (kdX8_receive 176 rfl) rfl ?_
  refine g_if_eq (tgt := 361) (kdX8_receive 177 rfl) (by decide) (fun _ => ?_) (fun _ => ?_)
  · refine g_iconst (v := 0) (kdX8_receive 180 rfl) (by decide) ?_
    exact g_fgt [0] rfl (BX8_receive_362 w0 0 (v101 + v100) w102 m)
  · refine g_bipush (v := 32) (kdX8_receive 178 rfl) (by decide) ?_
    refine g_goto (tgt := 362) (kdX8_receive 179 rfl) (by decide) ?_
    exact g_fgt [0] rfl (BX8_receive_362 w0 32 (v101 + v100) w102 m)
def JX8_receive_338 (w0 : Nat) (v10 : Int32) (v13 : Int32) (v100 : Int32) (v101 : Int32) (w102 : Nat) (m : hM) : hR :=
  if v13 = 0 then (JX8_receive_350 w0 v10 0 (v101 + v100) w102 m) else (JX8_receive_350 w0 v10 16 (v101 + v100) w102 m)
set_option maxRecDepth 20000 in
theorem BX8_receive_338 (w0 : Nat) (v10 : Int32) (v13 : Int32) (v100 : Int32) (v101 : Int32) (w102 : Nat) (m : hM) : G mX8_receive 3 338 [(0, .inr (.inr (12, w0))), (10, .inl v10), (13, .inl v13)] [.inl v100, .inl v101, .inr (.inr (18, w102))] m (JX8_receive_338 w0 v10 v13 v100 v101 w102 m) := by
  unfold JX8_receive_338
  refine g_iadd (kdX8_receive 169 rfl) ?_
  refine g_iload 2 (kdX8_receive 170 rfl) rfl ?_
  refine g_if_eq (tgt := 349) (kdX8_receive 171 rfl) (by decide) (fun _ => ?_) (fun _ => ?_)
  · refine g_iconst (v := 0) (kdX8_receive 174 rfl) (by decide) ?_
    exact g_fgt [0, 1] rfl (BX8_receive_350 w0 v10 0 (v101 + v100) w102 m)
  · refine g_bipush (v := 16) (kdX8_receive 172 rfl) (by decide) ?_
    refine g_goto (tgt := 350) (kdX8_receive 173 rfl) (by decide) ?_
    exact g_fgt [0, 1] rfl (BX8_receive_350 w0 v10 16 (v101 + v100) w102 m)
def JX8_receive_321 (w0 : Nat) (v10 : Int32) (v13 : Int32) (v100 : Int32) (v101 : Int32) (w102 : Nat) (m : hM) : hR :=
  if (m.1 18 w0 2) = 0 then (JX8_receive_338 w0 v10 v13 0 (v101 + v100) w102 m) else (JX8_receive_338 w0 v10 v13 8 (v101 + v100) w102 m)
set_option maxRecDepth 20000 in
theorem BX8_receive_321 (w0 : Nat) (v10 : Int32) (v13 : Int32) (v100 : Int32) (v101 : Int32) (w102 : Nat) (m : hM) : G mX8_receive 3 321 [(0, .inr (.inr (12, w0))), (10, .inl v10), (13, .inl v13)] [.inl v100, .inl v101, .inr (.inr (18, w102))] m (JX8_receive_321 w0 v10 v13 v100 v101 w102 m) := by
  unfold JX8_receive_321
  refine g_iadd (kdX8_receive 161 rfl) ?_
  refine g_aload_n 0 (kdX8_receive 162 rfl) rfl ?_
  refine g_get (v := .inr (.inr (18, w0))) (kdX8_receive 163 rfl) fX8_30 rfl ?_
  refine g_get (v := .inl (m.1 18 w0 2)) (kdX8_receive 164 rfl) fX8_96 rfl ?_
  refine g_if_eq (tgt := 337) (kdX8_receive 165 rfl) (by decide) (fun _ => ?_) (fun _ => ?_)
  · refine g_iconst (v := 0) (kdX8_receive 168 rfl) (by decide) ?_
    exact g_fgt [0, 1, 2] rfl (BX8_receive_338 w0 v10 v13 0 (v101 + v100) w102 m)
  · refine g_bipush (v := 8) (kdX8_receive 166 rfl) (by decide) ?_
    refine g_goto (tgt := 338) (kdX8_receive 167 rfl) (by decide) ?_
    exact g_fgt [0, 1, 2] rfl (BX8_receive_338 w0 v10 v13 8 (v101 + v100) w102 m)
def JX8_receive_310 (w0 : Nat) (v9 : Int32) (v10 : Int32) (v13 : Int32) (v100 : Int32) (v101 : Int32) (w102 : Nat) (m : hM) : hR :=
  if v9 = 0 then (JX8_receive_321 w0 v10 v13 0 (v101 + v100) w102 m) else (JX8_receive_321 w0 v10 v13 4 (v101 + v100) w102 m)
set_option maxRecDepth 20000 in
theorem BX8_receive_310 (w0 : Nat) (v9 : Int32) (v10 : Int32) (v13 : Int32) (v100 : Int32) (v101 : Int32) (w102 : Nat) (m : hM) : G mX8_receive 3 310 [(0, .inr (.inr (12, w0))), (9, .inl v9), (10, .inl v10), (13, .inl v13)] [.inl v100, .inl v101, .inr (.inr (18, w102))] m (JX8_receive_310 w0 v9 v10 v13 v100 v101 w102 m) := by
  unfold JX8_receive_310
  refine g_iadd (kdX8_receive 155 rfl) ?_
  refine g_iload 1 (kdX8_receive 156 rfl) rfl ?_
  refine g_if_eq (tgt := 320) (kdX8_receive 157 rfl) (by decide) (fun _ => ?_) (fun _ => ?_)
  · refine g_iconst (v := 0) (kdX8_receive 160 rfl) (by decide) ?_
    exact g_fgt [0, 2, 3] rfl (BX8_receive_321 w0 v10 v13 0 (v101 + v100) w102 m)
  · refine g_iconst (v := 4) (kdX8_receive 158 rfl) (by decide) ?_
    refine g_goto (tgt := 321) (kdX8_receive 159 rfl) (by decide) ?_
    exact g_fgt [0, 2, 3] rfl (BX8_receive_321 w0 v10 v13 4 (v101 + v100) w102 m)
def JX8_receive_299 (w0 : Nat) (v7 : Int32) (v9 : Int32) (v10 : Int32) (v13 : Int32) (v100 : Int32) (w101 : Nat) (m : hM) : hR :=
  if v7 = 1 then (JX8_receive_310 w0 v9 v10 v13 2 v100 w101 m) else (JX8_receive_310 w0 v9 v10 v13 0 v100 w101 m)
set_option maxRecDepth 20000 in
theorem BX8_receive_299 (w0 : Nat) (v7 : Int32) (v9 : Int32) (v10 : Int32) (v13 : Int32) (v100 : Int32) (w101 : Nat) (m : hM) : G mX8_receive 3 299 [(0, .inr (.inr (12, w0))), (7, .inl v7), (9, .inl v9), (10, .inl v10), (13, .inl v13)] [.inl v100, .inr (.inr (18, w101))] m (JX8_receive_299 w0 v7 v9 v10 v13 v100 w101 m) := by
  unfold JX8_receive_299
  refine g_iload 1 (kdX8_receive 149 rfl) rfl ?_
  refine g_iconst (v := 1) (kdX8_receive 150 rfl) (by decide) ?_
  refine g_icmp_ne (tgt := 309) (kdX8_receive 151 rfl) (by decide) (fun _ => ?_) (fun _ => ?_)
  · refine g_iconst (v := 0) (kdX8_receive 154 rfl) (by decide) ?_
    exact g_fgt [0, 2, 3, 4] rfl (BX8_receive_310 w0 v9 v10 v13 0 v100 w101 m)
  · refine g_iconst (v := 2) (kdX8_receive 152 rfl) (by decide) ?_
    refine g_goto (tgt := 310) (kdX8_receive 153 rfl) (by decide) ?_
    exact g_fgt [0, 2, 3, 4] rfl (BX8_receive_310 w0 v9 v10 v13 2 v100 w101 m)
def JX8_receive_259 (w0 : Nat) (v6 : Int32) (v7 : Int32) (v9 : Int32) (v10 : Int32) (v12 : Int32) (v13 : Int32) (v100 : Int32) (w101 : Nat) (m : hM) : hR :=
  stI m 18 w101 9 v100 fun m20 =>
  stI m20 18 w0 10 v6 fun m21 =>
  stI m21 18 w0 12 v12 fun m22 =>
  ald m22 15 w0 0 fun x23 =>
  if x23 = 1 then (JX8_receive_299 w0 v7 v9 v10 v13 1 w0 m22) else (JX8_receive_299 w0 v7 v9 v10 v13 0 w0 m22)
set_option maxRecDepth 20000 in
theorem BX8_receive_259 (w0 : Nat) (v6 : Int32) (v7 : Int32) (v9 : Int32) (v10 : Int32) (v12 : Int32) (v13 : Int32) (v100 : Int32) (w101 : Nat) (m : hM) : G mX8_receive 3 259 [(0, .inr (.inr (12, w0))), (6, .inl v6), (7, .inl v7), (9, .inl v9), (10, .inl v10), (12, .inl v12), (13, .inl v13)] [.inl v100, .inr (.inr (18, w101))] m (JX8_receive_259 w0 v6 v7 v9 v10 v12 v13 v100 w101 m) := by
  unfold JX8_receive_259
  refine g_putI (kdX8_receive 129 rfl) fX8_202 rfl (fun m20 => ?_)
  refine g_aload_n 0 (kdX8_receive 130 rfl) rfl ?_
  refine g_get (v := .inr (.inr (18, w0))) (kdX8_receive 131 rfl) fX8_30 rfl ?_
  refine g_iload 1 (kdX8_receive 132 rfl) rfl ?_
  refine g_putI (kdX8_receive 133 rfl) fX8_205 rfl (fun m21 => ?_)
  refine g_aload_n 0 (kdX8_receive 134 rfl) rfl ?_
  refine g_get (v := .inr (.inr (18, w0))) (kdX8_receive 135 rfl) fX8_30 rfl ?_
  refine g_iload 5 (kdX8_receive 136 rfl) rfl ?_
  refine g_putI (kdX8_receive 137 rfl) fX8_208 rfl (fun m22 => ?_)
  refine g_aload_n 0 (kdX8_receive 138 rfl) rfl ?_
  refine g_get (v := .inr (.inr (18, w0))) (kdX8_receive 139 rfl) fX8_30 rfl ?_
  refine g_aload_n 0 (kdX8_receive 140 rfl) rfl ?_
  refine g_get (v := .inr (.inr (15, w0))) (kdX8_receive 141 rfl) fX8_18 rfl ?_
  refine g_iconst (v := 0) (kdX8_receive 142 rfl) (by decide) ?_
  refine g_iald (kdX8_receive 143 rfl) (fun x23 => ?_)
  refine g_iconst (v := 1) (kdX8_receive 144 rfl) (by decide) ?_
  refine g_icmp_ne (tgt := 298) (kdX8_receive 145 rfl) (by decide) (fun _ => ?_) (fun _ => ?_)
  · refine g_iconst (v := 0) (kdX8_receive 148 rfl) (by decide) ?_
    exact g_fgt [0, 2, 3, 4, 6] rfl (BX8_receive_299 w0 v7 v9 v10 v13 0 w0 m22)
  · refine g_iconst (v := 1) (kdX8_receive 146 rfl) (by decide) ?_
    refine g_goto (tgt := 299) (kdX8_receive 147 rfl) (by decide) ?_
    exact g_fgt [0, 2, 3, 4, 6] rfl (BX8_receive_299 w0 v7 v9 v10 v13 1 w0 m22)
def JX8_receive_222 (w0 : Nat) (w1 : Nat) (v3 : Int32) (v4 : Int32) (v6 : Int32) (v7 : Int32) (v9 : Int32) (v10 : Int32) (v11 : Int32) (v12 : Int32) (v13 : Int32) (m : hM) : hR :=
  calV (JX11_push 16 w0 v11 m) fun m16 =>
  calI (JX4_backTaps w1 m16) fun x18 m17 =>
  calV (JX10_judge w0 v9 x18 m17) fun m19 =>
  if v3 = 0 then (JX8_receive_259 w0 v6 v7 v9 v10 v12 v13 v4 w0 m19) else (JX8_receive_259 w0 v6 v7 v9 v10 v12 v13 (-1000000000) w0 m19)
set_option maxRecDepth 20000 in
theorem BX8_receive_222 (w0 : Nat) (w1 : Nat) (v3 : Int32) (v4 : Int32) (v6 : Int32) (v7 : Int32) (v9 : Int32) (v10 : Int32) (v11 : Int32) (v12 : Int32) (v13 : Int32) (m : hM) : G mX8_receive 3 222 [(0, .inr (.inr (12, w0))), (1, .inr (.inr (4, w1))), (3, .inl v3), (4, .inl v4), (6, .inl v6), (7, .inl v7), (9, .inl v9), (10, .inl v10), (11, .inl v11), (12, .inl v12), (13, .inl v13)] [] m (JX8_receive_222 w0 w1 v3 v4 v6 v7 v9 v10 v11 v12 v13 m) := by
  unfold JX8_receive_222
  refine g_aload_n 0 (kdX8_receive 112 rfl) rfl ?_
  refine g_get (v := .inr (.inr (16, w0))) (kdX8_receive 113 rfl) fX8_21 rfl ?_
  refine g_iload 8 (kdX8_receive 114 rfl) rfl ?_
  refine g_calV (ck_S (As := [.inr (.inr (16, w0)), .inl v11]) (S := []) (kdX8_receive 115 rfl) iX11_push lX8_147 rfl rfl rfl (by decide) (by simp only [List.map, vcat, List.sum_cons, List.sum_nil]; decide)) (CX11_push 16 w0 v11 m) (fun m16 => ?_)
  refine g_aload_n 0 (kdX8_receive 116 rfl) rfl ?_
  refine g_get (v := .inr (.inr (18, w0))) (kdX8_receive 117 rfl) fX8_30 rfl ?_
  refine g_iload 6 (kdX8_receive 118 rfl) rfl ?_
  refine g_aload_n 1 (kdX8_receive 119 rfl) rfl ?_
  refine g_calI (ck_V (As := []) (S := [.inl v9, .inr (.inr (18, w0))]) (t := 4) (o := w1) (kdX8_receive 120 rfl) iX4_backTaps lX8_195 rc_4 rfl rfl rfl (by decide) (by simp only [List.map, vcat, List.sum_cons, List.sum_nil]; decide)) (CX4_backTaps w1 m16) (fun x18 m17 => ?_)
  refine g_calV (ck_V (As := [.inl v9, .inl x18]) (S := []) (t := 18) (o := w0) (kdX8_receive 121 rfl) iX10_judge lX8_198 rc_18 rfl rfl rfl (by decide) (by simp only [List.map, vcat, List.sum_cons, List.sum_nil]; decide)) (CX10_judge w0 v9 x18 m17) (fun m19 => ?_)
  refine g_aload_n 0 (kdX8_receive 122 rfl) rfl ?_
  refine g_get (v := .inr (.inr (18, w0))) (kdX8_receive 123 rfl) fX8_30 rfl ?_
  refine g_iload_n 2 (kdX8_receive 124 rfl) rfl ?_
  refine g_if_eq (tgt := 257) (kdX8_receive 125 rfl) (by decide) (fun _ => ?_) (fun _ => ?_)
  · refine g_iload 3 (kdX8_receive 128 rfl) rfl ?_
    exact g_fgt [0, 4, 5, 6, 7, 9, 10] rfl (BX8_receive_259 w0 v6 v7 v9 v10 v12 v13 v4 w0 m19)
  · refine g_ldc (kdX8_receive 126 rfl) cX8_123 ?_
    refine g_goto (tgt := 259) (kdX8_receive 127 rfl) (by decide) ?_
    exact g_fgt [0, 4, 5, 6, 7, 9, 10] rfl (BX8_receive_259 w0 v6 v7 v9 v10 v12 v13 (-1000000000) w0 m19)
def JX8_receive_193 (w0 : Nat) (w1 : Nat) (v3 : Int32) (v4 : Int32) (v6 : Int32) (v7 : Int32) (v9 : Int32) (v10 : Int32) (v11 : Int32) (v12 : Int32) (v100 : Int32) (m : hM) : hR :=
  if v100 = 0 then (JX8_receive_222 w0 w1 v3 v4 v6 v7 v9 v10 v11 v12 v100 m) else (stI m 18 w0 4 ((m.1 18 w0 4) + 1) fun m30 =>
  calV (JX8_learn w0 w1 v11 v12 m30) fun m31 =>
  JX8_receive_222 w0 w1 v3 v4 v6 v7 v9 v10 v11 v12 v100 m31)
set_option maxRecDepth 20000 in
theorem BX8_receive_193 (w0 : Nat) (w1 : Nat) (v3 : Int32) (v4 : Int32) (v6 : Int32) (v7 : Int32) (v9 : Int32) (v10 : Int32) (v11 : Int32) (v12 : Int32) (v100 : Int32) (m : hM) : G mX8_receive 3 193 [(0, .inr (.inr (12, w0))), (1, .inr (.inr (4, w1))), (3, .inl v3), (4, .inl v4), (6, .inl v6), (7, .inl v7), (9, .inl v9), (10, .inl v10), (11, .inl v11), (12, .inl v12)] [.inl v100] m (JX8_receive_193 w0 w1 v3 v4 v6 v7 v9 v10 v11 v12 v100 m) := by
  unfold JX8_receive_193
  refine g_istore (L2 := [(13, .inl v100), (0, .inr (.inr (12, w0))), (1, .inr (.inr (4, w1))), (3, .inl v3), (4, .inl v4), (6, .inl v6), (7, .inl v7), (9, .inl v9), (10, .inl v10), (11, .inl v11), (12, .inl v12)]) (kdX8_receive 97 rfl) rfl (by decide) ?_
  refine g_iload 0 (kdX8_receive 98 rfl) rfl ?_
  refine g_if_eq (tgt := 222) (kdX8_receive 99 rfl) (by decide) (fun _ => ?_) (fun _ => ?_)
  · exact g_fgt [1, 2, 3, 4, 5, 6, 7, 8, 9, 10, 0] rfl (BX8_receive_222 w0 w1 v3 v4 v6 v7 v9 v10 v11 v12 v100 m)
  · refine g_aload_n 1 (kdX8_receive 100 rfl) rfl ?_
    refine g_get (v := .inr (.inr (18, w0))) (kdX8_receive 101 rfl) fX8_30 rfl ?_
    refine g_dup (kdX8_receive 102 rfl) rfl ?_
    refine g_get (v := .inl (m.1 18 w0 4)) (kdX8_receive 103 rfl) fX8_108 rfl ?_
    refine g_iconst (v := 1) (kdX8_receive 104 rfl) (by decide) ?_
    refine g_iadd (kdX8_receive 105 rfl) ?_
    refine g_putI (kdX8_receive 106 rfl) fX8_108 rfl (fun m30 => ?_)
    refine g_aload_n 1 (kdX8_receive 107 rfl) rfl ?_
    refine g_aload_n 2 (kdX8_receive 108 rfl) rfl ?_
    refine g_iload 9 (kdX8_receive 109 rfl) rfl ?_
    refine g_iload 10 (kdX8_receive 110 rfl) rfl ?_
    refine g_calV (ck_V (As := [.inr (.inr (4, w1)), .inl v11, .inl v12]) (S := []) (t := 12) (o := w0) (kdX8_receive 111 rfl) iX8_learn lX8_191 rc_12 rfl rfl rfl (by decide) (by simp only [List.map, vcat, List.sum_cons, List.sum_nil]; decide)) (CX8_learn w0 w1 v11 v12 m30) (fun m31 => ?_)
    exact g_fgt [1, 2, 3, 4, 5, 6, 7, 8, 9, 10, 0] rfl (BX8_receive_222 w0 w1 v3 v4 v6 v7 v9 v10 v11 v12 v100 m31)
def JX8_receive_192 (w0 : Nat) (w1 : Nat) (v3 : Int32) (v4 : Int32) (v6 : Int32) (v7 : Int32) (v9 : Int32) (v10 : Int32) (v11 : Int32) (v12 : Int32) (m : hM) : hR :=
  JX8_receive_193 w0 w1 v3 v4 v6 v7 v9 v10 v11 v12 0 m
set_option maxRecDepth 20000 in
theorem BX8_receive_192 (w0 : Nat) (w1 : Nat) (v3 : Int32) (v4 : Int32) (v6 : Int32) (v7 : Int32) (v9 : Int32) (v10 : Int32) (v11 : Int32) (v12 : Int32) (m : hM) : G mX8_receive 3 192 [(0, .inr (.inr (12, w0))), (1, .inr (.inr (4, w1))), (3, .inl v3), (4, .inl v4), (6, .inl v6), (7, .inl v7), (9, .inl v9), (10, .inl v10), (11, .inl v11), (12, .inl v12)] [] m (JX8_receive_192 w0 w1 v3 v4 v6 v7 v9 v10 v11 v12 m) := by
  unfold JX8_receive_192
  refine g_iconst (v := 0) (kdX8_receive 96 rfl) (by decide) ?_
  exact g_fgt [0, 1, 2, 3, 4, 5, 6, 7, 8, 9] rfl (BX8_receive_193 w0 w1 v3 v4 v6 v7 v9 v10 v11 v12 0 m)
def JX8_receive_164 (w0 : Nat) (w1 : Nat) (v3 : Int32) (v4 : Int32) (v6 : Int32) (v7 : Int32) (v9 : Int32) (v10 : Int32) (v11 : Int32) (v12 : Int32) (v100 : Int32) (w101 : Nat) (m : hM) : hR :=
  calV (JX10_hear w101 v100 m) fun m15 =>
  if (m15.1 12 w0 15) = 0 then (if (m15.1 18 w0 2) = 0 then (if v3 = 0 then (JX8_receive_193 w0 w1 v3 v4 v6 v7 v9 v10 v11 v12 1 m15) else (JX8_receive_192 w0 w1 v3 v4 v6 v7 v9 v10 v11 v12 m15)) else (JX8_receive_192 w0 w1 v3 v4 v6 v7 v9 v10 v11 v12 m15)) else (JX8_receive_192 w0 w1 v3 v4 v6 v7 v9 v10 v11 v12 m15)
set_option maxRecDepth 20000 in
theorem BX8_receive_164 (w0 : Nat) (w1 : Nat) (v3 : Int32) (v4 : Int32) (v6 : Int32) (v7 : Int32) (v9 : Int32) (v10 : Int32) (v11 : Int32) (v12 : Int32) (v100 : Int32) (w101 : Nat) (m : hM) : G mX8_receive 3 164 [(0, .inr (.inr (12, w0))), (1, .inr (.inr (4, w1))), (3, .inl v3), (4, .inl v4), (6, .inl v6), (7, .inl v7), (9, .inl v9), (10, .inl v10), (11, .inl v11), (12, .inl v12)] [.inl v100, .inr (.inr (18, w101))] m (JX8_receive_164 w0 w1 v3 v4 v6 v7 v9 v10 v11 v12 v100 w101 m) := by
  unfold JX8_receive_164
  refine g_calV (ck_V (As := [.inl v100]) (S := []) (t := 18) (o := w101) (kdX8_receive 84 rfl) iX10_hear lX8_187 rc_18 rfl rfl rfl (by decide) (by simp only [List.map, vcat, List.sum_cons, List.sum_nil]; decide)) (CX10_hear w101 v100 m) (fun m15 => ?_)
  refine g_aload_n 0 (kdX8_receive 85 rfl) rfl ?_
  refine g_get (v := .inl (m15.1 12 w0 15)) (kdX8_receive 86 rfl) fX8_75 rfl ?_
  refine g_if_ne (tgt := 192) (kdX8_receive 87 rfl) (by decide) (fun _ => ?_) (fun _ => ?_)
  · exact g_fgt [0, 1, 2, 3, 4, 5, 6, 7, 8, 9] rfl (BX8_receive_192 w0 w1 v3 v4 v6 v7 v9 v10 v11 v12 m15)
  · refine g_aload_n 0 (kdX8_receive 88 rfl) rfl ?_
    refine g_get (v := .inr (.inr (18, w0))) (kdX8_receive 89 rfl) fX8_30 rfl ?_
    refine g_get (v := .inl (m15.1 18 w0 2)) (kdX8_receive 90 rfl) fX8_96 rfl ?_
    refine g_if_ne (tgt := 192) (kdX8_receive 91 rfl) (by decide) (fun _ => ?_) (fun _ => ?_)
    · exact g_fgt [0, 1, 2, 3, 4, 5, 6, 7, 8, 9] rfl (BX8_receive_192 w0 w1 v3 v4 v6 v7 v9 v10 v11 v12 m15)
    · refine g_iload_n 2 (kdX8_receive 92 rfl) rfl ?_
      refine g_if_ne (tgt := 192) (kdX8_receive 93 rfl) (by decide) (fun _ => ?_) (fun _ => ?_)
      · exact g_fgt [0, 1, 2, 3, 4, 5, 6, 7, 8, 9] rfl (BX8_receive_192 w0 w1 v3 v4 v6 v7 v9 v10 v11 v12 m15)
      · refine g_iconst (v := 1) (kdX8_receive 94 rfl) (by decide) ?_
        refine g_goto (tgt := 193) (kdX8_receive 95 rfl) (by decide) ?_
        exact g_fgt [0, 1, 2, 3, 4, 5, 6, 7, 8, 9] rfl (BX8_receive_193 w0 w1 v3 v4 v6 v7 v9 v10 v11 v12 1 m15)
def JX8_receive_159 (w0 : Nat) (w1 : Nat) (v3 : Int32) (v4 : Int32) (v6 : Int32) (v7 : Int32) (v9 : Int32) (v10 : Int32) (v11 : Int32) (v12 : Int32) (w100 : Nat) (m : hM) : hR :=
  JX8_receive_164 w0 w1 v3 v4 v6 v7 v9 v10 v11 v12 1 w100 m
set_option maxRecDepth 20000 in
theorem BX8_receive_159 (w0 : Nat) (w1 : Nat) (v3 : Int32) (v4 : Int32) (v6 : Int32) (v7 : Int32) (v9 : Int32) (v10 : Int32) (v11 : Int32) (v12 : Int32) (w100 : Nat) (m : hM) : G mX8_receive 3 159 [(0, .inr (.inr (12, w0))), (1, .inr (.inr (4, w1))), (3, .inl v3), (4, .inl v4), (6, .inl v6), (7, .inl v7), (9, .inl v9), (10, .inl v10), (11, .inl v11), (12, .inl v12)] [.inr (.inr (18, w100))] m (JX8_receive_159 w0 w1 v3 v4 v6 v7 v9 v10 v11 v12 w100 m) := by
  unfold JX8_receive_159
  refine g_iconst (v := 1) (kdX8_receive 81 rfl) (by decide) ?_
  refine g_goto (tgt := 164) (kdX8_receive 82 rfl) (by decide) ?_
  exact g_fgt [0, 1, 2, 3, 4, 5, 6, 7, 8, 9] rfl (BX8_receive_164 w0 w1 v3 v4 v6 v7 v9 v10 v11 v12 1 w100 m)
def JX8_receive_101 (w0 : Nat) (w1 : Nat) (v3 : Int32) (v4 : Int32) (v5 : Int32) (v6 : Int32) (v7 : Int32) (v9 : Int32) (v10 : Int32) (v100 : Int32) (m : hM) : hR :=
  calI (JX11_signOf (v6 - ((64 * (m.1 12 w0 9)) * v100)) m) fun x12 m11 =>
  calV (JX8_keepForUnrolling w0 w1 v5 m11) fun m13 =>
  calV (JX11_push 17 w0 v4 m13) fun m14 =>
  if v3 = 0 then (calI (JX11_sizeOf v4 m14) fun x33 m32 =>
  calI (JX4_ruleOf w1 6 m32) fun x35 m34 =>
  if x35 ≤ x33 then (JX8_receive_164 w0 w1 v3 v4 v6 v7 v9 v10 v100 x12 0 w0 m34) else (JX8_receive_159 w0 w1 v3 v4 v6 v7 v9 v10 v100 x12 w0 m34)) else (JX8_receive_159 w0 w1 v3 v4 v6 v7 v9 v10 v100 x12 w0 m14)
set_option maxRecDepth 20000 in
theorem BX8_receive_101 (w0 : Nat) (w1 : Nat) (v3 : Int32) (v4 : Int32) (v5 : Int32) (v6 : Int32) (v7 : Int32) (v9 : Int32) (v10 : Int32) (v100 : Int32) (m : hM) : G mX8_receive 3 101 [(0, .inr (.inr (12, w0))), (1, .inr (.inr (4, w1))), (3, .inl v3), (4, .inl v4), (5, .inl v5), (6, .inl v6), (7, .inl v7), (9, .inl v9), (10, .inl v10)] [.inl v100] m (JX8_receive_101 w0 w1 v3 v4 v5 v6 v7 v9 v10 v100 m) := by
  unfold JX8_receive_101
  refine g_istore (L2 := [(11, .inl v100), (0, .inr (.inr (12, w0))), (1, .inr (.inr (4, w1))), (3, .inl v3), (4, .inl v4), (5, .inl v5), (6, .inl v6), (7, .inl v7), (9, .inl v9), (10, .inl v10)]) (kdX8_receive 52 rfl) rfl (by decide) ?_
  refine g_iload 6 (kdX8_receive 53 rfl) rfl ?_
  refine g_bipush (v := 64) (kdX8_receive 54 rfl) (by decide) ?_
  refine g_aload_n 1 (kdX8_receive 55 rfl) rfl ?_
  refine g_get (v := .inl (m.1 12 w0 9)) (kdX8_receive 56 rfl) fX8_57 rfl ?_
  refine g_imul (kdX8_receive 57 rfl) ?_
  refine g_iload 0 (kdX8_receive 58 rfl) rfl ?_
  refine g_imul (kdX8_receive 59 rfl) ?_
  refine g_isub (kdX8_receive 60 rfl) ?_
  refine g_calI (ck_S (As := [.inl (v6 - ((64 * (m.1 12 w0 9)) * v100))]) (S := []) (kdX8_receive 61 rfl) iX11_signOf lX8_178 rfl rfl rfl (by decide) (by simp only [List.map, vcat, List.sum_cons, List.sum_nil]; decide)) (CX11_signOf (v6 - ((64 * (m.1 12 w0 9)) * v100)) m) (fun x12 m11 => ?_)
  refine g_istore (L2 := [(12, .inl x12), (11, .inl v100), (0, .inr (.inr (12, w0))), (1, .inr (.inr (4, w1))), (3, .inl v3), (4, .inl v4), (5, .inl v5), (6, .inl v6), (7, .inl v7), (9, .inl v9), (10, .inl v10)]) (kdX8_receive 62 rfl) rfl (by decide) ?_
  refine g_aload_n 2 (kdX8_receive 63 rfl) rfl ?_
  refine g_aload_n 3 (kdX8_receive 64 rfl) rfl ?_
  refine g_iload 6 (kdX8_receive 65 rfl) rfl ?_
  refine g_calV (ck_V (As := [.inr (.inr (4, w1)), .inl v5]) (S := []) (t := 12) (o := w0) (kdX8_receive 66 rfl) iX8_keepForUnrolling lX8_181 rc_12 rfl rfl rfl (by decide) (by simp only [List.map, vcat, List.sum_cons, List.sum_nil]; decide)) (CX8_keepForUnrolling w0 w1 v5 m11) (fun m13 => ?_)
  refine g_aload_n 2 (kdX8_receive 67 rfl) rfl ?_
  refine g_get (v := .inr (.inr (17, w0))) (kdX8_receive 68 rfl) fX8_24 rfl ?_
  refine g_iload 5 (kdX8_receive 69 rfl) rfl ?_
  refine g_calV (ck_S (As := [.inr (.inr (17, w0)), .inl v4]) (S := []) (kdX8_receive 70 rfl) iX11_push lX8_147 rfl rfl rfl (by decide) (by simp only [List.map, vcat, List.sum_cons, List.sum_nil]; decide)) (CX11_push 17 w0 v4 m13) (fun m14 => ?_)
  refine g_aload_n 2 (kdX8_receive 71 rfl) rfl ?_
  refine g_get (v := .inr (.inr (18, w0))) (kdX8_receive 72 rfl) fX8_30 rfl ?_
  refine g_iload_n 4 (kdX8_receive 73 rfl) rfl ?_
  refine g_if_ne (tgt := 159) (kdX8_receive 74 rfl) (by decide) (fun _ => ?_) (fun _ => ?_)
  · exact g_fgt [2, 3, 4, 5, 7, 8, 9, 10, 1, 0] rfl (BX8_receive_159 w0 w1 v3 v4 v6 v7 v9 v10 v100 x12 w0 m14)
  · refine g_iload 5 (kdX8_receive 75 rfl) rfl ?_
    refine g_calI (ck_S (As := [.inl v4]) (S := [.inr (.inr (18, w0))]) (kdX8_receive 76 rfl) iX11_sizeOf lX8_184 rfl rfl rfl (by decide) (by simp only [List.map, vcat, List.sum_cons, List.sum_nil]; decide)) (CX11_sizeOf v4 m14) (fun x33 m32 => ?_)
    refine g_aload_n 3 (kdX8_receive 77 rfl) rfl ?_
    refine g_bipush (v := 6) (kdX8_receive 78 rfl) (by decide) ?_
    refine g_calI (ck_V (As := [.inl 6]) (S := [.inl x33, .inr (.inr (18, w0))]) (t := 4) (o := w1) (kdX8_receive 79 rfl) iX4_ruleOf lX8_51 rc_4 rfl rfl rfl (by decide) (by simp only [List.map, vcat, List.sum_cons, List.sum_nil]; decide)) (CX4_ruleOf w1 6 m32) (fun x35 m34 => ?_)
    refine g_icmp_ge (tgt := 163) (kdX8_receive 80 rfl) (by decide) (fun _ => ?_) (fun _ => ?_)
    · refine g_iconst (v := 0) (kdX8_receive 83 rfl) (by decide) ?_
      exact g_fgt [2, 3, 4, 5, 7, 8, 9, 10, 1, 0] rfl (BX8_receive_164 w0 w1 v3 v4 v6 v7 v9 v10 v100 x12 0 w0 m34)
    · exact g_fgt [2, 3, 4, 5, 7, 8, 9, 10, 1, 0] rfl (BX8_receive_159 w0 w1 v3 v4 v6 v7 v9 v10 v100 x12 w0 m34)
def JX8_receive_87 (w0 : Nat) (w1 : Nat) (v3 : Int32) (v4 : Int32) (v5 : Int32) (v6 : Int32) (v7 : Int32) (v8 : Int32) (v9 : Int32) (v100 : Int32) (m : hM) : hR :=
  if v100 = 0 then (JX8_receive_101 w0 w1 v3 v4 v5 v6 v7 v9 v100 v7 m) else (JX8_receive_101 w0 w1 v3 v4 v5 v6 v7 v9 v100 v8 m)
set_option maxRecDepth 20000 in
theorem BX8_receive_87 (w0 : Nat) (w1 : Nat) (v3 : Int32) (v4 : Int32) (v5 : Int32) (v6 : Int32) (v7 : Int32) (v8 : Int32) (v9 : Int32) (v100 : Int32) (m : hM) : G mX8_receive 3 87 [(0, .inr (.inr (12, w0))), (1, .inr (.inr (4, w1))), (3, .inl v3), (4, .inl v4), (5, .inl v5), (6, .inl v6), (7, .inl v7), (8, .inl v8), (9, .inl v9)] [.inl v100] m (JX8_receive_87 w0 w1 v3 v4 v5 v6 v7 v8 v9 v100 m) := by
  unfold JX8_receive_87
  refine g_istore (L2 := [(10, .inl v100), (0, .inr (.inr (12, w0))), (1, .inr (.inr (4, w1))), (3, .inl v3), (4, .inl v4), (5, .inl v5), (6, .inl v6), (7, .inl v7), (8, .inl v8), (9, .inl v9)]) (kdX8_receive 46 rfl) rfl (by decide) ?_
  refine g_iload 0 (kdX8_receive 47 rfl) rfl ?_
  refine g_if_eq (tgt := 99) (kdX8_receive 48 rfl) (by decide) (fun _ => ?_) (fun _ => ?_)
  · refine g_iload 7 (kdX8_receive 51 rfl) rfl ?_
    exact g_fgt [1, 2, 3, 4, 5, 6, 7, 9, 0] rfl (BX8_receive_101 w0 w1 v3 v4 v5 v6 v7 v9 v100 v7 m)
  · refine g_iload 8 (kdX8_receive 49 rfl) rfl ?_
    refine g_goto (tgt := 101) (kdX8_receive 50 rfl) (by decide) ?_
    exact g_fgt [1, 2, 3, 4, 5, 6, 7, 9, 0] rfl (BX8_receive_101 w0 w1 v3 v4 v5 v6 v7 v9 v100 v8 m)
def JX8_receive_86 (w0 : Nat) (w1 : Nat) (v3 : Int32) (v4 : Int32) (v5 : Int32) (v6 : Int32) (v7 : Int32) (v8 : Int32) (v9 : Int32) (m : hM) : hR :=
  JX8_receive_87 w0 w1 v3 v4 v5 v6 v7 v8 v9 0 m
set_option maxRecDepth 20000 in
theorem BX8_receive_86 (w0 : Nat) (w1 : Nat) (v3 : Int32) (v4 : Int32) (v5 : Int32) (v6 : Int32) (v7 : Int32) (v8 : Int32) (v9 : Int32) (m : hM) : G mX8_receive 3 86 [(0, .inr (.inr (12, w0))), (1, .inr (.inr (4, w1))), (3, .inl v3), (4, .inl v4), (5, .inl v5), (6, .inl v6), (7, .inl v7), (8, .inl v8), (9, .inl v9)] [] m (JX8_receive_86 w0 w1 v3 v4 v5 v6 v7 v8 v9 m) := by
  unfold JX8_receive_86
  refine g_iconst (v := 0) (kdX8_receive 45 rfl) (by decide) ?_
  exact g_fgt [0, 1, 2, 3, 4, 5, 6, 7, 8] rfl (BX8_receive_87 w0 w1 v3 v4 v5 v6 v7 v8 v9 0 m)
def JX8_receive_68 (w0 : Nat) (w1 : Nat) (v3 : Int32) (v4 : Int32) (v5 : Int32) (v6 : Int32) (v7 : Int32) (v8 : Int32) (v100 : Int32) (m : hM) : hR :=
  if (m.1 12 w0 13) ≤ 0 then (JX8_receive_86 w0 w1 v3 v4 v5 v6 v7 v8 v100 m) else (if v8 = 0 then (JX8_receive_86 w0 w1 v3 v4 v5 v6 v7 v8 v100 m) else (JX8_receive_87 w0 w1 v3 v4 v5 v6 v7 v8 v100 1 m))
set_option maxRecDepth 20000 in
theorem BX8_receive_68 (w0 : Nat) (w1 : Nat) (v3 : Int32) (v4 : Int32) (v5 : Int32) (v6 : Int32) (v7 : Int32) (v8 : Int32) (v100 : Int32) (m : hM) : G mX8_receive 3 68 [(0, .inr (.inr (12, w0))), (1, .inr (.inr (4, w1))), (3, .inl v3), (4, .inl v4), (5, .inl v5), (6, .inl v6), (7, .inl v7), (8, .inl v8)] [.inl v100] m (JX8_receive_68 w0 w1 v3 v4 v5 v6 v7 v8 v100 m) := by
  unfold JX8_receive_68
  refine g_istore (L2 := [(9, .inl v100), (0, .inr (.inr (12, w0))), (1, .inr (.inr (4, w1))), (3, .inl v3), (4, .inl v4), (5, .inl v5), (6, .inl v6), (7, .inl v7), (8, .inl v8)]) (kdX8_receive 37 rfl) rfl (by decide) ?_
  refine g_aload_n 1 (kdX8_receive 38 rfl) rfl ?_
  refine g_get (v := .inl (m.1 12 w0 13)) (kdX8_receive 39 rfl) fX8_69 rfl ?_
  refine g_if_le (tgt := 86) (kdX8_receive 40 rfl) (by decide) (fun _ => ?_) (fun _ => ?_)
  · exact g_fgt [1, 2, 3, 4, 5, 6, 7, 8, 0] rfl (BX8_receive_86 w0 w1 v3 v4 v5 v6 v7 v8 v100 m)
  · refine g_iload 8 (kdX8_receive 41 rfl) rfl ?_
    refine g_if_eq (tgt := 86) (kdX8_receive 42 rfl) (by decide) (fun _ => ?_) (fun _ => ?_)
    · exact g_fgt [1, 2, 3, 4, 5, 6, 7, 8, 0] rfl (BX8_receive_86 w0 w1 v3 v4 v5 v6 v7 v8 v100 m)
    · refine g_iconst (v := 1) (kdX8_receive 43 rfl) (by decide) ?_
      refine g_goto (tgt := 87) (kdX8_receive 44 rfl) (by decide) ?_
      exact g_fgt [1, 2, 3, 4, 5, 6, 7, 8, 0] rfl (BX8_receive_87 w0 w1 v3 v4 v5 v6 v7 v8 v100 1 m)
def JX8_receive_67 (w0 : Nat) (w1 : Nat) (v3 : Int32) (v4 : Int32) (v5 : Int32) (v6 : Int32) (v7 : Int32) (v8 : Int32) (m : hM) : hR :=
  JX8_receive_68 w0 w1 v3 v4 v5 v6 v7 v8 0 m
set_option maxRecDepth 20000 in
theorem BX8_receive_67 (w0 : Nat) (w1 : Nat) (v3 : Int32) (v4 : Int32) (v5 : Int32) (v6 : Int32) (v7 : Int32) (v8 : Int32) (m : hM) : G mX8_receive 3 67 [(0, .inr (.inr (12, w0))), (1, .inr (.inr (4, w1))), (3, .inl v3), (4, .inl v4), (5, .inl v5), (6, .inl v6), (7, .inl v7), (8, .inl v8)] [] m (JX8_receive_67 w0 w1 v3 v4 v5 v6 v7 v8 m) := by
  unfold JX8_receive_67
  refine g_iconst (v := 0) (kdX8_receive 36 rfl) (by decide) ?_
  exact g_fgt [0, 1, 2, 3, 4, 5, 6, 7] rfl (BX8_receive_68 w0 w1 v3 v4 v5 v6 v7 v8 0 m)
def JX8_receive_42 (w0 : Nat) (w1 : Nat) (v3 : Int32) (v4 : Int32) (v5 : Int32) (v6 : Int32) (v100 : Int32) (m : hM) : hR :=
  calI (JX8_truthNow w0 w1 m) fun x10 m9 =>
  if x10 = 0 then (JX8_receive_67 w0 w1 v3 v4 v5 v6 v100 x10 m9) else (if v100 = x10 then (JX8_receive_67 w0 w1 v3 v4 v5 v6 v100 x10 m9) else (JX8_receive_68 w0 w1 v3 v4 v5 v6 v100 x10 1 m9))
set_option maxRecDepth 20000 in
theorem BX8_receive_42 (w0 : Nat) (w1 : Nat) (v3 : Int32) (v4 : Int32) (v5 : Int32) (v6 : Int32) (v100 : Int32) (m : hM) : G mX8_receive 3 42 [(0, .inr (.inr (12, w0))), (1, .inr (.inr (4, w1))), (3, .inl v3), (4, .inl v4), (5, .inl v5), (6, .inl v6)] [.inl v100] m (JX8_receive_42 w0 w1 v3 v4 v5 v6 v100 m) := by
  unfold JX8_receive_42
  refine g_istore (L2 := [(7, .inl v100), (0, .inr (.inr (12, w0))), (1, .inr (.inr (4, w1))), (3, .inl v3), (4, .inl v4), (5, .inl v5), (6, .inl v6)]) (kdX8_receive 24 rfl) rfl (by decide) ?_
  refine g_aload_n 1 (kdX8_receive 25 rfl) rfl ?_
  refine g_aload_n 2 (kdX8_receive 26 rfl) rfl ?_
  refine g_calI (ck_V (As := [.inr (.inr (4, w1))]) (S := []) (t := 12) (o := w0) (kdX8_receive 27 rfl) iX8_truthNow lX8_175 rc_12 rfl rfl rfl (by decide) (by simp only [List.map, vcat, List.sum_cons, List.sum_nil]; decide)) (CX8_truthNow w0 w1 m) (fun x10 m9 => ?_)
  refine g_istore (L2 := [(8, .inl x10), (7, .inl v100), (0, .inr (.inr (12, w0))), (1, .inr (.inr (4, w1))), (3, .inl v3), (4, .inl v4), (5, .inl v5), (6, .inl v6)]) (kdX8_receive 28 rfl) rfl (by decide) ?_
  refine g_iload 0 (kdX8_receive 29 rfl) rfl ?_
  refine g_if_eq (tgt := 67) (kdX8_receive 30 rfl) (by decide) (fun _ => ?_) (fun _ => ?_)
  · exact g_fgt [2, 3, 4, 5, 6, 7, 1, 0] rfl (BX8_receive_67 w0 w1 v3 v4 v5 v6 v100 x10 m9)
  · refine g_iload 1 (kdX8_receive 31 rfl) rfl ?_
    refine g_iload 0 (kdX8_receive 32 rfl) rfl ?_
    refine g_icmp_eq (tgt := 67) (kdX8_receive 33 rfl) (by decide) (fun _ => ?_) (fun _ => ?_)
    · exact g_fgt [2, 3, 4, 5, 6, 7, 1, 0] rfl (BX8_receive_67 w0 w1 v3 v4 v5 v6 v100 x10 m9)
    · refine g_iconst (v := 1) (kdX8_receive 34 rfl) (by decide) ?_
      refine g_goto (tgt := 68) (kdX8_receive 35 rfl) (by decide) ?_
      exact g_fgt [2, 3, 4, 5, 6, 7, 1, 0] rfl (BX8_receive_68 w0 w1 v3 v4 v5 v6 v100 x10 1 m9)
def JX8_receive (n : Nat) (n1 : Nat) (a2 : Int32) (m : hM) : hR :=
  lt (m.1 12 n 16) fun x1 =>
  calI (JX8_sampleWith n n1 a2 m) fun x3 m2 =>
  calI (JX8_foreSum n n1 x3 m2) fun x5 m4 =>
  calI (JX8_backSum n n1 m4) fun x7 m6 =>
  lt (x5 - x7) fun x8 =>
  if x8 < 0 then (JX8_receive_42 n n1 x1 x3 x5 x8 (-1) m6) else (JX8_receive_42 n n1 x1 x3 x5 x8 1 m6)
set_option maxRecDepth 20000 in
theorem CX8_receive (n : Nat) (n1 : Nat) (a2 : Int32) (m : hM) : Cn mX8_receive 3 [.inr (.inr (12, n)), .inr (.inr (4, n1)), .inl a2] m (JX8_receive n n1 a2 m) := by
  refine cn_of (by decide +kernel) (by simp only [List.map, vcat, List.sum_cons, List.sum_nil]; decide) ?_
  unfold JX8_receive
  show G mX8_receive 3 0 [(0, .inr (.inr (12, n))), (1, .inr (.inr (4, n1))), (2, .inl a2)] [] m _
  refine g_aload_n 0 (kdX8_receive 0 rfl) rfl ?_
  refine g_get (v := .inl (m.1 12 n 16)) (kdX8_receive 1 rfl) fX8_79 rfl ?_
  refine g_lt (fun x1 => ?_)
  refine g_istore_n (L2 := [(3, .inl x1), (0, .inr (.inr (12, n))), (1, .inr (.inr (4, n1))), (2, .inl a2)]) (kdX8_receive 2 rfl) rfl (by decide) ?_
  refine g_aload_n 1 (kdX8_receive 3 rfl) rfl ?_
  refine g_aload_n 2 (kdX8_receive 4 rfl) rfl ?_
  refine g_iload_n 3 (kdX8_receive 5 rfl) rfl ?_
  refine g_calI (ck_V (As := [.inr (.inr (4, n1)), .inl a2]) (S := []) (t := 12) (o := n) (kdX8_receive 6 rfl) iX8_sampleWith lX8_165 rc_12 rfl rfl rfl (by decide) (by simp only [List.map, vcat, List.sum_cons, List.sum_nil]; decide)) (CX8_sampleWith n n1 a2 m) (fun x3 m2 => ?_)
  refine g_istore (L2 := [(4, .inl x3), (3, .inl x1), (0, .inr (.inr (12, n))), (1, .inr (.inr (4, n1))), (2, .inl a2)]) (kdX8_receive 7 rfl) rfl (by decide) ?_
  refine g_aload_n 2 (kdX8_receive 8 rfl) rfl ?_
  refine g_aload_n 3 (kdX8_receive 9 rfl) rfl ?_
  refine g_iload 0 (kdX8_receive 10 rfl) rfl ?_
  refine g_calI (ck_V (As := [.inr (.inr (4, n1)), .inl x3]) (S := []) (t := 12) (o := n) (kdX8_receive 11 rfl) iX8_foreSum lX8_169 rc_12 rfl rfl rfl (by decide) (by simp only [List.map, vcat, List.sum_cons, List.sum_nil]; decide)) (CX8_foreSum n n1 x3 m2) (fun x5 m4 => ?_)
  refine g_istore (L2 := [(5, .inl x5), (4, .inl x3), (3, .inl x1), (0, .inr (.inr (12, n))), (1, .inr (.inr (4, n1))), (2, .inl a2)]) (kdX8_receive 12 rfl) rfl (by decide) ?_
  refine g_iload 0 (kdX8_receive 13 rfl) rfl ?_
  refine g_aload_n 3 (kdX8_receive 14 rfl) rfl ?_
  refine g_aload_n 4 (kdX8_receive 15 rfl) rfl ?_
  refine g_calI (ck_V (As := [.inr (.inr (4, n1))]) (S := [.inl x5]) (t := 12) (o := n) (kdX8_receive 16 rfl) iX8_backSum lX8_172 rc_12 rfl rfl rfl (by decide) (by simp only [List.map, vcat, List.sum_cons, List.sum_nil]; decide)) (CX8_backSum n n1 m4) (fun x7 m6 => ?_)
  refine g_isub (kdX8_receive 17 rfl) ?_
  refine g_lt (fun x8 => ?_)
  refine g_istore (L2 := [(6, .inl x8), (5, .inl x5), (4, .inl x3), (3, .inl x1), (0, .inr (.inr (12, n))), (1, .inr (.inr (4, n1))), (2, .inl a2)]) (kdX8_receive 18 rfl) rfl (by decide) ?_
  refine g_iload 0 (kdX8_receive 19 rfl) rfl ?_
  refine g_if_lt (tgt := 41) (kdX8_receive 20 rfl) (by decide) (fun _ => ?_) (fun _ => ?_)
  · refine g_iconst (v := (-1)) (kdX8_receive 23 rfl) (by decide) ?_
    exact g_fgt [4, 5, 3, 2, 1, 0] rfl (BX8_receive_42 n n1 x1 x3 x5 x8 (-1) m6)
  · refine g_iconst (v := 1) (kdX8_receive 21 rfl) (by decide) ?_
    refine g_goto (tgt := 42) (kdX8_receive 22 rfl) (by decide) ?_
    exact g_fgt [4, 5, 3, 2, 1, 0] rfl (BX8_receive_42 n n1 x1 x3 x5 x8 1 m6)
def JX8_nextBit (n : Nat) (n1 : Nat) (m : hM) : hR :=
  calI (JX4_wordLength n1 m) fun x2 m1 =>
  if x2 ≤ 0 then (lt ((m1.1 12 n 14) &&& 1) fun x3 =>
  lt (((m1.1 12 n 14) ^^^ ((m1.1 12 n 14) >>> ((1 : Int32) &&& 31))) &&& 1) fun x4 =>
  stI m1 12 n 14 (((m1.1 12 n 14) >>> ((1 : Int32) &&& 31)) ||| (x4 <<< ((6 : Int32) &&& 31))) fun m5 =>
  some (some (.inl x3), m5)) else (jirem (m1.1 12 n 6) x2 fun x6 =>
  calI (JX4_wordAt n1 x6 m1) fun x8 m7 =>
  some (some (.inl x8), m7))
set_option maxRecDepth 20000 in
theorem CX8_nextBit (n : Nat) (n1 : Nat) (m : hM) : Cn mX8_nextBit 1 [.inr (.inr (12, n)), .inr (.inr (4, n1))] m (JX8_nextBit n n1 m) := by
  refine cn_of (by decide +kernel) (by simp only [List.map, vcat, List.sum_cons, List.sum_nil]; decide) ?_
  unfold JX8_nextBit
  show G mX8_nextBit 1 0 [(0, .inr (.inr (12, n))), (1, .inr (.inr (4, n1)))] [] m _
  refine g_aload_n 1 (kdX8_nextBit 0 rfl) rfl ?_
  refine g_calI (ck_V (As := []) (S := []) (t := 4) (o := n1) (kdX8_nextBit 1 rfl) iX4_wordLength lX8_151 rc_4 rfl rfl rfl (by decide) (by simp only [List.map, vcat, List.sum_cons, List.sum_nil]; decide)) (CX4_wordLength n1 m) (fun x2 m1 => ?_)
  refine g_istore_n (L2 := [(2, .inl x2), (0, .inr (.inr (12, n))), (1, .inr (.inr (4, n1)))]) (kdX8_nextBit 2 rfl) rfl (by decide) ?_
  refine g_iload_n 0 (kdX8_nextBit 3 rfl) rfl ?_
  refine g_if_le (tgt := 20) (kdX8_nextBit 4 rfl) (by decide) (fun _ => ?_) (fun _ => ?_)
  · refine g_aload_n 1 (kdX8_nextBit 12 rfl) rfl ?_
    refine g_get (v := .inl (m1.1 12 n 14)) (kdX8_nextBit 13 rfl) fX8_72 rfl ?_
    refine g_iconst (v := 1) (kdX8_nextBit 14 rfl) (by decide) ?_
    refine g_iand (kdX8_nextBit 15 rfl) ?_
    refine g_lt (fun x3 => ?_)
    refine g_istore_n (L2 := [(3, .inl x3), (2, .inl x2), (0, .inr (.inr (12, n))), (1, .inr (.inr (4, n1)))]) (kdX8_nextBit 16 rfl) rfl (by decide) ?_
    refine g_aload_n 2 (kdX8_nextBit 17 rfl) rfl ?_
    refine g_get (v := .inl (m1.1 12 n 14)) (kdX8_nextBit 18 rfl) fX8_72 rfl ?_
    refine g_aload_n 2 (kdX8_nextBit 19 rfl) rfl ?_
    refine g_get (v := .inl (m1.1 12 n 14)) (kdX8_nextBit 20 rfl) fX8_72 rfl ?_
    refine g_iconst (v := 1) (kdX8_nextBit 21 rfl) (by decide) ?_
    refine g_ishr (kdX8_nextBit 22 rfl) ?_
    refine g_ixor (kdX8_nextBit 23 rfl) ?_
    refine g_iconst (v := 1) (kdX8_nextBit 24 rfl) (by decide) ?_
    refine g_iand (kdX8_nextBit 25 rfl) ?_
    refine g_lt (fun x4 => ?_)
    refine g_istore (L2 := [(4, .inl x4), (3, .inl x3), (2, .inl x2), (0, .inr (.inr (12, n))), (1, .inr (.inr (4, n1)))]) (kdX8_nextBit 26 rfl) rfl (by decide) ?_
    refine g_aload_n 3 (kdX8_nextBit 27 rfl) rfl ?_
    refine g_aload_n 3 (kdX8_nextBit 28 rfl) rfl ?_
    refine g_get (v := .inl (m1.1 12 n 14)) (kdX8_nextBit 29 rfl) fX8_72 rfl ?_
    refine g_iconst (v := 1) (kdX8_nextBit 30 rfl) (by decide) ?_
    refine g_ishr (kdX8_nextBit 31 rfl) ?_
    refine g_iload 0 (kdX8_nextBit 32 rfl) rfl ?_
    refine g_bipush (v := 6) (kdX8_nextBit 33 rfl) (by decide) ?_
    refine g_ishl (kdX8_nextBit 34 rfl) ?_
    refine g_ior (kdX8_nextBit 35 rfl) ?_
    refine g_putI (kdX8_nextBit 36 rfl) fX8_72 rfl (fun m5 => ?_)
    refine g_iload_n 1 (kdX8_nextBit 37 rfl) rfl ?_
    exact g_iret rfl (kdX8_nextBit 38 rfl)
  · refine g_aload_n 2 (kdX8_nextBit 5 rfl) rfl ?_
    refine g_aload_n 1 (kdX8_nextBit 6 rfl) rfl ?_
    refine g_get (v := .inl (m1.1 12 n 6)) (kdX8_nextBit 7 rfl) fX8_41 rfl ?_
    refine g_iload_n 0 (kdX8_nextBit 8 rfl) rfl ?_
    refine g_iremx (kdX8_nextBit 9 rfl) (fun x6 => ?_)
    refine g_calI (ck_V (As := [.inl x6]) (S := []) (t := 4) (o := n1) (kdX8_nextBit 10 rfl) iX4_wordAt lX8_154 rc_4 rfl rfl rfl (by decide) (by simp only [List.map, vcat, List.sum_cons, List.sum_nil]; decide)) (CX4_wordAt n1 x6 m1) (fun x8 m7 => ?_)
    exact g_iret rfl (kdX8_nextBit 11 rfl)
def JX8_sendBit_18 (v100 : Int32) (w101 : Nat) (m : hM) : hR :=
  calV (JX11_push 15 w101 v100 m) fun m3 =>
  some (none, m3)
set_option maxRecDepth 20000 in
theorem BX8_sendBit_18 (v100 : Int32) (w101 : Nat) (m : hM) : G mX8_sendBit 2 18 [] [.inl v100, .inr (.inr (15, w101))] m (JX8_sendBit_18 v100 w101 m) := by
  unfold JX8_sendBit_18
  refine g_calV (ck_S (As := [.inr (.inr (15, w101)), .inl v100]) (S := []) (kdX8_sendBit 10 rfl) iX11_push lX8_147 rfl rfl rfl (by decide) (by simp only [List.map, vcat, List.sum_cons, List.sum_nil]; decide)) (CX11_push 15 w101 v100 m) (fun m3 => ?_)
  exact g_vret rfl (kdX8_sendBit 11 rfl)
def JX8_sendBit (n : Nat) (n1 : Nat) (m : hM) : hR :=
  calI (JX8_nextBit n n1 m) fun x2 m1 =>
  if x2 = 1 then (JX8_sendBit_18 1 n m1) else (JX8_sendBit_18 (-1) n m1)
set_option maxRecDepth 20000 in
theorem CX8_sendBit (n : Nat) (n1 : Nat) (m : hM) : Cn mX8_sendBit 2 [.inr (.inr (12, n)), .inr (.inr (4, n1))] m (JX8_sendBit n n1 m) := by
  refine cn_of (by decide +kernel) (by simp only [List.map, vcat, List.sum_cons, List.sum_nil]; decide) ?_
  unfold JX8_sendBit
  show G mX8_sendBit 2 0 [(0, .inr (.inr (12, n))), (1, .inr (.inr (4, n1)))] [] m _
  refine g_aload_n 0 (kdX8_sendBit 0 rfl) rfl ?_
  refine g_get (v := .inr (.inr (15, n))) (kdX8_sendBit 1 rfl) fX8_18 rfl ?_
  refine g_aload_n 0 (kdX8_sendBit 2 rfl) rfl ?_
  refine g_aload_n 1 (kdX8_sendBit 3 rfl) rfl ?_
  refine g_calI (ck_V (As := [.inr (.inr (4, n1))]) (S := [.inr (.inr (15, n))]) (t := 12) (o := n) (kdX8_sendBit 4 rfl) iX8_nextBit lX8_143 rc_12 rfl rfl rfl (by decide) (by simp only [List.map, vcat, List.sum_cons, List.sum_nil]; decide)) (CX8_nextBit n n1 m) (fun x2 m1 => ?_)
  refine g_iconst (v := 1) (kdX8_sendBit 5 rfl) (by decide) ?_
  refine g_icmp_ne (tgt := 17) (kdX8_sendBit 6 rfl) (by decide) (fun _ => ?_) (fun _ => ?_)
  · refine g_iconst (v := (-1)) (kdX8_sendBit 9 rfl) (by decide) ?_
    exact g_fgt [] rfl (BX8_sendBit_18 (-1) n m1)
  · refine g_iconst (v := 1) (kdX8_sendBit 7 rfl) (by decide) ?_
    refine g_goto (tgt := 18) (kdX8_sendBit 8 rfl) (by decide) ?_
    exact g_fgt [] rfl (BX8_sendBit_18 1 n m1)
def JX8_pass (n : Nat) (n1 : Nat) (m : hM) : hR :=
  calV (JX8_sendBit n n1 m) fun m1 =>
  calI (JX8_drawnNoise n m1) fun x3 m2 =>
  calV (JX8_receive n n1 x3 m2) fun m4 =>
  some (none, m4)
set_option maxRecDepth 20000 in
theorem CX8_pass (n : Nat) (n1 : Nat) (m : hM) : Cn mX8_pass 4 [.inr (.inr (12, n)), .inr (.inr (4, n1))] m (JX8_pass n n1 m) := by
  refine cn_of (by decide +kernel) (by simp only [List.map, vcat, List.sum_cons, List.sum_nil]; decide) ?_
  unfold JX8_pass
  show G mX8_pass 4 0 [(0, .inr (.inr (12, n))), (1, .inr (.inr (4, n1)))] [] m _
  refine g_aload_n 0 (kdX8_pass 0 rfl) rfl ?_
  refine g_aload_n 1 (kdX8_pass 1 rfl) rfl ?_
  refine g_calV (ck_V (As := [.inr (.inr (4, n1))]) (S := []) (t := 12) (o := n) (kdX8_pass 2 rfl) iX8_sendBit lX8_132 rc_12 rfl rfl rfl (by decide) (by simp only [List.map, vcat, List.sum_cons, List.sum_nil]; decide)) (CX8_sendBit n n1 m) (fun m1 => ?_)
  refine g_aload_n 0 (kdX8_pass 3 rfl) rfl ?_
  refine g_aload_n 1 (kdX8_pass 4 rfl) rfl ?_
  refine g_aload_n 0 (kdX8_pass 5 rfl) rfl ?_
  refine g_calI (ck_V (As := []) (S := [.inr (.inr (4, n1)), .inr (.inr (12, n))]) (t := 12) (o := n) (kdX8_pass 6 rfl) iX8_drawnNoise lX8_135 rc_12 rfl rfl rfl (by decide) (by simp only [List.map, vcat, List.sum_cons, List.sum_nil]; decide)) (CX8_drawnNoise n m1) (fun x3 m2 => ?_)
  refine g_calV (ck_V (As := [.inr (.inr (4, n1)), .inl x3]) (S := []) (t := 12) (o := n) (kdX8_pass 7 rfl) iX8_receive lX8_139 rc_12 rfl rfl rfl (by decide) (by simp only [List.map, vcat, List.sum_cons, List.sum_nil]; decide)) (CX8_receive n n1 x3 m2) (fun m4 => ?_)
  exact g_vret rfl (kdX8_pass 8 rfl)
def bJX8_wrongIn_11 (K11 : Int32 → hM → hR) (K28 : hM → hR) (w0 : Nat) (w1 : Nat) (v2 : Int32) (v3 : Int32) (v4 : Int32) (m : hM) : hR :=
  if v2 ≤ v4 then (K28 m) else (calV (JX8_pass w0 w1 m) fun m2 =>
  K11 (v4 + 1) m2)
set_option maxRecDepth 20000 in
theorem BbJX8_wrongIn_11 (K11 : Int32 → hM → hR) (K28 : hM → hR) (w0 : Nat) (w1 : Nat) (v2 : Int32) (v3 : Int32) (h11 : ∀ (v4 : Int32) (m : hM), G mX8_wrongIn 5 11 [(0, .inr (.inr (12, w0))), (1, .inr (.inr (4, w1))), (2, .inl v2), (3, .inl v3), (4, .inl v4)] [] m (K11 v4 m)) (h28 : ∀ (m : hM), G mX8_wrongIn 5 28 [(0, .inr (.inr (12, w0))), (3, .inl v3)] [] m (K28 m)) (v4 : Int32) (m : hM) : G mX8_wrongIn 5 11 [(0, .inr (.inr (12, w0))), (1, .inr (.inr (4, w1))), (2, .inl v2), (3, .inl v3), (4, .inl v4)] [] m (bJX8_wrongIn_11 K11 K28 w0 w1 v2 v3 v4 m) := by
  unfold bJX8_wrongIn_11
  refine g_iload 4 (kdX8_wrongIn 6 rfl) rfl ?_
  refine g_iload_n 2 (kdX8_wrongIn 7 rfl) rfl ?_
  refine g_icmp_ge (tgt := 28) (kdX8_wrongIn 8 rfl) (by decide) (fun _ => ?_) (fun _ => ?_)
  · exact g_fgt [0, 3] rfl (h28 m)
  · refine g_aload_n 0 (kdX8_wrongIn 9 rfl) rfl ?_
    refine g_aload_n 1 (kdX8_wrongIn 10 rfl) rfl ?_
    refine g_calV (ck_V (As := [.inr (.inr (4, w1))]) (S := []) (t := 12) (o := w0) (kdX8_wrongIn 11 rfl) iX8_pass lX8_128 rc_12 rfl rfl rfl (by decide) (by simp only [List.map, vcat, List.sum_cons, List.sum_nil]; decide)) (CX8_pass w0 w1 m) (fun m2 => ?_)
    refine g_iinc (v := v4 + 1) (L2 := [(4, .inl (v4 + 1)), (0, .inr (.inr (12, w0))), (1, .inr (.inr (4, w1))), (2, .inl v2), (3, .inl v3)]) 4 (kdX8_wrongIn 12 rfl) rfl rfl rfl (by decide) ?_
    refine g_goto (tgt := 11) (kdX8_wrongIn 13 rfl) (by decide) ?_
    exact g_fgt [1, 2, 3, 4, 0] rfl (h11 (v4 + 1) m2)
def JX8_wrongIn_11 (K28 : hM → hR) (w0 : Nat) (w1 : Nat) (v2 : Int32) (v3 : Int32) : Nat → Int32 → hM → hR
  | 0, _, _ => none
  | f + 1, v4, m => bJX8_wrongIn_11 (fun v4 m => JX8_wrongIn_11 K28 w0 w1 v2 v3 f v4 m) K28 w0 w1 v2 v3 v4 m
theorem BJX8_wrongIn_11 (K28 : hM → hR) (w0 : Nat) (w1 : Nat) (v2 : Int32) (v3 : Int32) (h28 : ∀ (m : hM), G mX8_wrongIn 5 28 [(0, .inr (.inr (12, w0))), (3, .inl v3)] [] m (K28 m)) : ∀ (f : Nat) (v4 : Int32) (m : hM), G mX8_wrongIn 5 11 [(0, .inr (.inr (12, w0))), (1, .inr (.inr (4, w1))), (2, .inl v2), (3, .inl v3), (4, .inl v4)] [] m (JX8_wrongIn_11 K28 w0 w1 v2 v3 f v4 m)
  | 0, _, _ => g_none
  | f + 1, v4, m => BbJX8_wrongIn_11  _ K28 w0 w1 v2 v3 (fun v4 m => BJX8_wrongIn_11  K28 w0 w1 v2 v3 h28 f v4 m) h28 v4 m
def JX8_wrongIn (n : Nat) (n1 : Nat) (a2 : Int32) (m : hM) : hR :=
  lt (m.1 18 n 3) fun x1 =>
  JX8_wrongIn_11 (fun m3 => some (some (.inl ((m3.1 18 n 3) - x1)), m3)) n n1 a2 x1 FU 0 m
set_option maxRecDepth 20000 in
theorem CX8_wrongIn (n : Nat) (n1 : Nat) (a2 : Int32) (m : hM) : Cn mX8_wrongIn 5 [.inr (.inr (12, n)), .inr (.inr (4, n1)), .inl a2] m (JX8_wrongIn n n1 a2 m) := by
  refine cn_of (by decide +kernel) (by simp only [List.map, vcat, List.sum_cons, List.sum_nil]; decide) ?_
  unfold JX8_wrongIn
  show G mX8_wrongIn 5 0 [(0, .inr (.inr (12, n))), (1, .inr (.inr (4, n1))), (2, .inl a2)] [] m _
  refine g_aload_n 0 (kdX8_wrongIn 0 rfl) rfl ?_
  refine g_get (v := .inr (.inr (18, n))) (kdX8_wrongIn 1 rfl) fX8_30 rfl ?_
  refine g_get (v := .inl (m.1 18 n 3)) (kdX8_wrongIn 2 rfl) fX8_105 rfl ?_
  refine g_lt (fun x1 => ?_)
  refine g_istore_n (L2 := [(3, .inl x1), (0, .inr (.inr (12, n))), (1, .inr (.inr (4, n1))), (2, .inl a2)]) (kdX8_wrongIn 3 rfl) rfl (by decide) ?_
  refine g_iconst (v := 0) (kdX8_wrongIn 4 rfl) (by decide) ?_
  refine g_istore (L2 := [(4, .inl 0), (3, .inl x1), (0, .inr (.inr (12, n))), (1, .inr (.inr (4, n1))), (2, .inl a2)]) (kdX8_wrongIn 5 rfl) rfl (by decide) ?_
  refine g_fgt [2, 3, 4, 1, 0] rfl (BJX8_wrongIn_11  _ n n1 a2 x1 ?_ FU 0 m)
  · intro m3
    refine g_aload_n 0 (kdX8_wrongIn 14 rfl) rfl ?_
    refine g_get (v := .inr (.inr (18, n))) (kdX8_wrongIn 15 rfl) fX8_30 rfl ?_
    refine g_get (v := .inl (m3.1 18 n 3)) (kdX8_wrongIn 16 rfl) fX8_105 rfl ?_
    refine g_iload_n 1 (kdX8_wrongIn 17 rfl) rfl ?_
    refine g_isub (kdX8_wrongIn 18 rfl) ?_
    exact g_iret rfl (kdX8_wrongIn 19 rfl)
def JX8_wouldErr_41 (v100 : Int32) (v101 : Int32) (m : hM) : hR :=
  if v101 = v100 then (jretZ 0 m) else (jretZ 1 m)
set_option maxRecDepth 20000 in
theorem BX8_wouldErr_41 (v100 : Int32) (v101 : Int32) (m : hM) : G mX8_wouldErr 2 41 [] [.inl v100, .inl v101] m (JX8_wouldErr_41 v100 v101 m) := by
  unfold JX8_wouldErr_41
  refine g_icmp_eq (tgt := 48) (kdX8_wouldErr 24 rfl) (by decide) (fun _ => ?_) (fun _ => ?_)
  · refine g_iconst (v := 0) (kdX8_wouldErr 27 rfl) (by decide) ?_
    exact g_zret rfl (kdX8_wouldErr 28 rfl)
  · refine g_iconst (v := 1) (kdX8_wouldErr 25 rfl) (by decide) ?_
    refine g_goto (tgt := 49) (kdX8_wouldErr 26 rfl) (by decide) ?_
    exact g_zret rfl (kdX8_wouldErr 28 rfl)
def JX8_wouldErr (n : Nat) (n1 : Nat) (a2 : Int32) (m : hM) : hR :=
  calI (JX8_sampleWith n n1 a2 m) fun x2 m1 =>
  calI (JX8_foreSum n n1 x2 m1) fun x4 m3 =>
  calI (JX8_backSum n n1 m3) fun x6 m5 =>
  lt (x4 - x6) fun x7 =>
  calI (JX8_truthNow n n1 m5) fun x9 m8 =>
  if x9 = 0 then (jretZ 0 m8) else (if x7 < 0 then (JX8_wouldErr_41 (-1) x9 m8) else (JX8_wouldErr_41 1 x9 m8))
set_option maxRecDepth 20000 in
theorem CX8_wouldErr (n : Nat) (n1 : Nat) (a2 : Int32) (m : hM) : Cn mX8_wouldErr 2 [.inr (.inr (12, n)), .inr (.inr (4, n1)), .inl a2] m (JX8_wouldErr n n1 a2 m) := by
  refine cn_of (by decide +kernel) (by simp only [List.map, vcat, List.sum_cons, List.sum_nil]; decide) ?_
  unfold JX8_wouldErr
  show G mX8_wouldErr 2 0 [(0, .inr (.inr (12, n))), (1, .inr (.inr (4, n1))), (2, .inl a2)] [] m _
  refine g_aload_n 0 (kdX8_wouldErr 0 rfl) rfl ?_
  refine g_aload_n 1 (kdX8_wouldErr 1 rfl) rfl ?_
  refine g_aload_n 0 (kdX8_wouldErr 2 rfl) rfl ?_
  refine g_aload_n 1 (kdX8_wouldErr 3 rfl) rfl ?_
  refine g_iload_n 2 (kdX8_wouldErr 4 rfl) rfl ?_
  refine g_calI (ck_V (As := [.inr (.inr (4, n1)), .inl a2]) (S := [.inr (.inr (4, n1)), .inr (.inr (12, n))]) (t := 12) (o := n) (kdX8_wouldErr 5 rfl) iX8_sampleWith lX8_165 rc_12 rfl rfl rfl (by decide) (by simp only [List.map, vcat, List.sum_cons, List.sum_nil]; decide)) (CX8_sampleWith n n1 a2 m) (fun x2 m1 => ?_)
  refine g_calI (ck_V (As := [.inr (.inr (4, n1)), .inl x2]) (S := []) (t := 12) (o := n) (kdX8_wouldErr 6 rfl) iX8_foreSum lX8_169 rc_12 rfl rfl rfl (by decide) (by simp only [List.map, vcat, List.sum_cons, List.sum_nil]; decide)) (CX8_foreSum n n1 x2 m1) (fun x4 m3 => ?_)
  refine g_aload_n 0 (kdX8_wouldErr 7 rfl) rfl ?_
  refine g_aload_n 1 (kdX8_wouldErr 8 rfl) rfl ?_
  refine g_calI (ck_V (As := [.inr (.inr (4, n1))]) (S := [.inl x4]) (t := 12) (o := n) (kdX8_wouldErr 9 rfl) iX8_backSum lX8_172 rc_12 rfl rfl rfl (by decide) (by simp only [List.map, vcat, List.sum_cons, List.sum_nil]; decide)) (CX8_backSum n n1 m3) (fun x6 m5 => ?_)
  refine g_isub (kdX8_wouldErr 10 rfl) ?_
  refine g_lt (fun x7 => ?_)
  refine g_istore_n (L2 := [(3, .inl x7), (0, .inr (.inr (12, n))), (1, .inr (.inr (4, n1))), (2, .inl a2)]) (kdX8_wouldErr 11 rfl) rfl (by decide) ?_
  refine g_aload_n 1 (kdX8_wouldErr 12 rfl) rfl ?_
  refine g_aload_n 2 (kdX8_wouldErr 13 rfl) rfl ?_
  refine g_calI (ck_V (As := [.inr (.inr (4, n1))]) (S := []) (t := 12) (o := n) (kdX8_wouldErr 14 rfl) iX8_truthNow lX8_175 rc_12 rfl rfl rfl (by decide) (by simp only [List.map, vcat, List.sum_cons, List.sum_nil]; decide)) (CX8_truthNow n n1 m5) (fun x9 m8 => ?_)
  refine g_istore (L2 := [(4, .inl x9), (3, .inl x7), (0, .inr (.inr (12, n))), (1, .inr (.inr (4, n1))), (2, .inl a2)]) (kdX8_wouldErr 15 rfl) rfl (by decide) ?_
  refine g_iload 0 (kdX8_wouldErr 16 rfl) rfl ?_
  refine g_if_eq (tgt := 48) (kdX8_wouldErr 17 rfl) (by decide) (fun _ => ?_) (fun _ => ?_)
  · refine g_iconst (v := 0) (kdX8_wouldErr 27 rfl) (by decide) ?_
    exact g_zret rfl (kdX8_wouldErr 28 rfl)
  · refine g_iload 0 (kdX8_wouldErr 18 rfl) rfl ?_
    refine g_iload_n 1 (kdX8_wouldErr 19 rfl) rfl ?_
    refine g_if_lt (tgt := 40) (kdX8_wouldErr 20 rfl) (by decide) (fun _ => ?_) (fun _ => ?_)
    · refine g_iconst (v := (-1)) (kdX8_wouldErr 23 rfl) (by decide) ?_
      exact g_fgt [] rfl (BX8_wouldErr_41 (-1) x9 m8)
    · refine g_iconst (v := 1) (kdX8_wouldErr 21 rfl) (by decide) ?_
      refine g_goto (tgt := 41) (kdX8_wouldErr 22 rfl) (by decide) ?_
      exact g_fgt [] rfl (BX8_wouldErr_41 1 x9 m8)
