abbrev mX12_years : hMt := (yX12_years, cX12_years, 5, some .int)
def tX12_years : hTb := [(0, .aload_n 0, 1, 1), (1, .getfield 203, 3, 4), (4, .ifCond .eq 13, 3, 7), (7, .iload_n 1, 1, 8), (8, .iconst 1, 1, 9), (9, .bipush 40, 2, 11), (11, .invokestatic 89, 3, 14), (14, .ifCond .ne 5, 3, 17), (17, .iconst (-1), 1, 18), (18, .ireturn, 1, 19), (19, .aload_n 0, 1, 20), (20, .lload_n 2, 1, 21), (21, .putfield 331, 3, 24), (24, .iconst 0, 1, 25), (25, .istore 4, 2, 27), (27, .iload 4, 2, 29), (29, .iload_n 1, 1, 30), (30, .if_icmp .ge 17, 3, 33), (33, .aload_n 0, 1, 34), (34, .invokevirtual 316, 3, 37), (37, .aload_n 0, 1, 38), (38, .invokevirtual 337, 3, 41), (41, .iinc 4 1, 3, 44), (44, .goto (-17), 3, 47), (47, .aload_n 0, 1, 48), (48, .getfield 37, 3, 51), (51, .bipush 18, 2, 53), (53, .iaload, 1, 54), (54, .ireturn, 1, 55)]
theorem ktX12_years : TbOK mX12_years tX12_years := by
  unfold TbOK
  decide +kernel
theorem kdX12_years (k : Nat) {pc : Nat} {i : Instr} {len nx : Nat} (hk : tX12_years[k]? = some (pc, i, len, nx)) : Dc mX12_years pc i len nx := dc_of ktX12_years k hk
theorem iX12_years : MiV mX12_years := ⟨⟨gdw_of (i := 1812) (by decide +kernel) (by decide +kernel), gdw_of (i := 124) (by decide +kernel) (by decide +kernel), by decide, by decide, by decide⟩, gdw_of (i := 1810) (by decide +kernel) (by decide +kernel), gdw_of (i := 1811) (by decide +kernel) (by decide +kernel)⟩
abbrev mX12_status : hMt := (yX12_status, cX12_status, 2, some .int)
def tX12_status : hTb := [(0, .iload_n 1, 1, 1), (1, .iconst 0, 1, 2), (2, .iconst 3, 1, 3), (3, .invokestatic 89, 3, 6), (6, .ifCond .eq 12, 3, 9), (9, .aload_n 0, 1, 10), (10, .getfield 40, 3, 13), (13, .iload_n 1, 1, 14), (14, .iaload, 1, 15), (15, .goto 4, 3, 18), (18, .iconst (-1), 1, 19), (19, .ireturn, 1, 20)]
theorem ktX12_status : TbOK mX12_status tX12_status := by
  unfold TbOK
  decide +kernel
theorem kdX12_status (k : Nat) {pc : Nat} {i : Instr} {len nx : Nat} (hk : tX12_status[k]? = some (pc, i, len, nx)) : Dc mX12_status pc i len nx := dc_of ktX12_status k hk
theorem iX12_status : MiV mX12_status := ⟨⟨gdw_of (i := 1824) (by decide +kernel) (by decide +kernel), gdw_of (i := 124) (by decide +kernel) (by decide +kernel), by decide, by decide, by decide⟩, gdw_of (i := 1822) (by decide +kernel) (by decide +kernel), gdw_of (i := 1823) (by decide +kernel) (by decide +kernel)⟩
abbrev mX12_undo : hMt := (yX12_undo, cX12_undo, 2, some .int)
def tX12_undo : hTb := [(0, .aload_n 0, 1, 1), (1, .getfield 207, 3, 4), (4, .ifCond .ne 5, 3, 7), (7, .iconst (-1), 1, 8), (8, .ireturn, 1, 9), (9, .aload_n 0, 1, 10), (10, .dup, 1, 11), (11, .getfield 207, 3, 14), (14, .iconst 1, 1, 15), (15, .isub, 1, 16), (16, .putfield 207, 3, 19), (19, .iconst 0, 1, 20), (20, .istore_n 1, 1, 21), (21, .iload_n 1, 1, 22), (22, .sipush 232, 3, 25), (25, .if_icmp .ge 30, 3, 28), (28, .aload_n 0, 1, 29), (29, .getfield 37, 3, 32), (32, .iload_n 1, 1, 33), (33, .aload_n 0, 1, 34), (34, .getfield 54, 3, 37), (37, .sipush 232, 3, 40), (40, .aload_n 0, 1, 41), (41, .getfield 207, 3, 44), (44, .imul, 1, 45), (45, .iload_n 1, 1, 46), (46, .iadd, 1, 47), (47, .iaload, 1, 48), (48, .iastore, 1, 49), (49, .iinc 1 1, 3, 52), (52, .goto (-31), 3, 55), (55, .aload_n 0, 1, 56), (56, .getfield 207, 3, 59), (59, .ireturn, 1, 60)]
theorem ktX12_undo : TbOK mX12_undo tX12_undo := by
  unfold TbOK
  decide +kernel
theorem kdX12_undo (k : Nat) {pc : Nat} {i : Instr} {len nx : Nat} (hk : tX12_undo[k]? = some (pc, i, len, nx)) : Dc mX12_undo pc i len nx := dc_of ktX12_undo k hk
theorem iX12_undo : MiV mX12_undo := ⟨⟨gdw_of (i := 1828) (by decide +kernel) (by decide +kernel), gdw_of (i := 124) (by decide +kernel) (by decide +kernel), by decide, by decide, by decide⟩, gdw_of (i := 1826) (by decide +kernel) (by decide +kernel), gdw_of (i := 1827) (by decide +kernel) (by decide +kernel)⟩
abbrev mX12_log : hMt := (yX12_log, cX12_log, 3, some .int)
def tX12_log : hTb := [(0, .iload_n 1, 1, 1), (1, .iconst 0, 1, 2), (2, .aload_n 0, 1, 3), (3, .getfield 37, 3, 6), (6, .bipush 51, 2, 8), (8, .iaload, 1, 9), (9, .iconst 1, 1, 10), (10, .isub, 1, 11), (11, .invokestatic 89, 3, 14), (14, .ifCond .eq 38, 3, 17), (17, .iload_n 2, 1, 18), (18, .iconst 0, 1, 19), (19, .iconst 2, 1, 20), (20, .invokestatic 89, 3, 23), (23, .ifCond .eq 29, 3, 26), (26, .aload_n 0, 1, 27), (27, .getfield 37, 3, 30), (30, .bipush 52, 2, 32), (32, .iconst 3, 1, 33), (33, .aload_n 0, 1, 34), (34, .getfield 37, 3, 37), (37, .bipush 51, 2, 39), (39, .iaload, 1, 40), (40, .iconst 1, 1, 41), (41, .isub, 1, 42), (42, .iload_n 1, 1, 43), (43, .isub, 1, 44), (44, .imul, 1, 45), (45, .iadd, 1, 46), (46, .iload_n 2, 1, 47), (47, .iadd, 1, 48), (48, .iaload, 1, 49), (49, .goto 5, 3, 52), (52, .ldc 50, 2, 54), (54, .ireturn, 1, 55)]
theorem ktX12_log : TbOK mX12_log tX12_log := by
  unfold TbOK
  decide +kernel
theorem kdX12_log (k : Nat) {pc : Nat} {i : Instr} {len nx : Nat} (hk : tX12_log[k]? = some (pc, i, len, nx)) : Dc mX12_log pc i len nx := dc_of ktX12_log k hk
theorem iX12_log : MiV mX12_log := ⟨⟨gdw_of (i := 1832) (by decide +kernel) (by decide +kernel), gdw_of (i := 124) (by decide +kernel) (by decide +kernel), by decide, by decide, by decide⟩, gdw_of (i := 1830) (by decide +kernel) (by decide +kernel), gdw_of (i := 1831) (by decide +kernel) (by decide +kernel)⟩
abbrev mX12_rule : hMt := (yX12_rule, cX12_rule, 2, some .int)
def tX12_rule : hTb := [(0, .aload_n 0, 1, 1), (1, .getfield 203, 3, 4), (4, .ifCond .eq 22, 3, 7), (7, .iload_n 1, 1, 8), (8, .iconst 0, 1, 9), (9, .bipush 12, 2, 11), (11, .invokestatic 89, 3, 14), (14, .ifCond .eq 12, 3, 17), (17, .aload_n 0, 1, 18), (18, .getfield 22, 3, 21), (21, .iload_n 1, 1, 22), (22, .iaload, 1, 23), (23, .goto 4, 3, 26), (26, .iconst (-1), 1, 27), (27, .ireturn, 1, 28)]
theorem ktX12_rule : TbOK mX12_rule tX12_rule := by
  unfold TbOK
  decide +kernel
theorem kdX12_rule (k : Nat) {pc : Nat} {i : Instr} {len nx : Nat} (hk : tX12_rule[k]? = some (pc, i, len, nx)) : Dc mX12_rule pc i len nx := dc_of ktX12_rule k hk
theorem iX12_rule : MiV mX12_rule := ⟨⟨gdw_of (i := 1836) (by decide +kernel) (by decide +kernel), gdw_of (i := 124) (by decide +kernel) (by decide +kernel), by decide, by decide, by decide⟩, gdw_of (i := 1834) (by decide +kernel) (by decide +kernel), gdw_of (i := 1835) (by decide +kernel) (by decide +kernel)⟩
abbrev mX12_told : hMt := (yX12_told, cX12_told, 3, some .int)
def tX12_told : hTb := [(0, .aload_n 0, 1, 1), (1, .getfield 203, 3, 4), (4, .ifCond .eq 37, 3, 7), (7, .iload_n 1, 1, 8), (8, .iconst 0, 1, 9), (9, .iconst 1, 1, 10), (10, .invokestatic 89, 3, 13), (13, .ifCond .eq 28, 3, 16), (16, .iload_n 2, 1, 17), (17, .iconst 0, 1, 18), (18, .aload_n 0, 1, 19), (19, .getfield 22, 3, 22), (22, .iload_n 1, 1, 23), (23, .ifCond .ne 7, 3, 26), (26, .iconst 0, 1, 27), (27, .goto 5, 3, 30), (30, .bipush 12, 2, 32), (32, .iaload, 1, 33), (33, .iconst 1, 1, 34), (34, .isub, 1, 35), (35, .invokestatic 89, 3, 38), (38, .ifCond .ne 6, 3, 41), (41, .ldc 50, 2, 43), (43, .ireturn, 1, 44), (44, .iload_n 1, 1, 45), (45, .ifCond .ne 12, 3, 48), (48, .aload_n 0, 1, 49), (49, .getfield 25, 3, 52), (52, .iload_n 2, 1, 53), (53, .iaload, 1, 54), (54, .goto 9, 3, 57), (57, .aload_n 0, 1, 58), (58, .getfield 28, 3, 61), (61, .iload_n 2, 1, 62), (62, .iaload, 1, 63), (63, .ireturn, 1, 64)]
theorem ktX12_told : TbOK mX12_told tX12_told := by
  unfold TbOK
  decide +kernel
theorem kdX12_told (k : Nat) {pc : Nat} {i : Instr} {len nx : Nat} (hk : tX12_told[k]? = some (pc, i, len, nx)) : Dc mX12_told pc i len nx := dc_of ktX12_told k hk
theorem iX12_told : MiV mX12_told := ⟨⟨gdw_of (i := 1840) (by decide +kernel) (by decide +kernel), gdw_of (i := 124) (by decide +kernel) (by decide +kernel), by decide, by decide, by decide⟩, gdw_of (i := 1838) (by decide +kernel) (by decide +kernel), gdw_of (i := 1839) (by decide +kernel) (by decide +kernel)⟩
abbrev mX12_tap : hMt := (yX12_tap, cX12_tap, 3, some .int)
def tX12_tap : hTb := [(0, .aload_n 0, 1, 1), (1, .aload_n 0, 1, 2), (2, .iload_n 1, 1, 3), (3, .invokevirtual 325, 3, 6), (6, .ifCond .eq 16, 3, 9), (9, .iload_n 2, 1, 10), (10, .iconst 0, 1, 11), (11, .iconst 1, 1, 12), (12, .invokestatic 89, 3, 15), (15, .ifCond .eq 7, 3, 18), (18, .iconst 0, 1, 19), (19, .goto 4, 3, 22), (22, .iconst 1, 1, 23), (23, .putfield 79, 3, 26), (26, .aload_n 0, 1, 27), (27, .getfield 79, 3, 30), (30, .iconst 1, 1, 31), (31, .if_icmp .ne 7, 3, 34), (34, .iconst 0, 1, 35), (35, .goto 20, 3, 38), (38, .aload_n 0, 1, 39), (39, .getfield 37, 3, 42), (42, .iload_n 2, 1, 43), (43, .ifCond .ne 7, 3, 46), (46, .iconst 0, 1, 47), (47, .goto 5, 3, 50), (50, .bipush 6, 2, 52), (52, .iload_n 1, 1, 53), (53, .iadd, 1, 54), (54, .iaload, 1, 55), (55, .ireturn, 1, 56)]
theorem ktX12_tap : TbOK mX12_tap tX12_tap := by
  unfold TbOK
  decide +kernel
theorem kdX12_tap (k : Nat) {pc : Nat} {i : Instr} {len nx : Nat} (hk : tX12_tap[k]? = some (pc, i, len, nx)) : Dc mX12_tap pc i len nx := dc_of ktX12_tap k hk
theorem iX12_tap : MiV mX12_tap := ⟨⟨gdw_of (i := 1844) (by decide +kernel) (by decide +kernel), gdw_of (i := 124) (by decide +kernel) (by decide +kernel), by decide, by decide, by decide⟩, gdw_of (i := 1842) (by decide +kernel) (by decide +kernel), gdw_of (i := 1843) (by decide +kernel) (by decide +kernel)⟩
abbrev mX12_now : hMt := (yX12_now, cX12_now, 2, some .int)
def tX12_now : hTb := [(0, .aload_n 0, 1, 1), (1, .getfield 203, 3, 4), (4, .ifCond .ne 6, 3, 7), (7, .ldc 50, 2, 9), (9, .ireturn, 1, 10), (10, .iload_n 1, 1, 11), (11, .tableswitch 241 0 18 #[89, 97, 105, 113, 121, 129, 137, 145, 153, 161, 169, 177, 185, 193, 201, 209, 217, 225, 233], 89, 100), (100, .aload_n 0, 1, 101), (101, .getfield 37, 3, 104), (104, .bipush 18, 2, 106), (106, .iaload, 1, 107), (107, .ireturn, 1, 108), (108, .aload_n 0, 1, 109), (109, .getfield 37, 3, 112), (112, .bipush 14, 2, 114), (114, .iaload, 1, 115), (115, .ireturn, 1, 116), (116, .aload_n 0, 1, 117), (117, .getfield 37, 3, 120), (120, .bipush 16, 2, 122), (122, .iaload, 1, 123), (123, .ireturn, 1, 124), (124, .aload_n 0, 1, 125), (125, .getfield 37, 3, 128), (128, .bipush 17, 2, 130), (130, .iaload, 1, 131), (131, .ireturn, 1, 132), (132, .aload_n 0, 1, 133), (133, .getfield 37, 3, 136), (136, .bipush 20, 2, 138), (138, .iaload, 1, 139), (139, .ireturn, 1, 140), (140, .aload_n 0, 1, 141), (141, .getfield 37, 3, 144), (144, .bipush 19, 2, 146), (146, .iaload, 1, 147), (147, .ireturn, 1, 148), (148, .aload_n 0, 1, 149), (149, .getfield 37, 3, 152), (152, .bipush 21, 2, 154), (154, .iaload, 1, 155), (155, .ireturn, 1, 156), (156, .aload_n 0, 1, 157), (157, .getfield 37, 3, 160), (160, .bipush 22, 2, 162), (162, .iaload, 1, 163), (163, .ireturn, 1, 164), (164, .aload_n 0, 1, 165), (165, .getfield 37, 3, 168), (168, .bipush 23, 2, 170), (170, .iaload, 1, 171), (171, .ireturn, 1, 172), (172, .aload_n 0, 1, 173), (173, .getfield 37, 3, 176), (176, .bipush 24, 2, 178), (178, .iaload, 1, 179), (179, .ireturn, 1, 180), (180, .aload_n 0, 1, 181), (181, .getfield 37, 3, 184), (184, .bipush 25, 2, 186), (186, .iaload, 1, 187), (187, .ireturn, 1, 188), (188, .aload_n 0, 1, 189), (189, .getfield 37, 3, 192), (192, .bipush 26, 2, 194), (194, .iaload, 1, 195), (195, .ireturn, 1, 196), (196, .aload_n 0, 1, 197), (197, .getfield 37, 3, 200), (200, .bipush 27, 2, 202), (202, .iaload, 1, 203), (203, .ireturn, 1, 204), (204, .aload_n 0, 1, 205), (205, .getfield 37, 3, 208), (208, .bipush 28, 2, 210), (210, .iaload, 1, 211), (211, .ireturn, 1, 212), (212, .aload_n 0, 1, 213), (213, .getfield 37, 3, 216), (216, .bipush 29, 2, 218), (218, .iaload, 1, 219), (219, .ireturn, 1, 220), (220, .aload_n 0, 1, 221), (221, .getfield 37, 3, 224), (224, .bipush 30, 2, 226), (226, .iaload, 1, 227), (227, .ireturn, 1, 228), (228, .aload_n 0, 1, 229), (229, .getfield 37, 3, 232), (232, .bipush 12, 2, 234), (234, .iaload, 1, 235), (235, .ireturn, 1, 236), (236, .aload_n 0, 1, 237), (237, .getfield 37, 3, 240), (240, .bipush 13, 2, 242), (242, .iaload, 1, 243), (243, .ireturn, 1, 244), (244, .aload_n 0, 1, 245), (245, .getfield 37, 3, 248), (248, .bipush 15, 2, 250), (250, .iaload, 1, 251), (251, .ireturn, 1, 252), (252, .ldc 50, 2, 254), (254, .ireturn, 1, 255)]
theorem ktX12_now : TbOK mX12_now tX12_now := by
  unfold TbOK
  decide +kernel
theorem kdX12_now (k : Nat) {pc : Nat} {i : Instr} {len nx : Nat} (hk : tX12_now[k]? = some (pc, i, len, nx)) : Dc mX12_now pc i len nx := dc_of ktX12_now k hk
theorem iX12_now : MiV mX12_now := ⟨⟨gdw_of (i := 1848) (by decide +kernel) (by decide +kernel), gdw_of (i := 124) (by decide +kernel) (by decide +kernel), by decide, by decide, by decide⟩, gdw_of (i := 1846) (by decide +kernel) (by decide +kernel), gdw_of (i := 1847) (by decide +kernel) (by decide +kernel)⟩
abbrev mX12_ago : hMt := (yX12_ago, cX12_ago, 3, some .int)
def tX12_ago : hTb := [(0, .aload_n 0, 1, 1), (1, .getfield 203, 3, 4), (4, .ifCond .eq 29, 3, 7), (7, .iload_n 1, 1, 8), (8, .iconst 0, 1, 9), (9, .iconst 2, 1, 10), (10, .invokestatic 89, 3, 13), (13, .ifCond .eq 20, 3, 16), (16, .iload_n 2, 1, 17), (17, .iconst 0, 1, 18), (18, .iload_n 1, 1, 19), (19, .ifCond .ne 7, 3, 22), (22, .iconst 5, 1, 23), (23, .goto 4, 3, 26), (26, .iconst 2, 1, 27), (27, .invokestatic 89, 3, 30), (30, .ifCond .ne 6, 3, 33), (33, .ldc 50, 2, 35), (35, .ireturn, 1, 36), (36, .aload_n 0, 1, 37), (37, .getfield 37, 3, 40), (40, .iload_n 1, 1, 41), (41, .ifCond .ne 8, 3, 44), (44, .bipush 31, 2, 46), (46, .goto 15, 3, 49), (49, .iload_n 1, 1, 50), (50, .iconst 1, 1, 51), (51, .if_icmp .ne 8, 3, 54), (54, .bipush 37, 2, 56), (56, .goto 5, 3, 59), (59, .bipush 40, 2, 61), (61, .iload_n 2, 1, 62), (62, .iadd, 1, 63), (63, .iaload, 1, 64), (64, .ireturn, 1, 65)]
theorem ktX12_ago : TbOK mX12_ago tX12_ago := by
  unfold TbOK
  decide +kernel
theorem kdX12_ago (k : Nat) {pc : Nat} {i : Instr} {len nx : Nat} (hk : tX12_ago[k]? = some (pc, i, len, nx)) : Dc mX12_ago pc i len nx := dc_of ktX12_ago k hk
theorem iX12_ago : MiV mX12_ago := ⟨⟨gdw_of (i := 1852) (by decide +kernel) (by decide +kernel), gdw_of (i := 124) (by decide +kernel) (by decide +kernel), by decide, by decide, by decide⟩, gdw_of (i := 1850) (by decide +kernel) (by decide +kernel), gdw_of (i := 1851) (by decide +kernel) (by decide +kernel)⟩
abbrev mX12_putAside : hMt := (yX12_putAside, cX12_putAside, 3, none)
def tX12_putAside : hTb := [(0, .aload_n 0, 1, 1), (1, .iconst 1, 1, 2), (2, .putfield 256, 3, 5), (5, .iconst 0, 1, 6), (6, .istore_n 2, 1, 7), (7, .iload_n 2, 1, 8), (8, .bipush 51, 2, 10), (10, .if_icmp .ge 26, 3, 13), (13, .aload_n 0, 1, 14), (14, .getfield 57, 3, 17), (17, .bipush 51, 2, 19), (19, .iload_n 1, 1, 20), (20, .imul, 1, 21), (21, .iload_n 2, 1, 22), (22, .iadd, 1, 23), (23, .aload_n 0, 1, 24), (24, .getfield 37, 3, 27), (27, .iload_n 2, 1, 28), (28, .iaload, 1, 29), (29, .iastore, 1, 30), (30, .iinc 2 1, 3, 33), (33, .goto (-26), 3, 36), (36, .return_, 1, 37)]
theorem ktX12_putAside : TbOK mX12_putAside tX12_putAside := by
  unfold TbOK
  decide +kernel
theorem kdX12_putAside (k : Nat) {pc : Nat} {i : Instr} {len nx : Nat} (hk : tX12_putAside[k]? = some (pc, i, len, nx)) : Dc mX12_putAside pc i len nx := dc_of ktX12_putAside k hk
theorem iX12_putAside : MiV mX12_putAside := ⟨⟨gdw_of (i := 1868) (by decide +kernel) (by decide +kernel), gdw_of (i := 124) (by decide +kernel) (by decide +kernel), by decide, by decide, by decide⟩, gdw_of (i := 1867) (by decide +kernel) (by decide +kernel), gdw_of (i := 96) (by decide +kernel) (by decide +kernel)⟩
abbrev mX12_bringBack : hMt := (yX12_bringBack, cX12_bringBack, 3, none)
def tX12_bringBack : hTb := [(0, .aload_n 0, 1, 1), (1, .iload_n 1, 1, 2), (2, .ifCond .le 7, 3, 5), (5, .iconst 1, 1, 6), (6, .goto 4, 3, 9), (9, .iconst 0, 1, 10), (10, .putfield 256, 3, 13), (13, .iconst 0, 1, 14), (14, .istore_n 2, 1, 15), (15, .iload_n 2, 1, 16), (16, .bipush 51, 2, 18), (18, .if_icmp .ge 26, 3, 21), (21, .aload_n 0, 1, 22), (22, .getfield 37, 3, 25), (25, .iload_n 2, 1, 26), (26, .aload_n 0, 1, 27), (27, .getfield 57, 3, 30), (30, .bipush 51, 2, 32), (32, .iload_n 1, 1, 33), (33, .imul, 1, 34), (34, .iload_n 2, 1, 35), (35, .iadd, 1, 36), (36, .iaload, 1, 37), (37, .iastore, 1, 38), (38, .iinc 2 1, 3, 41), (41, .goto (-26), 3, 44), (44, .return_, 1, 45)]
theorem ktX12_bringBack : TbOK mX12_bringBack tX12_bringBack := by
  unfold TbOK
  decide +kernel
theorem kdX12_bringBack (k : Nat) {pc : Nat} {i : Instr} {len nx : Nat} (hk : tX12_bringBack[k]? = some (pc, i, len, nx)) : Dc mX12_bringBack pc i len nx := dc_of ktX12_bringBack k hk
theorem iX12_bringBack : MiV mX12_bringBack := ⟨⟨gdw_of (i := 1884) (by decide +kernel) (by decide +kernel), gdw_of (i := 124) (by decide +kernel) (by decide +kernel), by decide, by decide, by decide⟩, gdw_of (i := 1883) (by decide +kernel) (by decide +kernel), gdw_of (i := 100) (by decide +kernel) (by decide +kernel)⟩
abbrev mX12_isScript : hMt := (yX12_isScript, cX12_isScript, 2, some .boolean)
def tX12_isScript : hTb := [(0, .aload_n 0, 1, 1), (1, .getfield 203, 3, 4), (4, .ifCond .eq 21, 3, 7), (7, .iload_n 1, 1, 8), (8, .iconst 0, 1, 9), (9, .aload_n 0, 1, 10), (10, .getfield 219, 3, 13), (13, .iconst 1, 1, 14), (14, .isub, 1, 15), (15, .invokestatic 89, 3, 18), (18, .ifCond .eq 7, 3, 21), (21, .iconst 1, 1, 22), (22, .goto 4, 3, 25), (25, .iconst 0, 1, 26), (26, .ireturn, 1, 27)]
theorem ktX12_isScript : TbOK mX12_isScript tX12_isScript := by
  unfold TbOK
  decide +kernel
theorem kdX12_isScript (k : Nat) {pc : Nat} {i : Instr} {len nx : Nat} (hk : tX12_isScript[k]? = some (pc, i, len, nx)) : Dc mX12_isScript pc i len nx := dc_of ktX12_isScript k hk
theorem iX12_isScript : MiV mX12_isScript := ⟨⟨gdw_of (i := 1864) (by decide +kernel) (by decide +kernel), gdw_of (i := 124) (by decide +kernel) (by decide +kernel), by decide, by decide, by decide⟩, gdw_of (i := 1863) (by decide +kernel) (by decide +kernel), gdw_of (i := 95) (by decide +kernel) (by decide +kernel)⟩
abbrev mX12_step : hMt := (yX12_step, cX12_step, 4, some .int)
def tX12_step : hTb := [(0, .iload_n 1, 1, 1), (1, .iconst 0, 1, 2), (2, .aload_n 0, 1, 3), (3, .getfield 219, 3, 6), (6, .iconst 1, 1, 7), (7, .isub, 1, 8), (8, .invokestatic 89, 3, 11), (11, .ifCond .eq 46, 3, 14), (14, .iload_n 2, 1, 15), (15, .iconst 0, 1, 16), (16, .aload_n 0, 1, 17), (17, .getfield 34, 3, 20), (20, .iload_n 1, 1, 21), (21, .iaload, 1, 22), (22, .iconst 1, 1, 23), (23, .isub, 1, 24), (24, .invokestatic 89, 3, 27), (27, .ifCond .eq 30, 3, 30), (30, .iload_n 3, 1, 31), (31, .iconst 0, 1, 32), (32, .iconst 2, 1, 33), (33, .invokestatic 89, 3, 36), (36, .ifCond .eq 21, 3, 39), (39, .aload_n 0, 1, 40), (40, .getfield 31, 3, 43), (43, .iconst 3, 1, 44), (44, .bipush 12, 2, 46), (46, .iload_n 1, 1, 47), (47, .imul, 1, 48), (48, .iload_n 2, 1, 49), (49, .iadd, 1, 50), (50, .imul, 1, 51), (51, .iload_n 3, 1, 52), (52, .iadd, 1, 53), (53, .iaload, 1, 54), (54, .goto 5, 3, 57), (57, .ldc 50, 2, 59), (59, .ireturn, 1, 60)]
theorem ktX12_step : TbOK mX12_step tX12_step := by
  unfold TbOK
  decide +kernel
theorem kdX12_step (k : Nat) {pc : Nat} {i : Instr} {len nx : Nat} (hk : tX12_step[k]? = some (pc, i, len, nx)) : Dc mX12_step pc i len nx := dc_of ktX12_step k hk
theorem iX12_step : MiV mX12_step := ⟨⟨gdw_of (i := 1856) (by decide +kernel) (by decide +kernel), gdw_of (i := 124) (by decide +kernel) (by decide +kernel), by decide, by decide, by decide⟩, gdw_of (i := 1854) (by decide +kernel) (by decide +kernel), gdw_of (i := 1855) (by decide +kernel) (by decide +kernel)⟩
abbrev mX12_canStep : hMt := (yX12_canStep, cX12_canStep, 3, some .boolean)
def tX12_canStep : hTb := [(0, .aload_n 0, 1, 1), (1, .getfield 31, 3, 4), (4, .iload_n 1, 1, 5), (5, .iconst 1, 1, 6), (6, .iadd, 1, 7), (7, .iaload, 1, 8), (8, .istore_n 2, 1, 9), (9, .aload_n 0, 1, 10), (10, .getfield 31, 3, 13), (13, .iload_n 1, 1, 14), (14, .iaload, 1, 15), (15, .tableswitch 179 0 6 #[41, 62, 79, 96, 129, 145, 162], 41, 56), (56, .aload_n 0, 1, 57), (57, .getfield 37, 3, 60), (60, .bipush 18, 2, 62), (62, .iaload, 1, 63), (63, .iload_n 2, 1, 64), (64, .iadd, 1, 65), (65, .sipush 9999, 3, 68), (68, .if_icmp .gt 7, 3, 71), (71, .iconst 1, 1, 72), (72, .goto 4, 3, 75), (75, .iconst 0, 1, 76), (76, .ireturn, 1, 77), (77, .aload_n 0, 1, 78), (78, .getfield 37, 3, 81), (81, .bipush 14, 2, 83), (83, .iaload, 1, 84), (84, .iload_n 2, 1, 85), (85, .if_icmp .eq 7, 3, 88), (88, .iconst 1, 1, 89), (89, .goto 4, 3, 92), (92, .iconst 0, 1, 93), (93, .ireturn, 1, 94), (94, .aload_n 0, 1, 95), (95, .getfield 37, 3, 98), (98, .bipush 16, 2, 100), (100, .iaload, 1, 101), (101, .iload_n 2, 1, 102), (102, .if_icmp .eq 7, 3, 105), (105, .iconst 1, 1, 106), (106, .goto 4, 3, 109), (109, .iconst 0, 1, 110), (110, .ireturn, 1, 111), (111, .aload_n 0, 1, 112), (112, .iload_n 2, 1, 113), (113, .invokevirtual 325, 3, 116), (116, .ifCond .eq 26, 3, 119), (119, .aload_n 0, 1, 120), (120, .getfield 37, 3, 123), (123, .iconst 0, 1, 124), (124, .iload_n 2, 1, 125), (125, .iadd, 1, 126), (126, .iaload, 1, 127), (127, .aload_n 0, 1, 128), (128, .getfield 31, 3, 131), (131, .iload_n 1, 1, 132), (132, .iconst 2, 1, 133), (133, .iadd, 1, 134), (134, .iaload, 1, 135), (135, .if_icmp .eq 7, 3, 138), (138, .iconst 1, 1, 139), (139, .goto 4, 3, 142), (142, .iconst 0, 1, 143), (143, .ireturn, 1, 144), (144, .aload_n 0, 1, 145), (145, .getfield 37, 3, 148), (148, .bipush 22, 2, 150), (150, .iaload, 1, 151), (151, .ifCond .ne 7, 3, 154), (154, .iconst 1, 1, 155), (155, .goto 4, 3, 158), (158, .iconst 0, 1, 159), (159, .ireturn, 1, 160), (160, .aload_n 0, 1, 161), (161, .getfield 37, 3, 164), (164, .bipush 20, 2, 166), (166, .iaload, 1, 167), (167, .iload_n 2, 1, 168), (168, .if_icmp .eq 7, 3, 171), (171, .iconst 1, 1, 172), (172, .goto 4, 3, 175), (175, .iconst 0, 1, 176), (176, .ireturn, 1, 177), (177, .aload_n 0, 1, 178), (178, .getfield 37, 3, 181), (181, .bipush 19, 2, 183), (183, .iaload, 1, 184), (184, .iload_n 2, 1, 185), (185, .if_icmp .eq 7, 3, 188), (188, .iconst 1, 1, 189), (189, .goto 4, 3, 192), (192, .iconst 0, 1, 193), (193, .ireturn, 1, 194), (194, .aload_n 0, 1, 195), (195, .aload_n 0, 1, 196), (196, .getfield 37, 3, 199), (199, .bipush 14, 2, 201), (201, .iaload, 1, 202), (202, .invokevirtual 310, 3, 205), (205, .iconst (-1), 1, 206), (206, .if_icmp .eq 7, 3, 209), (209, .iconst 1, 1, 210), (210, .goto 4, 3, 213), (213, .iconst 0, 1, 214), (214, .ireturn, 1, 215)]
theorem ktX12_canStep : TbOK mX12_canStep tX12_canStep := by
  unfold TbOK
  decide +kernel
theorem kdX12_canStep (k : Nat) {pc : Nat} {i : Instr} {len nx : Nat} (hk : tX12_canStep[k]? = some (pc, i, len, nx)) : Dc mX12_canStep pc i len nx := dc_of ktX12_canStep k hk
theorem iX12_canStep : MiV mX12_canStep := ⟨⟨gdw_of (i := 1876) (by decide +kernel) (by decide +kernel), gdw_of (i := 124) (by decide +kernel) (by decide +kernel), by decide, by decide, by decide⟩, gdw_of (i := 1875) (by decide +kernel) (by decide +kernel), gdw_of (i := 98) (by decide +kernel) (by decide +kernel)⟩
abbrev mX12_doStep : hMt := (yX12_doStep, cX12_doStep, 3, some .int)
def tX12_doStep : hTb := [(0, .aload_n 0, 1, 1), (1, .getfield 31, 3, 4), (4, .iload_n 1, 1, 5), (5, .iconst 1, 1, 6), (6, .iadd, 1, 7), (7, .iaload, 1, 8), (8, .istore_n 2, 1, 9), (9, .aload_n 0, 1, 10), (10, .getfield 31, 3, 13), (13, .iload_n 1, 1, 14), (14, .iaload, 1, 15), (15, .tableswitch 125 0 6 #[41, 47, 57, 67, 95, 105, 115], 41, 56), (56, .aload_n 0, 1, 57), (57, .iload_n 2, 1, 58), (58, .invokevirtual 319, 3, 61), (61, .ireturn, 1, 62), (62, .aload_n 0, 1, 63), (63, .getfield 37, 3, 66), (66, .bipush 14, 2, 68), (68, .iload_n 2, 1, 69), (69, .iastore, 1, 70), (70, .iconst 0, 1, 71), (71, .ireturn, 1, 72), (72, .aload_n 0, 1, 73), (73, .getfield 37, 3, 76), (76, .bipush 16, 2, 78), (78, .iload_n 2, 1, 79), (79, .iastore, 1, 80), (80, .iconst 0, 1, 81), (81, .ireturn, 1, 82), (82, .aload_n 0, 1, 83), (83, .getfield 37, 3, 86), (86, .iconst 0, 1, 87), (87, .iload_n 2, 1, 88), (88, .iadd, 1, 89), (89, .aload_n 0, 1, 90), (90, .getfield 31, 3, 93), (93, .iload_n 1, 1, 94), (94, .iconst 2, 1, 95), (95, .iadd, 1, 96), (96, .iaload, 1, 97), (97, .iastore, 1, 98), (98, .aload_n 0, 1, 99), (99, .getfield 37, 3, 102), (102, .bipush 6, 2, 104), (104, .iload_n 2, 1, 105), (105, .iadd, 1, 106), (106, .iconst 0, 1, 107), (107, .iastore, 1, 108), (108, .iconst 0, 1, 109), (109, .ireturn, 1, 110), (110, .aload_n 0, 1, 111), (111, .getfield 37, 3, 114), (114, .bipush 22, 2, 116), (116, .iconst 1, 1, 117), (117, .iastore, 1, 118), (118, .iconst 0, 1, 119), (119, .ireturn, 1, 120), (120, .aload_n 0, 1, 121), (121, .getfield 37, 3, 124), (124, .bipush 20, 2, 126), (126, .iload_n 2, 1, 127), (127, .iastore, 1, 128), (128, .iconst 0, 1, 129), (129, .ireturn, 1, 130), (130, .aload_n 0, 1, 131), (131, .getfield 37, 3, 134), (134, .bipush 19, 2, 136), (136, .iload_n 2, 1, 137), (137, .iastore, 1, 138), (138, .iconst 0, 1, 139), (139, .ireturn, 1, 140), (140, .aload_n 0, 1, 141), (141, .invokevirtual 328, 3, 144), (144, .iconst 0, 1, 145), (145, .ireturn, 1, 146)]
theorem ktX12_doStep : TbOK mX12_doStep tX12_doStep := by
  unfold TbOK
  decide +kernel
theorem kdX12_doStep (k : Nat) {pc : Nat} {i : Instr} {len nx : Nat} (hk : tX12_doStep[k]? = some (pc, i, len, nx)) : Dc mX12_doStep pc i len nx := dc_of ktX12_doStep k hk
theorem iX12_doStep : MiV mX12_doStep := ⟨⟨gdw_of (i := 1880) (by decide +kernel) (by decide +kernel), gdw_of (i := 124) (by decide +kernel) (by decide +kernel), by decide, by decide, by decide⟩, gdw_of (i := 1879) (by decide +kernel) (by decide +kernel), gdw_of (i := 99) (by decide +kernel) (by decide +kernel)⟩
abbrev mX12_goSteps : hMt := (yX12_goSteps, cX12_goSteps, 3, none)
def tX12_goSteps : hTb := [(0, .aload_n 0, 1, 1), (1, .iconst 0, 1, 2), (2, .putfield 340, 3, 5), (5, .aload_n 0, 1, 6), (6, .iconst 0, 1, 7), (7, .putfield 343, 3, 10), (10, .aload_n 0, 1, 11), (11, .getfield 340, 3, 14), (14, .aload_n 0, 1, 15), (15, .getfield 34, 3, 18), (18, .iload_n 1, 1, 19), (19, .iaload, 1, 20), (20, .if_icmp .ge 66, 3, 23), (23, .aload_n 0, 1, 24), (24, .iconst 3, 1, 25), (25, .bipush 12, 2, 27), (27, .iload_n 1, 1, 28), (28, .imul, 1, 29), (29, .aload_n 0, 1, 30), (30, .getfield 340, 3, 33), (33, .iadd, 1, 34), (34, .imul, 1, 35), (35, .invokevirtual 346, 3, 38), (38, .ifCond .eq 48, 3, 41), (41, .iload_n 2, 1, 42), (42, .ifCond .eq 7, 3, 45), (45, .aload_n 0, 1, 46), (46, .invokevirtual 316, 3, 49), (49, .aload_n 0, 1, 50), (50, .dup, 1, 51), (51, .getfield 343, 3, 54), (54, .aload_n 0, 1, 55), (55, .iconst 3, 1, 56), (56, .bipush 12, 2, 58), (58, .iload_n 1, 1, 59), (59, .imul, 1, 60), (60, .aload_n 0, 1, 61), (61, .getfield 340, 3, 64), (64, .iadd, 1, 65), (65, .imul, 1, 66), (66, .invokevirtual 349, 3, 69), (69, .iadd, 1, 70), (70, .putfield 343, 3, 73), (73, .aload_n 0, 1, 74), (74, .dup, 1, 75), (75, .getfield 340, 3, 78), (78, .iconst 1, 1, 79), (79, .iadd, 1, 80), (80, .putfield 340, 3, 83), (83, .goto (-73), 3, 86), (86, .return_, 1, 87)]
theorem ktX12_goSteps : TbOK mX12_goSteps tX12_goSteps := by
  unfold TbOK
  decide +kernel
theorem kdX12_goSteps (k : Nat) {pc : Nat} {i : Instr} {len nx : Nat} (hk : tX12_goSteps[k]? = some (pc, i, len, nx)) : Dc mX12_goSteps pc i len nx := dc_of ktX12_goSteps k hk
theorem iX12_goSteps : MiV mX12_goSteps := ⟨⟨gdw_of (i := 1872) (by decide +kernel) (by decide +kernel), gdw_of (i := 124) (by decide +kernel) (by decide +kernel), by decide, by decide, by decide⟩, gdw_of (i := 1871) (by decide +kernel) (by decide +kernel), gdw_of (i := 97) (by decide +kernel) (by decide +kernel)⟩
abbrev mX12_run : hMt := (yX12_run, cX12_run, 3, some .int)
def tX12_run : hTb := [(0, .aload_n 0, 1, 1), (1, .iload_n 1, 1, 2), (2, .invokevirtual 352, 3, 5), (5, .ifCond .eq 12, 3, 8), (8, .iload_n 2, 1, 9), (9, .iconst 0, 1, 10), (10, .iconst 1, 1, 11), (11, .invokestatic 89, 3, 14), (14, .ifCond .ne 6, 3, 17), (17, .ldc 50, 2, 19), (19, .ireturn, 1, 20), (20, .aload_n 0, 1, 21), (21, .iconst 0, 1, 22), (22, .invokevirtual 355, 3, 25), (25, .aload_n 0, 1, 26), (26, .iload_n 1, 1, 27), (27, .iconst 0, 1, 28), (28, .invokevirtual 358, 3, 31), (31, .aload_n 0, 1, 32), (32, .iconst 0, 1, 33), (33, .invokevirtual 362, 3, 36), (36, .iload_n 2, 1, 37), (37, .iconst 1, 1, 38), (38, .if_icmp .ne 10, 3, 41), (41, .aload_n 0, 1, 42), (42, .getfield 343, 3, 45), (45, .goto 24, 3, 48), (48, .aload_n 0, 1, 49), (49, .getfield 340, 3, 52), (52, .aload_n 0, 1, 53), (53, .getfield 34, 3, 56), (56, .iload_n 1, 1, 57), (57, .iaload, 1, 58), (58, .if_icmp .ne 7, 3, 61), (61, .iconst (-1), 1, 62), (62, .goto 7, 3, 65), (65, .aload_n 0, 1, 66), (66, .getfield 340, 3, 69), (69, .ireturn, 1, 70)]
theorem ktX12_run : TbOK mX12_run tX12_run := by
  unfold TbOK
  decide +kernel
theorem kdX12_run (k : Nat) {pc : Nat} {i : Instr} {len nx : Nat} (hk : tX12_run[k]? = some (pc, i, len, nx)) : Dc mX12_run pc i len nx := dc_of ktX12_run k hk
theorem iX12_run : MiV mX12_run := ⟨⟨gdw_of (i := 1860) (by decide +kernel) (by decide +kernel), gdw_of (i := 124) (by decide +kernel) (by decide +kernel), by decide, by decide, by decide⟩, gdw_of (i := 1858) (by decide +kernel) (by decide +kernel), gdw_of (i := 1859) (by decide +kernel) (by decide +kernel)⟩
abbrev mX12_perform : hMt := (yX12_perform, cX12_perform, 2, some .int)
def tX12_perform : hTb := [(0, .aload_n 0, 1, 1), (1, .iload_n 1, 1, 2), (2, .invokevirtual 352, 3, 5), (5, .ifCond .ne 5, 3, 8), (8, .iconst (-1), 1, 9), (9, .ireturn, 1, 10), (10, .aload_n 0, 1, 11), (11, .iload_n 1, 1, 12), (12, .iconst 1, 1, 13), (13, .invokevirtual 358, 3, 16), (16, .aload_n 0, 1, 17), (17, .getfield 340, 3, 20), (20, .ireturn, 1, 21)]
theorem ktX12_perform : TbOK mX12_perform tX12_perform := by
  unfold TbOK
  decide +kernel
theorem kdX12_perform (k : Nat) {pc : Nat} {i : Instr} {len nx : Nat} (hk : tX12_perform[k]? = some (pc, i, len, nx)) : Dc mX12_perform pc i len nx := dc_of ktX12_perform k hk
theorem iX12_perform : MiV mX12_perform := ⟨⟨gdw_of (i := 1888) (by decide +kernel) (by decide +kernel), gdw_of (i := 124) (by decide +kernel) (by decide +kernel), by decide, by decide, by decide⟩, gdw_of (i := 1886) (by decide +kernel) (by decide +kernel), gdw_of (i := 1887) (by decide +kernel) (by decide +kernel)⟩
abbrev mX12_isPhase : hMt := (yX12_isPhase, cX12_isPhase, 2, some .boolean)
def tX12_isPhase : hTb := [(0, .aload_n 0, 1, 1), (1, .getfield 203, 3, 4), (4, .ifCond .eq 16, 3, 7), (7, .iload_n 1, 1, 8), (8, .iconst 0, 1, 9), (9, .iconst 3, 1, 10), (10, .invokestatic 89, 3, 13), (13, .ifCond .eq 7, 3, 16), (16, .iconst 1, 1, 17), (17, .goto 4, 3, 20), (20, .iconst 0, 1, 21), (21, .ireturn, 1, 22)]
theorem ktX12_isPhase : TbOK mX12_isPhase tX12_isPhase := by
  unfold TbOK
  decide +kernel
theorem kdX12_isPhase (k : Nat) {pc : Nat} {i : Instr} {len nx : Nat} (hk : tX12_isPhase[k]? = some (pc, i, len, nx)) : Dc mX12_isPhase pc i len nx := dc_of ktX12_isPhase k hk
theorem iX12_isPhase : MiV mX12_isPhase := ⟨⟨gdw_of (i := 1896) (by decide +kernel) (by decide +kernel), gdw_of (i := 124) (by decide +kernel) (by decide +kernel), by decide, by decide, by decide⟩, gdw_of (i := 1895) (by decide +kernel) (by decide +kernel), gdw_of (i := 101) (by decide +kernel) (by decide +kernel)⟩
abbrev mX12_eye : hMt := (yX12_eye, cX12_eye, 5, some .int)
def tX12_eye : hTb := [(0, .aload_n 0, 1, 1), (1, .iload_n 1, 1, 2), (2, .invokevirtual 365, 3, 5), (5, .ifCond .eq 14, 3, 8), (8, .iload_n 2, 1, 9), (9, .bipush (-99), 2, 11), (11, .bipush 99, 2, 13), (13, .invokestatic 89, 3, 16), (16, .ifCond .ne 5, 3, 19), (19, .iconst (-1), 1, 20), (20, .ireturn, 1, 21), (21, .iconst 0, 1, 22), (22, .istore_n 3, 1, 23), (23, .iconst 0, 1, 24), (24, .istore 4, 2, 26), (26, .iload 4, 2, 28), (28, .bipush 64, 2, 30), (30, .if_icmp .ge 51, 3, 33), (33, .iload_n 3, 1, 34), (34, .aload_n 0, 1, 35), (35, .iload 4, 2, 37), (37, .iload_n 1, 1, 38), (38, .iconst 0, 1, 39), (39, .invokevirtual 301, 3, 42), (42, .bipush 64, 2, 44), (44, .iload_n 2, 1, 45), (45, .imul, 1, 46), (46, .if_icmp .lt 7, 3, 49), (49, .iconst 1, 1, 50), (50, .goto 4, 3, 53), (53, .iconst 0, 1, 54), (54, .iload 4, 2, 56), (56, .aload_n 0, 1, 57), (57, .getfield 22, 3, 60), (60, .iconst 3, 1, 61), (61, .iaload, 1, 62), (62, .invokestatic 178, 3, 65), (65, .if_icmp .ne 7, 3, 68), (68, .iconst 1, 1, 69), (69, .goto 4, 3, 72), (72, .iconst 0, 1, 73), (73, .iadd, 1, 74), (74, .istore_n 3, 1, 75), (75, .iinc 4 1, 3, 78), (78, .goto (-52), 3, 81), (81, .iload_n 3, 1, 82), (82, .ireturn, 1, 83)]
theorem ktX12_eye : TbOK mX12_eye tX12_eye := by
  unfold TbOK
  decide +kernel
theorem kdX12_eye (k : Nat) {pc : Nat} {i : Instr} {len nx : Nat} (hk : tX12_eye[k]? = some (pc, i, len, nx)) : Dc mX12_eye pc i len nx := dc_of ktX12_eye k hk
theorem iX12_eye : MiV mX12_eye := ⟨⟨gdw_of (i := 1892) (by decide +kernel) (by decide +kernel), gdw_of (i := 124) (by decide +kernel) (by decide +kernel), by decide, by decide, by decide⟩, gdw_of (i := 1890) (by decide +kernel) (by decide +kernel), gdw_of (i := 1891) (by decide +kernel) (by decide +kernel)⟩
abbrev mX12_opening : hMt := (yX12_opening, cX12_opening, 3, some .int)
def tX12_opening : hTb := [(0, .aload_n 0, 1, 1), (1, .iload_n 1, 1, 2), (2, .invokevirtual 365, 3, 5), (5, .ifCond .eq 12, 3, 8), (8, .iload_n 2, 1, 9), (9, .iconst 0, 1, 10), (10, .iconst 3, 1, 11), (11, .invokestatic 89, 3, 14), (14, .ifCond .ne 6, 3, 17), (17, .ldc 50, 2, 19), (19, .ireturn, 1, 20), (20, .aload_n 0, 1, 21), (21, .iload_n 1, 1, 22), (22, .invokevirtual 304, 3, 25), (25, .iload_n 2, 1, 26), (26, .ifCond .ne 10, 3, 29), (29, .aload_n 0, 1, 30), (30, .getfield 294, 3, 33), (33, .goto 45, 3, 36), (36, .iload_n 2, 1, 37), (37, .iconst 1, 1, 38), (38, .if_icmp .ne 10, 3, 41), (41, .aload_n 0, 1, 42), (42, .getfield 298, 3, 45), (45, .goto 33, 3, 48), (48, .iload_n 2, 1, 49), (49, .iconst 2, 1, 50), (50, .if_icmp .ne 15, 3, 53), (53, .aload_n 0, 1, 54), (54, .getfield 294, 3, 57), (57, .aload_n 0, 1, 58), (58, .getfield 298, 3, 61), (61, .isub, 1, 62), (62, .goto 16, 3, 65), (65, .aload_n 0, 1, 66), (66, .getfield 294, 3, 69), (69, .aload_n 0, 1, 70), (70, .getfield 298, 3, 73), (73, .iadd, 1, 74), (74, .iconst 2, 1, 75), (75, .invokestatic 368, 3, 78), (78, .ireturn, 1, 79)]
theorem ktX12_opening : TbOK mX12_opening tX12_opening := by
  unfold TbOK
  decide +kernel
theorem kdX12_opening (k : Nat) {pc : Nat} {i : Instr} {len nx : Nat} (hk : tX12_opening[k]? = some (pc, i, len, nx)) : Dc mX12_opening pc i len nx := dc_of ktX12_opening k hk
theorem iX12_opening : MiV mX12_opening := ⟨⟨gdw_of (i := 1900) (by decide +kernel) (by decide +kernel), gdw_of (i := 124) (by decide +kernel) (by decide +kernel), by decide, by decide, by decide⟩, gdw_of (i := 1898) (by decide +kernel) (by decide +kernel), gdw_of (i := 1899) (by decide +kernel) (by decide +kernel)⟩
abbrev mX12_weigh : hMt := (yX12_weigh, cX12_weigh, 4, some .int)
def tX12_weigh : hTb := [(0, .aload_n 0, 1, 1), (1, .iload_n 2, 1, 2), (2, .invokevirtual 365, 3, 5), (5, .ifCond .eq 22, 3, 8), (8, .iload_n 1, 1, 9), (9, .iconst 0, 1, 10), (10, .bipush 63, 2, 12), (12, .invokestatic 89, 3, 15), (15, .ifCond .eq 12, 3, 18), (18, .iload_n 3, 1, 19), (19, .iconst 0, 1, 20), (20, .iconst 1, 1, 21), (21, .invokestatic 89, 3, 24), (24, .ifCond .ne 6, 3, 27), (27, .ldc 50, 2, 29), (29, .ireturn, 1, 30), (30, .iload_n 3, 1, 31), (31, .ifCond .ne 13, 3, 34), (34, .aload_n 0, 1, 35), (35, .iload_n 1, 1, 36), (36, .iload_n 2, 1, 37), (37, .iconst 0, 1, 38), (38, .invokevirtual 301, 3, 41), (41, .goto 21, 3, 44), (44, .iload_n 1, 1, 45), (45, .aload_n 0, 1, 46), (46, .getfield 22, 3, 49), (49, .iconst 3, 1, 50), (50, .iaload, 1, 51), (51, .invokestatic 178, 3, 54), (54, .ifCond .eq 7, 3, 57), (57, .iconst 1, 1, 58), (58, .goto 4, 3, 61), (61, .iconst (-1), 1, 62), (62, .ireturn, 1, 63)]
theorem ktX12_weigh : TbOK mX12_weigh tX12_weigh := by
  unfold TbOK
  decide +kernel
theorem kdX12_weigh (k : Nat) {pc : Nat} {i : Instr} {len nx : Nat} (hk : tX12_weigh[k]? = some (pc, i, len, nx)) : Dc mX12_weigh pc i len nx := dc_of ktX12_weigh k hk
theorem iX12_weigh : MiV mX12_weigh := ⟨⟨gdw_of (i := 1905) (by decide +kernel) (by decide +kernel), gdw_of (i := 124) (by decide +kernel) (by decide +kernel), by decide, by decide, by decide⟩, gdw_of (i := 1903) (by decide +kernel) (by decide +kernel), gdw_of (i := 1904) (by decide +kernel) (by decide +kernel)⟩
abbrev mX12_wholeOnes : hMt := (yX12_wholeOnes, cX12_wholeOnes, 4, some .int)
def tX12_wholeOnes : hTb := [(0, .aload_n 0, 1, 1), (1, .iload_n 1, 1, 2), (2, .invokevirtual 304, 3, 5), (5, .iconst 0, 1, 6), (6, .istore_n 2, 1, 7), (7, .aload_n 0, 1, 8), (8, .getfield 37, 3, 11), (11, .bipush 12, 2, 13), (13, .iaload, 1, 14), (14, .ineg, 1, 15), (15, .istore_n 3, 1, 16), (16, .iload_n 3, 1, 17), (17, .aload_n 0, 1, 18), (18, .getfield 37, 3, 21), (21, .bipush 12, 2, 23), (23, .iaload, 1, 24), (24, .if_icmp .gt 39, 3, 27), (27, .iload_n 2, 1, 28), (28, .aload_n 0, 1, 29), (29, .getfield 298, 3, 32), (32, .bipush 64, 2, 34), (34, .iload_n 3, 1, 35), (35, .imul, 1, 36), (36, .if_icmp .ge 18, 3, 39), (39, .bipush 64, 2, 41), (41, .iload_n 3, 1, 42), (42, .imul, 1, 43), (43, .aload_n 0, 1, 44), (44, .getfield 294, 3, 47), (47, .if_icmp .gt 7, 3, 50), (50, .iconst 1, 1, 51), (51, .goto 4, 3, 54), (54, .iconst 0, 1, 55), (55, .iadd, 1, 56), (56, .istore_n 2, 1, 57), (57, .iinc 3 1, 3, 60), (60, .goto (-44), 3, 63), (63, .iload_n 2, 1, 64), (64, .ireturn, 1, 65)]
theorem ktX12_wholeOnes : TbOK mX12_wholeOnes tX12_wholeOnes := by
  unfold TbOK
  decide +kernel
theorem kdX12_wholeOnes (k : Nat) {pc : Nat} {i : Instr} {len nx : Nat} (hk : tX12_wholeOnes[k]? = some (pc, i, len, nx)) : Dc mX12_wholeOnes pc i len nx := dc_of ktX12_wholeOnes k hk
theorem iX12_wholeOnes : MiV mX12_wholeOnes := ⟨⟨gdw_of (i := 1913) (by decide +kernel) (by decide +kernel), gdw_of (i := 124) (by decide +kernel) (by decide +kernel), by decide, by decide, by decide⟩, gdw_of (i := 1912) (by decide +kernel) (by decide +kernel), gdw_of (i := 102) (by decide +kernel) (by decide +kernel)⟩
abbrev mX12_map : hMt := (yX12_map, cX12_map, 7, some .int)
def tX12_map : hTb := [(0, .aload_n 0, 1, 1), (1, .getfield 203, 3, 4), (4, .ifCond .eq 12, 3, 7), (7, .iload_n 1, 1, 8), (8, .iconst 0, 1, 9), (9, .iconst 2, 1, 10), (10, .invokestatic 89, 3, 13), (13, .ifCond .ne 5, 3, 16), (16, .iconst (-1), 1, 17), (17, .ireturn, 1, 18), (18, .iconst 0, 1, 19), (19, .istore_n 2, 1, 20), (20, .iconst 0, 1, 21), (21, .istore_n 3, 1, 22), (22, .iconst (-1), 1, 23), (23, .istore 4, 2, 25), (25, .iconst 0, 1, 26), (26, .istore 5, 2, 28), (28, .iload 5, 2, 30), (30, .iconst 4, 1, 31), (31, .if_icmp .ge 36, 3, 34), (34, .aload_n 0, 1, 35), (35, .iload 5, 2, 37), (37, .invokevirtual 371, 3, 40), (40, .istore 6, 2, 42), (42, .iload_n 2, 1, 43), (43, .iload 6, 2, 45), (45, .iadd, 1, 46), (46, .istore_n 2, 1, 47), (47, .iload 6, 2, 49), (49, .iload 4, 2, 51), (51, .if_icmp .le 10, 3, 54), (54, .iload 5, 2, 56), (56, .istore_n 3, 1, 57), (57, .iload 6, 2, 59), (59, .istore 4, 2, 61), (61, .iinc 5 1, 3, 64), (64, .goto (-36), 3, 67), (67, .iload_n 1, 1, 68), (68, .ifCond .ne 7, 3, 71), (71, .iload_n 2, 1, 72), (72, .goto 14, 3, 75), (75, .iload_n 1, 1, 76), (76, .iconst 1, 1, 77), (77, .if_icmp .ne 7, 3, 80), (80, .iload_n 3, 1, 81), (81, .goto 5, 3, 84), (84, .iload 4, 2, 86), (86, .ireturn, 1, 87)]
theorem ktX12_map : TbOK mX12_map tX12_map := by
  unfold TbOK
  decide +kernel
theorem kdX12_map (k : Nat) {pc : Nat} {i : Instr} {len nx : Nat} (hk : tX12_map[k]? = some (pc, i, len, nx)) : Dc mX12_map pc i len nx := dc_of ktX12_map k hk
theorem iX12_map : MiV mX12_map := ⟨⟨gdw_of (i := 1909) (by decide +kernel) (by decide +kernel), gdw_of (i := 124) (by decide +kernel) (by decide +kernel), by decide, by decide, by decide⟩, gdw_of (i := 1907) (by decide +kernel) (by decide +kernel), gdw_of (i := 1908) (by decide +kernel) (by decide +kernel)⟩
theorem lX12_346 : Lk RX12 346 mX12_canStep := Or.inl (gdw_of (i := 1873) (by decide +kernel) (by decide +kernel))
theorem lX12_349 : Lk RX12 349 mX12_doStep := Or.inl (gdw_of (i := 1877) (by decide +kernel) (by decide +kernel))
theorem lX12_352 : Lk RX12 352 mX12_isScript := Or.inl (gdw_of (i := 1861) (by decide +kernel) (by decide +kernel))
theorem lX12_355 : Lk RX12 355 mX12_putAside := Or.inl (gdw_of (i := 1865) (by decide +kernel) (by decide +kernel))
theorem lX12_358 : Lk RX12 358 mX12_goSteps := Or.inl (gdw_of (i := 1869) (by decide +kernel) (by decide +kernel))
theorem lX12_362 : Lk RX12 362 mX12_bringBack := Or.inl (gdw_of (i := 1881) (by decide +kernel) (by decide +kernel))
theorem lX12_365 : Lk RX12 365 mX12_isPhase := Or.inl (gdw_of (i := 1893) (by decide +kernel) (by decide +kernel))
theorem lX12_371 : Lk RX12 371 mX12_wholeOnes := Or.inl (gdw_of (i := 1910) (by decide +kernel) (by decide +kernel))
def bJX12_years_27 (K27 : Int32 → hM → hR) (K47 : hM → hR) (v1 : Int32) (v4 : Int32) (m : hM) : hR :=
  if v1 ≤ v4 then (K47 m) else (calV (JX12_keep m) fun m4 =>
  calV (JX12_drawYear m4) fun m5 =>
  K27 (v4 + 1) m5)
set_option maxRecDepth 20000 in
theorem BbJX12_years_27 (K27 : Int32 → hM → hR) (K47 : hM → hR) (v1 : Int32) (h27 : ∀ (v4 : Int32) (m : hM), G mX12_years 6 27 [(0, .inr (.inr (40, 0))), (1, .inl v1), (4, .inl v4)] [] m (K27 v4 m)) (h47 : ∀ (m : hM), G mX12_years 6 47 [(0, .inr (.inr (40, 0)))] [] m (K47 m)) (v4 : Int32) (m : hM) : G mX12_years 6 27 [(0, .inr (.inr (40, 0))), (1, .inl v1), (4, .inl v4)] [] m (bJX12_years_27 K27 K47 v1 v4 m) := by
  unfold bJX12_years_27
  refine g_iload 2 (kdX12_years 15 rfl) rfl ?_
  refine g_iload_n 1 (kdX12_years 16 rfl) rfl ?_
  refine g_icmp_ge (tgt := 47) (kdX12_years 17 rfl) (by decide) (fun _ => ?_) (fun _ => ?_)
  · exact g_fgt [0] rfl (h47 m)
  · refine g_aload_n 0 (kdX12_years 18 rfl) rfl ?_
    refine g_calV (ck_V (As := []) (S := []) (t := 40) (o := 0) (kdX12_years 19 rfl) iX12_keep lX12_316 rc_40 rfl rfl rfl (by decide) (by simp only [List.map, vcat, List.sum_cons, List.sum_nil]; decide)) (CX12_keep m) (fun m4 => ?_)
    refine g_aload_n 0 (kdX12_years 20 rfl) rfl ?_
    refine g_calV (ck_V (As := []) (S := []) (t := 40) (o := 0) (kdX12_years 21 rfl) iX12_drawYear lX12_337 rc_40 rfl rfl rfl (by decide) (by simp only [List.map, vcat, List.sum_cons, List.sum_nil]; decide)) (CX12_drawYear m4) (fun m5 => ?_)
    refine g_iinc (v := v4 + 1) (L2 := [(4, .inl (v4 + 1)), (0, .inr (.inr (40, 0))), (1, .inl v1)]) 2 (kdX12_years 22 rfl) rfl rfl rfl (by decide) ?_
    refine g_goto (tgt := 27) (kdX12_years 23 rfl) (by decide) ?_
    exact g_fgt [1, 2, 0] rfl (h27 (v4 + 1) m5)
def JX12_years_27 (K47 : hM → hR) (v1 : Int32) : Nat → Int32 → hM → hR
  | 0, _, _ => none
  | f + 1, v4, m => bJX12_years_27 (fun v4 m => JX12_years_27 K47 v1 f v4 m) K47 v1 v4 m
theorem BJX12_years_27 (K47 : hM → hR) (v1 : Int32) (h47 : ∀ (m : hM), G mX12_years 6 47 [(0, .inr (.inr (40, 0)))] [] m (K47 m)) : ∀ (f : Nat) (v4 : Int32) (m : hM), G mX12_years 6 27 [(0, .inr (.inr (40, 0))), (1, .inl v1), (4, .inl v4)] [] m (JX12_years_27 K47 v1 f v4 m)
  | 0, _, _ => g_none
  | f + 1, v4, m => BbJX12_years_27  _ K47 v1 (fun v4 m => BJX12_years_27  K47 v1 h47 f v4 m) h47 v4 m
def JX12_years (a1 : Int32) (a2 : Int64) (m : hM) : hR :=
  if (m.1 40 0 15) = 0 then (some (some (.inl (-1)), m)) else (calI (JX12_in a1 1 40 m) fun x2 m1 =>
  if x2 = 0 then (some (some (.inl (-1)), m1)) else (stL m1 40 0 29 a2 fun m3 =>
  JX12_years_27 (fun m6 => ald m6 50 0 18 fun x7 =>
  some (some (.inl x7), m6)) a1 FU 0 m3))
set_option maxRecDepth 20000 in
theorem CX12_years (a1 : Int32) (a2 : Int64) (m : hM) : Cn mX12_years 6 [.inr (.inr (40, 0)), .inl a1, .inr (.inl a2)] m (JX12_years a1 a2 m) := by
  refine cn_of (by decide +kernel) (by simp only [List.map, vcat, List.sum_cons, List.sum_nil]; decide) ?_
  unfold JX12_years
  show G mX12_years 6 0 [(0, .inr (.inr (40, 0))), (1, .inl a1), (2, .inr (.inl a2))] [] m _
  refine g_aload_n 0 (kdX12_years 0 rfl) rfl ?_
  refine g_get (v := .inl (m.1 40 0 15)) (kdX12_years 1 rfl) fX12_203 rfl ?_
  refine g_if_eq (tgt := 17) (kdX12_years 2 rfl) (by decide) (fun _ => ?_) (fun _ => ?_)
  · refine g_iconst (v := (-1)) (kdX12_years 8 rfl) (by decide) ?_
    exact g_iret rfl (kdX12_years 9 rfl)
  · refine g_iload_n 1 (kdX12_years 3 rfl) rfl ?_
    refine g_iconst (v := 1) (kdX12_years 4 rfl) (by decide) ?_
    refine g_bipush (v := 40) (kdX12_years 5 rfl) (by decide) ?_
    refine g_calI (ck_S (As := [.inl a1, .inl 1, .inl 40]) (S := []) (kdX12_years 6 rfl) iX12_in lX12_89 rfl rfl rfl (by decide) (by simp only [List.map, vcat, List.sum_cons, List.sum_nil]; decide)) (CX12_in a1 1 40 m) (fun x2 m1 => ?_)
    refine g_if_ne (tgt := 19) (kdX12_years 7 rfl) (by decide) (fun _ => ?_) (fun _ => ?_)
    · refine g_aload_n 0 (kdX12_years 10 rfl) rfl ?_
      refine g_lload_n 2 (kdX12_years 11 rfl) rfl ?_
      refine g_putL (kdX12_years 12 rfl) fX12_331 rfl (fun m3 => ?_)
      refine g_iconst (v := 0) (kdX12_years 13 rfl) (by decide) ?_
      refine g_istore (L2 := [(4, .inl 0), (0, .inr (.inr (40, 0))), (1, .inl a1), (2, .inr (.inl a2))]) (kdX12_years 14 rfl) rfl (by decide) ?_
      refine g_fgt [1, 2, 0] rfl (BJX12_years_27  _ a1 ?_ FU 0 m3)
      · intro m6
        refine g_aload_n 0 (kdX12_years 24 rfl) rfl ?_
        refine g_get (v := .inr (.inr (50, 0))) (kdX12_years 25 rfl) fX12_37 rfl ?_
        refine g_bipush (v := 18) (kdX12_years 26 rfl) (by decide) ?_
        refine g_iald (kdX12_years 27 rfl) (fun x7 => ?_)
        exact g_iret rfl (kdX12_years 28 rfl)
    · refine g_iconst (v := (-1)) (kdX12_years 8 rfl) (by decide) ?_
      exact g_iret rfl (kdX12_years 9 rfl)
def JX12_status (a1 : Int32) (m : hM) : hR :=
  calI (JX12_in a1 0 3 m) fun x2 m1 =>
  if x2 = 0 then (some (some (.inl (-1)), m1)) else (ald m1 51 0 a1 fun x3 =>
  some (some (.inl x3), m1))
set_option maxRecDepth 20000 in
theorem CX12_status (a1 : Int32) (m : hM) : Cn mX12_status 1 [.inr (.inr (40, 0)), .inl a1] m (JX12_status a1 m) := by
  refine cn_of (by decide +kernel) (by simp only [List.map, vcat, List.sum_cons, List.sum_nil]; decide) ?_
  unfold JX12_status
  show G mX12_status 1 0 [(0, .inr (.inr (40, 0))), (1, .inl a1)] [] m _
  refine g_iload_n 1 (kdX12_status 0 rfl) rfl ?_
  refine g_iconst (v := 0) (kdX12_status 1 rfl) (by decide) ?_
  refine g_iconst (v := 3) (kdX12_status 2 rfl) (by decide) ?_
  refine g_calI (ck_S (As := [.inl a1, .inl 0, .inl 3]) (S := []) (kdX12_status 3 rfl) iX12_in lX12_89 rfl rfl rfl (by decide) (by simp only [List.map, vcat, List.sum_cons, List.sum_nil]; decide)) (CX12_in a1 0 3 m) (fun x2 m1 => ?_)
  refine g_if_eq (tgt := 18) (kdX12_status 4 rfl) (by decide) (fun _ => ?_) (fun _ => ?_)
  · refine g_iconst (v := (-1)) (kdX12_status 10 rfl) (by decide) ?_
    exact g_iret rfl (kdX12_status 11 rfl)
  · refine g_aload_n 0 (kdX12_status 5 rfl) rfl ?_
    refine g_get (v := .inr (.inr (51, 0))) (kdX12_status 6 rfl) fX12_40 rfl ?_
    refine g_iload_n 1 (kdX12_status 7 rfl) rfl ?_
    refine g_iald (kdX12_status 8 rfl) (fun x3 => ?_)
    refine g_goto (tgt := 19) (kdX12_status 9 rfl) (by decide) ?_
    exact g_iret rfl (kdX12_status 11 rfl)
def bJX12_undo_21 (K21 : Int32 → hM → hR) (K55 : hM → hR) (v1 : Int32) (m : hM) : hR :=
  if 232 ≤ v1 then (K55 m) else (ald m 52 0 ((232 * (m.1 40 0 28)) + v1) fun x2 =>
  ast m 50 0 v1 x2 fun m3 =>
  K21 (v1 + 1) m3)
set_option maxRecDepth 20000 in
theorem BbJX12_undo_21 (K21 : Int32 → hM → hR) (K55 : hM → hR) (h21 : ∀ (v1 : Int32) (m : hM), G mX12_undo 0 21 [(0, .inr (.inr (40, 0))), (1, .inl v1)] [] m (K21 v1 m)) (h55 : ∀ (m : hM), G mX12_undo 0 55 [(0, .inr (.inr (40, 0)))] [] m (K55 m)) (v1 : Int32) (m : hM) : G mX12_undo 0 21 [(0, .inr (.inr (40, 0))), (1, .inl v1)] [] m (bJX12_undo_21 K21 K55 v1 m) := by
  unfold bJX12_undo_21
  refine g_iload_n 1 (kdX12_undo 13 rfl) rfl ?_
  refine g_sipush (v := 232) (kdX12_undo 14 rfl) (by decide) ?_
  refine g_icmp_ge (tgt := 55) (kdX12_undo 15 rfl) (by decide) (fun _ => ?_) (fun _ => ?_)
  · exact g_fgt [0] rfl (h55 m)
  · refine g_aload_n 0 (kdX12_undo 16 rfl) rfl ?_
    refine g_get (v := .inr (.inr (50, 0))) (kdX12_undo 17 rfl) fX12_37 rfl ?_
    refine g_iload_n 1 (kdX12_undo 18 rfl) rfl ?_
    refine g_aload_n 0 (kdX12_undo 19 rfl) rfl ?_
    refine g_get (v := .inr (.inr (52, 0))) (kdX12_undo 20 rfl) fX12_54 rfl ?_
    refine g_sipush (v := 232) (kdX12_undo 21 rfl) (by decide) ?_
    refine g_aload_n 0 (kdX12_undo 22 rfl) rfl ?_
    refine g_get (v := .inl (m.1 40 0 28)) (kdX12_undo 23 rfl) fX12_207 rfl ?_
    refine g_imul (kdX12_undo 24 rfl) ?_
    refine g_iload_n 1 (kdX12_undo 25 rfl) rfl ?_
    refine g_iadd (kdX12_undo 26 rfl) ?_
    refine g_iald (kdX12_undo 27 rfl) (fun x2 => ?_)
    refine g_iast (kdX12_undo 28 rfl) (fun m3 => ?_)
    refine g_iinc (v := v1 + 1) (L2 := [(1, .inl (v1 + 1)), (0, .inr (.inr (40, 0)))]) 1 (kdX12_undo 29 rfl) rfl rfl rfl (by decide) ?_
    refine g_goto (tgt := 21) (kdX12_undo 30 rfl) (by decide) ?_
    exact g_fgt [1, 0] rfl (h21 (v1 + 1) m3)
def JX12_undo_21 (K55 : hM → hR) : Nat → Int32 → hM → hR
  | 0, _, _ => none
  | f + 1, v1, m => bJX12_undo_21 (fun v1 m => JX12_undo_21 K55  f v1 m) K55  v1 m
theorem BJX12_undo_21 (K55 : hM → hR) (h55 : ∀ (m : hM), G mX12_undo 0 55 [(0, .inr (.inr (40, 0)))] [] m (K55 m)) : ∀ (f : Nat) (v1 : Int32) (m : hM), G mX12_undo 0 21 [(0, .inr (.inr (40, 0))), (1, .inl v1)] [] m (JX12_undo_21 K55  f v1 m)
  | 0, _, _ => g_none
  | f + 1, v1, m => BbJX12_undo_21  _ K55  (fun v1 m => BJX12_undo_21  K55  h55 f v1 m) h55 v1 m
def JX12_undo  (m : hM) : hR :=
  if (m.1 40 0 28) = 0 then (some (some (.inl (-1)), m)) else (stI m 40 0 28 ((m.1 40 0 28) - 1) fun m1 =>
  JX12_undo_21 (fun m4 => some (some (.inl (m4.1 40 0 28)), m4))  FU 0 m1)
set_option maxRecDepth 20000 in
theorem CX12_undo  (m : hM) : Cn mX12_undo 0 [.inr (.inr (40, 0))] m (JX12_undo  m) := by
  refine cn_of (by decide +kernel) (by simp only [List.map, vcat, List.sum_cons, List.sum_nil]; decide) ?_
  unfold JX12_undo
  show G mX12_undo 0 0 [(0, .inr (.inr (40, 0)))] [] m _
  refine g_aload_n 0 (kdX12_undo 0 rfl) rfl ?_
  refine g_get (v := .inl (m.1 40 0 28)) (kdX12_undo 1 rfl) fX12_207 rfl ?_
  refine g_if_ne (tgt := 9) (kdX12_undo 2 rfl) (by decide) (fun _ => ?_) (fun _ => ?_)
  · refine g_aload_n 0 (kdX12_undo 5 rfl) rfl ?_
    refine g_dup (kdX12_undo 6 rfl) rfl ?_
    refine g_get (v := .inl (m.1 40 0 28)) (kdX12_undo 7 rfl) fX12_207 rfl ?_
    refine g_iconst (v := 1) (kdX12_undo 8 rfl) (by decide) ?_
    refine g_isub (kdX12_undo 9 rfl) ?_
    refine g_putI (kdX12_undo 10 rfl) fX12_207 rfl (fun m1 => ?_)
    refine g_iconst (v := 0) (kdX12_undo 11 rfl) (by decide) ?_
    refine g_istore_n (L2 := [(1, .inl 0), (0, .inr (.inr (40, 0)))]) (kdX12_undo 12 rfl) rfl (by decide) ?_
    refine g_fgt [1, 0] rfl (BJX12_undo_21  _  ?_ FU 0 m1)
    · intro m4
      refine g_aload_n 0 (kdX12_undo 31 rfl) rfl ?_
      refine g_get (v := .inl (m4.1 40 0 28)) (kdX12_undo 32 rfl) fX12_207 rfl ?_
      exact g_iret rfl (kdX12_undo 33 rfl)
  · refine g_iconst (v := (-1)) (kdX12_undo 3 rfl) (by decide) ?_
    exact g_iret rfl (kdX12_undo 4 rfl)
def JX12_log (a1 : Int32) (a2 : Int32) (m : hM) : hR :=
  ald m 50 0 51 fun x1 =>
  calI (JX12_in a1 0 (x1 - 1) m) fun x3 m2 =>
  if x3 = 0 then (some (some (.inl (-1000000000)), m2)) else (calI (JX12_in a2 0 2 m2) fun x5 m4 =>
  if x5 = 0 then (some (some (.inl (-1000000000)), m4)) else (ald m4 50 0 51 fun x6 =>
  ald m4 50 0 ((52 + (3 * ((x6 - 1) - a1))) + a2) fun x7 =>
  some (some (.inl x7), m4)))
set_option maxRecDepth 20000 in
theorem CX12_log (a1 : Int32) (a2 : Int32) (m : hM) : Cn mX12_log 1 [.inr (.inr (40, 0)), .inl a1, .inl a2] m (JX12_log a1 a2 m) := by
  refine cn_of (by decide +kernel) (by simp only [List.map, vcat, List.sum_cons, List.sum_nil]; decide) ?_
  unfold JX12_log
  show G mX12_log 1 0 [(0, .inr (.inr (40, 0))), (1, .inl a1), (2, .inl a2)] [] m _
  refine g_iload_n 1 (kdX12_log 0 rfl) rfl ?_
  refine g_iconst (v := 0) (kdX12_log 1 rfl) (by decide) ?_
  refine g_aload_n 0 (kdX12_log 2 rfl) rfl ?_
  refine g_get (v := .inr (.inr (50, 0))) (kdX12_log 3 rfl) fX12_37 rfl ?_
  refine g_bipush (v := 51) (kdX12_log 4 rfl) (by decide) ?_
  refine g_iald (kdX12_log 5 rfl) (fun x1 => ?_)
  refine g_iconst (v := 1) (kdX12_log 6 rfl) (by decide) ?_
  refine g_isub (kdX12_log 7 rfl) ?_
  refine g_calI (ck_S (As := [.inl a1, .inl 0, .inl (x1 - 1)]) (S := []) (kdX12_log 8 rfl) iX12_in lX12_89 rfl rfl rfl (by decide) (by simp only [List.map, vcat, List.sum_cons, List.sum_nil]; decide)) (CX12_in a1 0 (x1 - 1) m) (fun x3 m2 => ?_)
  refine g_if_eq (tgt := 52) (kdX12_log 9 rfl) (by decide) (fun _ => ?_) (fun _ => ?_)
  · refine g_ldc (kdX12_log 33 rfl) cX12_50 ?_
    exact g_iret rfl (kdX12_log 34 rfl)
  · refine g_iload_n 2 (kdX12_log 10 rfl) rfl ?_
    refine g_iconst (v := 0) (kdX12_log 11 rfl) (by decide) ?_
    refine g_iconst (v := 2) (kdX12_log 12 rfl) (by decide) ?_
    refine g_calI (ck_S (As := [.inl a2, .inl 0, .inl 2]) (S := []) (kdX12_log 13 rfl) iX12_in lX12_89 rfl rfl rfl (by decide) (by simp only [List.map, vcat, List.sum_cons, List.sum_nil]; decide)) (CX12_in a2 0 2 m2) (fun x5 m4 => ?_)
    refine g_if_eq (tgt := 52) (kdX12_log 14 rfl) (by decide) (fun _ => ?_) (fun _ => ?_)
    · refine g_ldc (kdX12_log 33 rfl) cX12_50 ?_
      exact g_iret rfl (kdX12_log 34 rfl)
    · refine g_aload_n 0 (kdX12_log 15 rfl) rfl ?_
      refine g_get (v := .inr (.inr (50, 0))) (kdX12_log 16 rfl) fX12_37 rfl ?_
      refine g_bipush (v := 52) (kdX12_log 17 rfl) (by decide) ?_
      refine g_iconst (v := 3) (kdX12_log 18 rfl) (by decide) ?_
      refine g_aload_n 0 (kdX12_log 19 rfl) rfl ?_
      refine g_get (v := .inr (.inr (50, 0))) (kdX12_log 20 rfl) fX12_37 rfl ?_
      refine g_bipush (v := 51) (kdX12_log 21 rfl) (by decide) ?_
      refine g_iald (kdX12_log 22 rfl) (fun x6 => ?_)
      refine g_iconst (v := 1) (kdX12_log 23 rfl) (by decide) ?_
      refine g_isub (kdX12_log 24 rfl) ?_
      refine g_iload_n 1 (kdX12_log 25 rfl) rfl ?_
      refine g_isub (kdX12_log 26 rfl) ?_
      refine g_imul (kdX12_log 27 rfl) ?_
      refine g_iadd (kdX12_log 28 rfl) ?_
      refine g_iload_n 2 (kdX12_log 29 rfl) rfl ?_
      refine g_iadd (kdX12_log 30 rfl) ?_
      refine g_iald (kdX12_log 31 rfl) (fun x7 => ?_)
      refine g_goto (tgt := 54) (kdX12_log 32 rfl) (by decide) ?_
      exact g_iret rfl (kdX12_log 34 rfl)
def JX12_rule (a1 : Int32) (m : hM) : hR :=
  if (m.1 40 0 15) = 0 then (some (some (.inl (-1)), m)) else (calI (JX12_in a1 0 12 m) fun x2 m1 =>
  if x2 = 0 then (some (some (.inl (-1)), m1)) else (ald m1 45 0 a1 fun x3 =>
  some (some (.inl x3), m1)))
set_option maxRecDepth 20000 in
theorem CX12_rule (a1 : Int32) (m : hM) : Cn mX12_rule 1 [.inr (.inr (40, 0)), .inl a1] m (JX12_rule a1 m) := by
  refine cn_of (by decide +kernel) (by simp only [List.map, vcat, List.sum_cons, List.sum_nil]; decide) ?_
  unfold JX12_rule
  show G mX12_rule 1 0 [(0, .inr (.inr (40, 0))), (1, .inl a1)] [] m _
  refine g_aload_n 0 (kdX12_rule 0 rfl) rfl ?_
  refine g_get (v := .inl (m.1 40 0 15)) (kdX12_rule 1 rfl) fX12_203 rfl ?_
  refine g_if_eq (tgt := 26) (kdX12_rule 2 rfl) (by decide) (fun _ => ?_) (fun _ => ?_)
  · refine g_iconst (v := (-1)) (kdX12_rule 13 rfl) (by decide) ?_
    exact g_iret rfl (kdX12_rule 14 rfl)
  · refine g_iload_n 1 (kdX12_rule 3 rfl) rfl ?_
    refine g_iconst (v := 0) (kdX12_rule 4 rfl) (by decide) ?_
    refine g_bipush (v := 12) (kdX12_rule 5 rfl) (by decide) ?_
    refine g_calI (ck_S (As := [.inl a1, .inl 0, .inl 12]) (S := []) (kdX12_rule 6 rfl) iX12_in lX12_89 rfl rfl rfl (by decide) (by simp only [List.map, vcat, List.sum_cons, List.sum_nil]; decide)) (CX12_in a1 0 12 m) (fun x2 m1 => ?_)
    refine g_if_eq (tgt := 26) (kdX12_rule 7 rfl) (by decide) (fun _ => ?_) (fun _ => ?_)
    · refine g_iconst (v := (-1)) (kdX12_rule 13 rfl) (by decide) ?_
      exact g_iret rfl (kdX12_rule 14 rfl)
    · refine g_aload_n 0 (kdX12_rule 8 rfl) rfl ?_
      refine g_get (v := .inr (.inr (45, 0))) (kdX12_rule 9 rfl) fX12_22 rfl ?_
      refine g_iload_n 1 (kdX12_rule 10 rfl) rfl ?_
      refine g_iald (kdX12_rule 11 rfl) (fun x3 => ?_)
      refine g_goto (tgt := 27) (kdX12_rule 12 rfl) (by decide) ?_
      exact g_iret rfl (kdX12_rule 14 rfl)
def JX12_told_32 (v1 : Int32) (v2 : Int32) (v100 : Int32) (v102 : Int32) (v103 : Int32) (m : hM) : hR :=
  ald m 45 0 v100 fun x3 =>
  calI (JX12_in v103 v102 (x3 - 1) m) fun x5 m4 =>
  if x5 = 0 then (some (some (.inl (-1000000000)), m4)) else (if v1 = 0 then (ald m4 46 0 v2 fun x7 =>
  some (some (.inl x7), m4)) else (ald m4 47 0 v2 fun x6 =>
  some (some (.inl x6), m4)))
set_option maxRecDepth 20000 in
theorem BX12_told_32 (v1 : Int32) (v2 : Int32) (v100 : Int32) (v102 : Int32) (v103 : Int32) (m : hM) : G mX12_told 1 32 [(0, .inr (.inr (40, 0))), (1, .inl v1), (2, .inl v2)] [.inl v100, .inr (.inr (45, 0)), .inl v102, .inl v103] m (JX12_told_32 v1 v2 v100 v102 v103 m) := by
  unfold JX12_told_32
  refine g_iald (kdX12_told 17 rfl) (fun x3 => ?_)
  refine g_iconst (v := 1) (kdX12_told 18 rfl) (by decide) ?_
  refine g_isub (kdX12_told 19 rfl) ?_
  refine g_calI (ck_S (As := [.inl v103, .inl v102, .inl (x3 - 1)]) (S := []) (kdX12_told 20 rfl) iX12_in lX12_89 rfl rfl rfl (by decide) (by simp only [List.map, vcat, List.sum_cons, List.sum_nil]; decide)) (CX12_in v103 v102 (x3 - 1) m) (fun x5 m4 => ?_)
  refine g_if_ne (tgt := 44) (kdX12_told 21 rfl) (by decide) (fun _ => ?_) (fun _ => ?_)
  · refine g_iload_n 1 (kdX12_told 24 rfl) rfl ?_
    refine g_if_ne (tgt := 57) (kdX12_told 25 rfl) (by decide) (fun _ => ?_) (fun _ => ?_)
    · refine g_aload_n 0 (kdX12_told 31 rfl) rfl ?_
      refine g_get (v := .inr (.inr (47, 0))) (kdX12_told 32 rfl) fX12_28 rfl ?_
      refine g_iload_n 2 (kdX12_told 33 rfl) rfl ?_
      refine g_iald (kdX12_told 34 rfl) (fun x6 => ?_)
      exact g_iret rfl (kdX12_told 35 rfl)
    · refine g_aload_n 0 (kdX12_told 26 rfl) rfl ?_
      refine g_get (v := .inr (.inr (46, 0))) (kdX12_told 27 rfl) fX12_25 rfl ?_
      refine g_iload_n 2 (kdX12_told 28 rfl) rfl ?_
      refine g_iald (kdX12_told 29 rfl) (fun x7 => ?_)
      refine g_goto (tgt := 63) (kdX12_told 30 rfl) (by decide) ?_
      exact g_iret rfl (kdX12_told 35 rfl)
  · refine g_ldc (kdX12_told 22 rfl) cX12_50 ?_
    exact g_iret rfl (kdX12_told 23 rfl)
def JX12_told (a1 : Int32) (a2 : Int32) (m : hM) : hR :=
  if (m.1 40 0 15) = 0 then (some (some (.inl (-1000000000)), m)) else (calI (JX12_in a1 0 1 m) fun x2 m1 =>
  if x2 = 0 then (some (some (.inl (-1000000000)), m1)) else (if a1 = 0 then (JX12_told_32 a1 a2 0 0 a2 m1) else (JX12_told_32 a1 a2 12 0 a2 m1)))
set_option maxRecDepth 20000 in
theorem CX12_told (a1 : Int32) (a2 : Int32) (m : hM) : Cn mX12_told 1 [.inr (.inr (40, 0)), .inl a1, .inl a2] m (JX12_told a1 a2 m) := by
  refine cn_of (by decide +kernel) (by simp only [List.map, vcat, List.sum_cons, List.sum_nil]; decide) ?_
  unfold JX12_told
  show G mX12_told 1 0 [(0, .inr (.inr (40, 0))), (1, .inl a1), (2, .inl a2)] [] m _
  refine g_aload_n 0 (kdX12_told 0 rfl) rfl ?_
  refine g_get (v := .inl (m.1 40 0 15)) (kdX12_told 1 rfl) fX12_203 rfl ?_
  refine g_if_eq (tgt := 41) (kdX12_told 2 rfl) (by decide) (fun _ => ?_) (fun _ => ?_)
  · refine g_ldc (kdX12_told 22 rfl) cX12_50 ?_
    exact g_iret rfl (kdX12_told 23 rfl)
  · refine g_iload_n 1 (kdX12_told 3 rfl) rfl ?_
    refine g_iconst (v := 0) (kdX12_told 4 rfl) (by decide) ?_
    refine g_iconst (v := 1) (kdX12_told 5 rfl) (by decide) ?_
    refine g_calI (ck_S (As := [.inl a1, .inl 0, .inl 1]) (S := []) (kdX12_told 6 rfl) iX12_in lX12_89 rfl rfl rfl (by decide) (by simp only [List.map, vcat, List.sum_cons, List.sum_nil]; decide)) (CX12_in a1 0 1 m) (fun x2 m1 => ?_)
    refine g_if_eq (tgt := 41) (kdX12_told 7 rfl) (by decide) (fun _ => ?_) (fun _ => ?_)
    · refine g_ldc (kdX12_told 22 rfl) cX12_50 ?_
      exact g_iret rfl (kdX12_told 23 rfl)
    · refine g_iload_n 2 (kdX12_told 8 rfl) rfl ?_
      refine g_iconst (v := 0) (kdX12_told 9 rfl) (by decide) ?_
      refine g_aload_n 0 (kdX12_told 10 rfl) rfl ?_
      refine g_get (v := .inr (.inr (45, 0))) (kdX12_told 11 rfl) fX12_22 rfl ?_
      refine g_iload_n 1 (kdX12_told 12 rfl) rfl ?_
      refine g_if_ne (tgt := 30) (kdX12_told 13 rfl) (by decide) (fun _ => ?_) (fun _ => ?_)
      · refine g_bipush (v := 12) (kdX12_told 16 rfl) (by decide) ?_
        exact g_fgt [0, 1, 2] rfl (BX12_told_32 a1 a2 12 0 a2 m1)
      · refine g_iconst (v := 0) (kdX12_told 14 rfl) (by decide) ?_
        refine g_goto (tgt := 32) (kdX12_told 15 rfl) (by decide) ?_
        exact g_fgt [0, 1, 2] rfl (BX12_told_32 a1 a2 0 0 a2 m1)
def JX12_tap_23 (v1 : Int32) (v2 : Int32) (v100 : Int32) (m : hM) : hR :=
  stI m 40 0 0 v100 fun m3 =>
  if (m3.1 40 0 0) = 1 then (some (some (.inl 0), m3)) else (if v2 = 0 then (ald m3 50 0 (0 + v1) fun x5 =>
  some (some (.inl x5), m3)) else (ald m3 50 0 (6 + v1) fun x4 =>
  some (some (.inl x4), m3)))
set_option maxRecDepth 20000 in
theorem BX12_tap_23 (v1 : Int32) (v2 : Int32) (v100 : Int32) (m : hM) : G mX12_tap 2 23 [(0, .inr (.inr (40, 0))), (1, .inl v1), (2, .inl v2)] [.inl v100, .inr (.inr (40, 0))] m (JX12_tap_23 v1 v2 v100 m) := by
  unfold JX12_tap_23
  refine g_putI (kdX12_tap 13 rfl) fX12_79 rfl (fun m3 => ?_)
  refine g_aload_n 0 (kdX12_tap 14 rfl) rfl ?_
  refine g_get (v := .inl (m3.1 40 0 0)) (kdX12_tap 15 rfl) fX12_79 rfl ?_
  refine g_iconst (v := 1) (kdX12_tap 16 rfl) (by decide) ?_
  refine g_icmp_ne (tgt := 38) (kdX12_tap 17 rfl) (by decide) (fun _ => ?_) (fun _ => ?_)
  · refine g_aload_n 0 (kdX12_tap 20 rfl) rfl ?_
    refine g_get (v := .inr (.inr (50, 0))) (kdX12_tap 21 rfl) fX12_37 rfl ?_
    refine g_iload_n 2 (kdX12_tap 22 rfl) rfl ?_
    refine g_if_ne (tgt := 50) (kdX12_tap 23 rfl) (by decide) (fun _ => ?_) (fun _ => ?_)
    · refine g_bipush (v := 6) (kdX12_tap 26 rfl) (by decide) ?_
      refine g_iload_n 1 (kdX12_tap 27 rfl) rfl ?_
      refine g_iadd (kdX12_tap 28 rfl) ?_
      refine g_iald (kdX12_tap 29 rfl) (fun x4 => ?_)
      exact g_iret rfl (kdX12_tap 30 rfl)
    · refine g_iconst (v := 0) (kdX12_tap 24 rfl) (by decide) ?_
      refine g_goto (tgt := 52) (kdX12_tap 25 rfl) (by decide) ?_
      refine g_iload_n 1 (kdX12_tap 27 rfl) rfl ?_
      refine g_iadd (kdX12_tap 28 rfl) ?_
      refine g_iald (kdX12_tap 29 rfl) (fun x5 => ?_)
      exact g_iret rfl (kdX12_tap 30 rfl)
  · refine g_iconst (v := 0) (kdX12_tap 18 rfl) (by decide) ?_
    refine g_goto (tgt := 55) (kdX12_tap 19 rfl) (by decide) ?_
    exact g_iret rfl (kdX12_tap 30 rfl)
def JX12_tap_22 (v1 : Int32) (v2 : Int32) (m : hM) : hR :=
  JX12_tap_23 v1 v2 1 m
set_option maxRecDepth 20000 in
theorem BX12_tap_22 (v1 : Int32) (v2 : Int32) (m : hM) : G mX12_tap 2 22 [(0, .inr (.inr (40, 0))), (1, .inl v1), (2, .inl v2)] [.inr (.inr (40, 0))] m (JX12_tap_22 v1 v2 m) := by
  unfold JX12_tap_22
  refine g_iconst (v := 1) (kdX12_tap 12 rfl) (by decide) ?_
  exact g_fgt [0, 1, 2] rfl (BX12_tap_23 v1 v2 1 m)
def JX12_tap (a1 : Int32) (a2 : Int32) (m : hM) : hR :=
  calI (JX12_isTap a1 m) fun x2 m1 =>
  if x2 = 0 then (JX12_tap_22 a1 a2 m1) else (calI (JX12_in a2 0 1 m1) fun x7 m6 =>
  if x7 = 0 then (JX12_tap_22 a1 a2 m6) else (JX12_tap_23 a1 a2 0 m6))
set_option maxRecDepth 20000 in
theorem CX12_tap (a1 : Int32) (a2 : Int32) (m : hM) : Cn mX12_tap 2 [.inr (.inr (40, 0)), .inl a1, .inl a2] m (JX12_tap a1 a2 m) := by
  refine cn_of (by decide +kernel) (by simp only [List.map, vcat, List.sum_cons, List.sum_nil]; decide) ?_
  unfold JX12_tap
  show G mX12_tap 2 0 [(0, .inr (.inr (40, 0))), (1, .inl a1), (2, .inl a2)] [] m _
  refine g_aload_n 0 (kdX12_tap 0 rfl) rfl ?_
  refine g_aload_n 0 (kdX12_tap 1 rfl) rfl ?_
  refine g_iload_n 1 (kdX12_tap 2 rfl) rfl ?_
  refine g_calI (ck_V (As := [.inl a1]) (S := [.inr (.inr (40, 0))]) (t := 40) (o := 0) (kdX12_tap 3 rfl) iX12_isTap lX12_325 rc_40 rfl rfl rfl (by decide) (by simp only [List.map, vcat, List.sum_cons, List.sum_nil]; decide)) (CX12_isTap a1 m) (fun x2 m1 => ?_)
  refine g_if_eq (tgt := 22) (kdX12_tap 4 rfl) (by decide) (fun _ => ?_) (fun _ => ?_)
  · exact g_fgt [0, 1, 2] rfl (BX12_tap_22 a1 a2 m1)
  · refine g_iload_n 2 (kdX12_tap 5 rfl) rfl ?_
    refine g_iconst (v := 0) (kdX12_tap 6 rfl) (by decide) ?_
    refine g_iconst (v := 1) (kdX12_tap 7 rfl) (by decide) ?_
    refine g_calI (ck_S (As := [.inl a2, .inl 0, .inl 1]) (S := [.inr (.inr (40, 0))]) (kdX12_tap 8 rfl) iX12_in lX12_89 rfl rfl rfl (by decide) (by simp only [List.map, vcat, List.sum_cons, List.sum_nil]; decide)) (CX12_in a2 0 1 m1) (fun x7 m6 => ?_)
    refine g_if_eq (tgt := 22) (kdX12_tap 9 rfl) (by decide) (fun _ => ?_) (fun _ => ?_)
    · exact g_fgt [0, 1, 2] rfl (BX12_tap_22 a1 a2 m6)
    · refine g_iconst (v := 0) (kdX12_tap 10 rfl) (by decide) ?_
      refine g_goto (tgt := 23) (kdX12_tap 11 rfl) (by decide) ?_
      exact g_fgt [0, 1, 2] rfl (BX12_tap_23 a1 a2 0 m6)
def JX12_now (a1 : Int32) (m : hM) : hR :=
  if (m.1 40 0 15) = 0 then (some (some (.inl (-1000000000)), m)) else (swL a1 [(0, ald m 50 0 18 fun x1 =>
  some (some (.inl x1), m)), (1, ald m 50 0 14 fun x2 =>
  some (some (.inl x2), m)), (2, ald m 50 0 16 fun x3 =>
  some (some (.inl x3), m)), (3, ald m 50 0 17 fun x4 =>
  some (some (.inl x4), m)), (4, ald m 50 0 20 fun x5 =>
  some (some (.inl x5), m)), (5, ald m 50 0 19 fun x6 =>
  some (some (.inl x6), m)), (6, ald m 50 0 21 fun x7 =>
  some (some (.inl x7), m)), (7, ald m 50 0 22 fun x8 =>
  some (some (.inl x8), m)), (8, ald m 50 0 23 fun x9 =>
  some (some (.inl x9), m)), (9, ald m 50 0 24 fun x10 =>
  some (some (.inl x10), m)), (10, ald m 50 0 25 fun x11 =>
  some (some (.inl x11), m)), (11, ald m 50 0 26 fun x12 =>
  some (some (.inl x12), m)), (12, ald m 50 0 27 fun x13 =>
  some (some (.inl x13), m)), (13, ald m 50 0 28 fun x14 =>
  some (some (.inl x14), m)), (14, ald m 50 0 29 fun x15 =>
  some (some (.inl x15), m)), (15, ald m 50 0 30 fun x16 =>
  some (some (.inl x16), m)), (16, ald m 50 0 12 fun x17 =>
  some (some (.inl x17), m)), (17, ald m 50 0 13 fun x18 =>
  some (some (.inl x18), m)), (18, ald m 50 0 15 fun x19 =>
  some (some (.inl x19), m))] (some (some (.inl (-1000000000)), m)))
set_option maxRecDepth 20000 in
theorem CX12_now (a1 : Int32) (m : hM) : Cn mX12_now 0 [.inr (.inr (40, 0)), .inl a1] m (JX12_now a1 m) := by
  refine cn_of (by decide +kernel) (by simp only [List.map, vcat, List.sum_cons, List.sum_nil]; decide) ?_
  unfold JX12_now
  show G mX12_now 0 0 [(0, .inr (.inr (40, 0))), (1, .inl a1)] [] m _
  refine g_aload_n 0 (kdX12_now 0 rfl) rfl ?_
  refine g_get (v := .inl (m.1 40 0 15)) (kdX12_now 1 rfl) fX12_203 rfl ?_
  refine g_if_ne (tgt := 10) (kdX12_now 2 rfl) (by decide) (fun _ => ?_) (fun _ => ?_)
  · refine g_iload_n 1 (kdX12_now 5 rfl) rfl ?_
    refine g_table (offs := [89, 97, 105, 113, 121, 129, 137, 145, 153, 161, 169, 177, 185, 193, 201, 209, 217, 225, 233]) (dt := 252) (kdX12_now 6 rfl) (by simp only [swK]; decide) rfl (by decide) ⟨⟨100, by decide, ?_⟩, ⟨108, by decide, ?_⟩, ⟨116, by decide, ?_⟩, ⟨124, by decide, ?_⟩, ⟨132, by decide, ?_⟩, ⟨140, by decide, ?_⟩, ⟨148, by decide, ?_⟩, ⟨156, by decide, ?_⟩, ⟨164, by decide, ?_⟩, ⟨172, by decide, ?_⟩, ⟨180, by decide, ?_⟩, ⟨188, by decide, ?_⟩, ⟨196, by decide, ?_⟩, ⟨204, by decide, ?_⟩, ⟨212, by decide, ?_⟩, ⟨220, by decide, ?_⟩, ⟨228, by decide, ?_⟩, ⟨236, by decide, ?_⟩, ⟨244, by decide, ?_⟩, trivial⟩ ?_
    · refine g_aload_n 0 (kdX12_now 7 rfl) rfl ?_
      refine g_get (v := .inr (.inr (50, 0))) (kdX12_now 8 rfl) fX12_37 rfl ?_
      refine g_bipush (v := 18) (kdX12_now 9 rfl) (by decide) ?_
      refine g_iald (kdX12_now 10 rfl) (fun x1 => ?_)
      exact g_iret rfl (kdX12_now 11 rfl)
    · refine g_aload_n 0 (kdX12_now 12 rfl) rfl ?_
      refine g_get (v := .inr (.inr (50, 0))) (kdX12_now 13 rfl) fX12_37 rfl ?_
      refine g_bipush (v := 14) (kdX12_now 14 rfl) (by decide) ?_
      refine g_iald (kdX12_now 15 rfl) (fun x2 => ?_)
      exact g_iret rfl (kdX12_now 16 rfl)
    · refine g_aload_n 0 (kdX12_now 17 rfl) rfl ?_
      refine g_get (v := .inr (.inr (50, 0))) (kdX12_now 18 rfl) fX12_37 rfl ?_
      refine g_bipush (v := 16) (kdX12_now 19 rfl) (by decide) ?_
      refine g_iald (kdX12_now 20 rfl) (fun x3 => ?_)
      exact g_iret rfl (kdX12_now 21 rfl)
    · refine g_aload_n 0 (kdX12_now 22 rfl) rfl ?_
      refine g_get (v := .inr (.inr (50, 0))) (kdX12_now 23 rfl) fX12_37 rfl ?_
      refine g_bipush (v := 17) (kdX12_now 24 rfl) (by decide) ?_
      refine g_iald (kdX12_now 25 rfl) (fun x4 => ?_)
      exact g_iret rfl (kdX12_now 26 rfl)
    · refine g_aload_n 0 (kdX12_now 27 rfl) rfl ?_
      refine g_get (v := .inr (.inr (50, 0))) (kdX12_now 28 rfl) fX12_37 rfl ?_
      refine g_bipush (v := 20) (kdX12_now 29 rfl) (by decide) ?_
      refine g_iald (kdX12_now 30 rfl) (fun x5 => ?_)
      exact g_iret rfl (kdX12_now 31 rfl)
    · refine g_aload_n 0 (kdX12_now 32 rfl) rfl ?_
      refine g_get (v := .inr (.inr (50, 0))) (kdX12_now 33 rfl) fX12_37 rfl ?_
      refine g_bipush (v := 19) (kdX12_now 34 rfl) (by decide) ?_
      refine g_iald (kdX12_now 35 rfl) (fun x6 => ?_)
      exact g_iret rfl (kdX12_now 36 rfl)
    · refine g_aload_n 0 (kdX12_now 37 rfl) rfl ?_
      refine g_get (v := .inr (.inr (50, 0))) (kdX12_now 38 rfl) fX12_37 rfl ?_
      refine g_bipush (v := 21) (kdX12_now 39 rfl) (by decide) ?_
      refine g_iald (kdX12_now 40 rfl) (fun x7 => ?_)
      exact g_iret rfl (kdX12_now 41 rfl)
    · refine g_aload_n 0 (kdX12_now 42 rfl) rfl ?_
      refine g_get (v := .inr (.inr (50, 0))) (kdX12_now 43 rfl) fX12_37 rfl ?_
      refine g_bipush (v := 22) (kdX12_now 44 rfl) (by decide) ?_
      refine g_iald (kdX12_now 45 rfl) (fun x8 => ?_)
      exact g_iret rfl (kdX12_now 46 rfl)
    · refine g_aload_n 0 (kdX12_now 47 rfl) rfl ?_
      refine g_get (v := .inr (.inr (50, 0))) (kdX12_now 48 rfl) fX12_37 rfl ?_
      refine g_bipush (v := 23) (kdX12_now 49 rfl) (by decide) ?_
      refine g_iald (kdX12_now 50 rfl) (fun x9 => ?_)
      exact g_iret rfl (kdX12_now 51 rfl)
    · refine g_aload_n 0 (kdX12_now 52 rfl) rfl ?_
      refine g_get (v := .inr (.inr (50, 0))) (kdX12_now 53 rfl) fX12_37 rfl ?_
      refine g_bipush (v := 24) (kdX12_now 54 rfl) (by decide) ?_
      refine g_iald (kdX12_now 55 rfl) (fun x10 => ?_)
      exact g_iret rfl (kdX12_now 56 rfl)
    · refine g_aload_n 0 (kdX12_now 57 rfl) rfl ?_
      refine g_get (v := .inr (.inr (50, 0))) (kdX12_now 58 rfl) fX12_37 rfl ?_
      refine g_bipush (v := 25) (kdX12_now 59 rfl) (by decide) ?_
      refine g_iald (kdX12_now 60 rfl) (fun x11 => ?_)
      exact g_iret rfl (kdX12_now 61 rfl)
    · refine g_aload_n 0 (kdX12_now 62 rfl) rfl ?_
      refine g_get (v := .inr (.inr (50, 0))) (kdX12_now 63 rfl) fX12_37 rfl ?_
      refine g_bipush (v := 26) (kdX12_now 64 rfl) (by decide) ?_
      refine g_iald (kdX12_now 65 rfl) (fun x12 => ?_)
      exact g_iret rfl (kdX12_now 66 rfl)
    · refine g_aload_n 0 (kdX12_now 67 rfl) rfl ?_
      refine g_get (v := .inr (.inr (50, 0))) (kdX12_now 68 rfl) fX12_37 rfl ?_
      refine g_bipush (v := 27) (kdX12_now 69 rfl) (by decide) ?_
      refine g_iald (kdX12_now 70 rfl) (fun x13 => ?_)
      exact g_iret rfl (kdX12_now 71 rfl)
    · refine g_aload_n 0 (kdX12_now 72 rfl) rfl ?_
      refine g_get (v := .inr (.inr (50, 0))) (kdX12_now 73 rfl) fX12_37 rfl ?_
      refine g_bipush (v := 28) (kdX12_now 74 rfl) (by decide) ?_
      refine g_iald (kdX12_now 75 rfl) (fun x14 => ?_)
      exact g_iret rfl (kdX12_now 76 rfl)
    · refine g_aload_n 0 (kdX12_now 77 rfl) rfl ?_
      refine g_get (v := .inr (.inr (50, 0))) (kdX12_now 78 rfl) fX12_37 rfl ?_
      refine g_bipush (v := 29) (kdX12_now 79 rfl) (by decide) ?_
      refine g_iald (kdX12_now 80 rfl) (fun x15 => ?_)
      exact g_iret rfl (kdX12_now 81 rfl)
    · refine g_aload_n 0 (kdX12_now 82 rfl) rfl ?_
      refine g_get (v := .inr (.inr (50, 0))) (kdX12_now 83 rfl) fX12_37 rfl ?_
      refine g_bipush (v := 30) (kdX12_now 84 rfl) (by decide) ?_
      refine g_iald (kdX12_now 85 rfl) (fun x16 => ?_)
      exact g_iret rfl (kdX12_now 86 rfl)
    · refine g_aload_n 0 (kdX12_now 87 rfl) rfl ?_
      refine g_get (v := .inr (.inr (50, 0))) (kdX12_now 88 rfl) fX12_37 rfl ?_
      refine g_bipush (v := 12) (kdX12_now 89 rfl) (by decide) ?_
      refine g_iald (kdX12_now 90 rfl) (fun x17 => ?_)
      exact g_iret rfl (kdX12_now 91 rfl)
    · refine g_aload_n 0 (kdX12_now 92 rfl) rfl ?_
      refine g_get (v := .inr (.inr (50, 0))) (kdX12_now 93 rfl) fX12_37 rfl ?_
      refine g_bipush (v := 13) (kdX12_now 94 rfl) (by decide) ?_
      refine g_iald (kdX12_now 95 rfl) (fun x18 => ?_)
      exact g_iret rfl (kdX12_now 96 rfl)
    · refine g_aload_n 0 (kdX12_now 97 rfl) rfl ?_
      refine g_get (v := .inr (.inr (50, 0))) (kdX12_now 98 rfl) fX12_37 rfl ?_
      refine g_bipush (v := 15) (kdX12_now 99 rfl) (by decide) ?_
      refine g_iald (kdX12_now 100 rfl) (fun x19 => ?_)
      exact g_iret rfl (kdX12_now 101 rfl)
    · refine g_ldc (kdX12_now 102 rfl) cX12_50 ?_
      exact g_iret rfl (kdX12_now 103 rfl)
  · refine g_ldc (kdX12_now 3 rfl) cX12_50 ?_
    exact g_iret rfl (kdX12_now 4 rfl)
def JX12_ago_27 (v1 : Int32) (v2 : Int32) (v100 : Int32) (v101 : Int32) (v102 : Int32) (m : hM) : hR :=
  calI (JX12_in v102 v101 v100 m) fun x4 m3 =>
  if x4 = 0 then (some (some (.inl (-1000000000)), m3)) else (if v1 = 0 then (ald m3 50 0 (31 + v2) fun x7 =>
  some (some (.inl x7), m3)) else (if v1 = 1 then (ald m3 50 0 (37 + v2) fun x6 =>
  some (some (.inl x6), m3)) else (ald m3 50 0 (40 + v2) fun x5 =>
  some (some (.inl x5), m3))))
set_option maxRecDepth 20000 in
theorem BX12_ago_27 (v1 : Int32) (v2 : Int32) (v100 : Int32) (v101 : Int32) (v102 : Int32) (m : hM) : G mX12_ago 1 27 [(0, .inr (.inr (40, 0))), (1, .inl v1), (2, .inl v2)] [.inl v100, .inl v101, .inl v102] m (JX12_ago_27 v1 v2 v100 v101 v102 m) := by
  unfold JX12_ago_27
  refine g_calI (ck_S (As := [.inl v102, .inl v101, .inl v100]) (S := []) (kdX12_ago 15 rfl) iX12_in lX12_89 rfl rfl rfl (by decide) (by simp only [List.map, vcat, List.sum_cons, List.sum_nil]; decide)) (CX12_in v102 v101 v100 m) (fun x4 m3 => ?_)
  refine g_if_ne (tgt := 36) (kdX12_ago 16 rfl) (by decide) (fun _ => ?_) (fun _ => ?_)
  · refine g_aload_n 0 (kdX12_ago 19 rfl) rfl ?_
    refine g_get (v := .inr (.inr (50, 0))) (kdX12_ago 20 rfl) fX12_37 rfl ?_
    refine g_iload_n 1 (kdX12_ago 21 rfl) rfl ?_
    refine g_if_ne (tgt := 49) (kdX12_ago 22 rfl) (by decide) (fun _ => ?_) (fun _ => ?_)
    · refine g_iload_n 1 (kdX12_ago 25 rfl) rfl ?_
      refine g_iconst (v := 1) (kdX12_ago 26 rfl) (by decide) ?_
      refine g_icmp_ne (tgt := 59) (kdX12_ago 27 rfl) (by decide) (fun _ => ?_) (fun _ => ?_)
      · refine g_bipush (v := 40) (kdX12_ago 30 rfl) (by decide) ?_
        refine g_iload_n 2 (kdX12_ago 31 rfl) rfl ?_
        refine g_iadd (kdX12_ago 32 rfl) ?_
        refine g_iald (kdX12_ago 33 rfl) (fun x5 => ?_)
        exact g_iret rfl (kdX12_ago 34 rfl)
      · refine g_bipush (v := 37) (kdX12_ago 28 rfl) (by decide) ?_
        refine g_goto (tgt := 61) (kdX12_ago 29 rfl) (by decide) ?_
        refine g_iload_n 2 (kdX12_ago 31 rfl) rfl ?_
        refine g_iadd (kdX12_ago 32 rfl) ?_
        refine g_iald (kdX12_ago 33 rfl) (fun x6 => ?_)
        exact g_iret rfl (kdX12_ago 34 rfl)
    · refine g_bipush (v := 31) (kdX12_ago 23 rfl) (by decide) ?_
      refine g_goto (tgt := 61) (kdX12_ago 24 rfl) (by decide) ?_
      refine g_iload_n 2 (kdX12_ago 31 rfl) rfl ?_
      refine g_iadd (kdX12_ago 32 rfl) ?_
      refine g_iald (kdX12_ago 33 rfl) (fun x7 => ?_)
      exact g_iret rfl (kdX12_ago 34 rfl)
  · refine g_ldc (kdX12_ago 17 rfl) cX12_50 ?_
    exact g_iret rfl (kdX12_ago 18 rfl)
def JX12_ago (a1 : Int32) (a2 : Int32) (m : hM) : hR :=
  if (m.1 40 0 15) = 0 then (some (some (.inl (-1000000000)), m)) else (calI (JX12_in a1 0 2 m) fun x2 m1 =>
  if x2 = 0 then (some (some (.inl (-1000000000)), m1)) else (if a1 = 0 then (JX12_ago_27 a1 a2 5 0 a2 m1) else (JX12_ago_27 a1 a2 2 0 a2 m1)))
set_option maxRecDepth 20000 in
theorem CX12_ago (a1 : Int32) (a2 : Int32) (m : hM) : Cn mX12_ago 1 [.inr (.inr (40, 0)), .inl a1, .inl a2] m (JX12_ago a1 a2 m) := by
  refine cn_of (by decide +kernel) (by simp only [List.map, vcat, List.sum_cons, List.sum_nil]; decide) ?_
  unfold JX12_ago
  show G mX12_ago 1 0 [(0, .inr (.inr (40, 0))), (1, .inl a1), (2, .inl a2)] [] m _
  refine g_aload_n 0 (kdX12_ago 0 rfl) rfl ?_
  refine g_get (v := .inl (m.1 40 0 15)) (kdX12_ago 1 rfl) fX12_203 rfl ?_
  refine g_if_eq (tgt := 33) (kdX12_ago 2 rfl) (by decide) (fun _ => ?_) (fun _ => ?_)
  · refine g_ldc (kdX12_ago 17 rfl) cX12_50 ?_
    exact g_iret rfl (kdX12_ago 18 rfl)
  · refine g_iload_n 1 (kdX12_ago 3 rfl) rfl ?_
    refine g_iconst (v := 0) (kdX12_ago 4 rfl) (by decide) ?_
    refine g_iconst (v := 2) (kdX12_ago 5 rfl) (by decide) ?_
    refine g_calI (ck_S (As := [.inl a1, .inl 0, .inl 2]) (S := []) (kdX12_ago 6 rfl) iX12_in lX12_89 rfl rfl rfl (by decide) (by simp only [List.map, vcat, List.sum_cons, List.sum_nil]; decide)) (CX12_in a1 0 2 m) (fun x2 m1 => ?_)
    refine g_if_eq (tgt := 33) (kdX12_ago 7 rfl) (by decide) (fun _ => ?_) (fun _ => ?_)
    · refine g_ldc (kdX12_ago 17 rfl) cX12_50 ?_
      exact g_iret rfl (kdX12_ago 18 rfl)
    · refine g_iload_n 2 (kdX12_ago 8 rfl) rfl ?_
      refine g_iconst (v := 0) (kdX12_ago 9 rfl) (by decide) ?_
      refine g_iload_n 1 (kdX12_ago 10 rfl) rfl ?_
      refine g_if_ne (tgt := 26) (kdX12_ago 11 rfl) (by decide) (fun _ => ?_) (fun _ => ?_)
      · refine g_iconst (v := 2) (kdX12_ago 14 rfl) (by decide) ?_
        exact g_fgt [0, 1, 2] rfl (BX12_ago_27 a1 a2 2 0 a2 m1)
      · refine g_iconst (v := 5) (kdX12_ago 12 rfl) (by decide) ?_
        refine g_goto (tgt := 27) (kdX12_ago 13 rfl) (by decide) ?_
        exact g_fgt [0, 1, 2] rfl (BX12_ago_27 a1 a2 5 0 a2 m1)
def bJX12_putAside_7 (K7 : Int32 → hM → hR) (K36 : hM → hR) (v1 : Int32) (v2 : Int32) (m : hM) : hR :=
  if 51 ≤ v2 then (K36 m) else (ald m 50 0 v2 fun x2 =>
  ast m 53 0 ((51 * v1) + v2) x2 fun m3 =>
  K7 (v2 + 1) m3)
set_option maxRecDepth 20000 in
theorem BbJX12_putAside_7 (K7 : Int32 → hM → hR) (K36 : hM → hR) (v1 : Int32) (h7 : ∀ (v2 : Int32) (m : hM), G mX12_putAside 0 7 [(0, .inr (.inr (40, 0))), (1, .inl v1), (2, .inl v2)] [] m (K7 v2 m)) (h36 : ∀ (m : hM), G mX12_putAside 0 36 [] [] m (K36 m)) (v2 : Int32) (m : hM) : G mX12_putAside 0 7 [(0, .inr (.inr (40, 0))), (1, .inl v1), (2, .inl v2)] [] m (bJX12_putAside_7 K7 K36 v1 v2 m) := by
  unfold bJX12_putAside_7
  refine g_iload_n 2 (kdX12_putAside 5 rfl) rfl ?_
  refine g_bipush (v := 51) (kdX12_putAside 6 rfl) (by decide) ?_
  refine g_icmp_ge (tgt := 36) (kdX12_putAside 7 rfl) (by decide) (fun _ => ?_) (fun _ => ?_)
  · exact g_fgt [] rfl (h36 m)
  · refine g_aload_n 0 (kdX12_putAside 8 rfl) rfl ?_
    refine g_get (v := .inr (.inr (53, 0))) (kdX12_putAside 9 rfl) fX12_57 rfl ?_
    refine g_bipush (v := 51) (kdX12_putAside 10 rfl) (by decide) ?_
    refine g_iload_n 1 (kdX12_putAside 11 rfl) rfl ?_
    refine g_imul (kdX12_putAside 12 rfl) ?_
    refine g_iload_n 2 (kdX12_putAside 13 rfl) rfl ?_
    refine g_iadd (kdX12_putAside 14 rfl) ?_
    refine g_aload_n 0 (kdX12_putAside 15 rfl) rfl ?_
    refine g_get (v := .inr (.inr (50, 0))) (kdX12_putAside 16 rfl) fX12_37 rfl ?_
    refine g_iload_n 2 (kdX12_putAside 17 rfl) rfl ?_
    refine g_iald (kdX12_putAside 18 rfl) (fun x2 => ?_)
    refine g_iast (kdX12_putAside 19 rfl) (fun m3 => ?_)
    refine g_iinc (v := v2 + 1) (L2 := [(2, .inl (v2 + 1)), (0, .inr (.inr (40, 0))), (1, .inl v1)]) 2 (kdX12_putAside 20 rfl) rfl rfl rfl (by decide) ?_
    refine g_goto (tgt := 7) (kdX12_putAside 21 rfl) (by decide) ?_
    exact g_fgt [1, 2, 0] rfl (h7 (v2 + 1) m3)
def JX12_putAside_7 (K36 : hM → hR) (v1 : Int32) : Nat → Int32 → hM → hR
  | 0, _, _ => none
  | f + 1, v2, m => bJX12_putAside_7 (fun v2 m => JX12_putAside_7 K36 v1 f v2 m) K36 v1 v2 m
theorem BJX12_putAside_7 (K36 : hM → hR) (v1 : Int32) (h36 : ∀ (m : hM), G mX12_putAside 0 36 [] [] m (K36 m)) : ∀ (f : Nat) (v2 : Int32) (m : hM), G mX12_putAside 0 7 [(0, .inr (.inr (40, 0))), (1, .inl v1), (2, .inl v2)] [] m (JX12_putAside_7 K36 v1 f v2 m)
  | 0, _, _ => g_none
  | f + 1, v2, m => BbJX12_putAside_7  _ K36 v1 (fun v2 m => BJX12_putAside_7  K36 v1 h36 f v2 m) h36 v2 m
def JX12_putAside (a1 : Int32) (m : hM) : hR :=
  stZ m 40 0 24 1 fun m1 =>
  JX12_putAside_7 (fun m4 => some (none, m4)) a1 FU 0 m1
set_option maxRecDepth 20000 in
theorem CX12_putAside (a1 : Int32) (m : hM) : Cn mX12_putAside 0 [.inr (.inr (40, 0)), .inl a1] m (JX12_putAside a1 m) := by
  refine cn_of (by decide +kernel) (by simp only [List.map, vcat, List.sum_cons, List.sum_nil]; decide) ?_
  unfold JX12_putAside
  show G mX12_putAside 0 0 [(0, .inr (.inr (40, 0))), (1, .inl a1)] [] m _
  refine g_aload_n 0 (kdX12_putAside 0 rfl) rfl ?_
  refine g_iconst (v := 1) (kdX12_putAside 1 rfl) (by decide) ?_
  refine g_putZ (kdX12_putAside 2 rfl) fX12_256 rfl (fun m1 => ?_)
  refine g_iconst (v := 0) (kdX12_putAside 3 rfl) (by decide) ?_
  refine g_istore_n (L2 := [(2, .inl 0), (0, .inr (.inr (40, 0))), (1, .inl a1)]) (kdX12_putAside 4 rfl) rfl (by decide) ?_
  refine g_fgt [1, 2, 0] rfl (BJX12_putAside_7  _ a1 ?_ FU 0 m1)
  · intro m4
    exact g_vret rfl (kdX12_putAside 22 rfl)
def bJX12_bringBack_15 (K15 : Int32 → hM → hR) (K44 : hM → hR) (v1 : Int32) (v2 : Int32) (m : hM) : hR :=
  if 51 ≤ v2 then (K44 m) else (ald m 53 0 ((51 * v1) + v2) fun x2 =>
  ast m 50 0 v2 x2 fun m3 =>
  K15 (v2 + 1) m3)
set_option maxRecDepth 20000 in
theorem BbJX12_bringBack_15 (K15 : Int32 → hM → hR) (K44 : hM → hR) (v1 : Int32) (h15 : ∀ (v2 : Int32) (m : hM), G mX12_bringBack 0 15 [(0, .inr (.inr (40, 0))), (1, .inl v1), (2, .inl v2)] [] m (K15 v2 m)) (h44 : ∀ (m : hM), G mX12_bringBack 0 44 [] [] m (K44 m)) (v2 : Int32) (m : hM) : G mX12_bringBack 0 15 [(0, .inr (.inr (40, 0))), (1, .inl v1), (2, .inl v2)] [] m (bJX12_bringBack_15 K15 K44 v1 v2 m) := by
  unfold bJX12_bringBack_15
  refine g_iload_n 2 (kdX12_bringBack 9 rfl) rfl ?_
  refine g_bipush (v := 51) (kdX12_bringBack 10 rfl) (by decide) ?_
  refine g_icmp_ge (tgt := 44) (kdX12_bringBack 11 rfl) (by decide) (fun _ => ?_) (fun _ => ?_)
  · exact g_fgt [] rfl (h44 m)
  · refine g_aload_n 0 (kdX12_bringBack 12 rfl) rfl ?_
    refine g_get (v := .inr (.inr (50, 0))) (kdX12_bringBack 13 rfl) fX12_37 rfl ?_
    refine g_iload_n 2 (kdX12_bringBack 14 rfl) rfl ?_
    refine g_aload_n 0 (kdX12_bringBack 15 rfl) rfl ?_
    refine g_get (v := .inr (.inr (53, 0))) (kdX12_bringBack 16 rfl) fX12_57 rfl ?_
    refine g_bipush (v := 51) (kdX12_bringBack 17 rfl) (by decide) ?_
    refine g_iload_n 1 (kdX12_bringBack 18 rfl) rfl ?_
    refine g_imul (kdX12_bringBack 19 rfl) ?_
    refine g_iload_n 2 (kdX12_bringBack 20 rfl) rfl ?_
    refine g_iadd (kdX12_bringBack 21 rfl) ?_
    refine g_iald (kdX12_bringBack 22 rfl) (fun x2 => ?_)
    refine g_iast (kdX12_bringBack 23 rfl) (fun m3 => ?_)
    refine g_iinc (v := v2 + 1) (L2 := [(2, .inl (v2 + 1)), (0, .inr (.inr (40, 0))), (1, .inl v1)]) 2 (kdX12_bringBack 24 rfl) rfl rfl rfl (by decide) ?_
    refine g_goto (tgt := 15) (kdX12_bringBack 25 rfl) (by decide) ?_
    exact g_fgt [1, 2, 0] rfl (h15 (v2 + 1) m3)
def JX12_bringBack_15 (K44 : hM → hR) (v1 : Int32) : Nat → Int32 → hM → hR
  | 0, _, _ => none
  | f + 1, v2, m => bJX12_bringBack_15 (fun v2 m => JX12_bringBack_15 K44 v1 f v2 m) K44 v1 v2 m
theorem BJX12_bringBack_15 (K44 : hM → hR) (v1 : Int32) (h44 : ∀ (m : hM), G mX12_bringBack 0 44 [] [] m (K44 m)) : ∀ (f : Nat) (v2 : Int32) (m : hM), G mX12_bringBack 0 15 [(0, .inr (.inr (40, 0))), (1, .inl v1), (2, .inl v2)] [] m (JX12_bringBack_15 K44 v1 f v2 m)
  | 0, _, _ => g_none
  | f + 1, v2, m => BbJX12_bringBack_15  _ K44 v1 (fun v2 m => BJX12_bringBack_15  K44 v1 h44 f v2 m) h44 v2 m
def JX12_bringBack_10 (v1 : Int32) (v100 : Int32) (m : hM) : hR :=
  stZ m 40 0 24 v100 fun m1 =>
  JX12_bringBack_15 (fun m4 => some (none, m4)) v1 FU 0 m1
set_option maxRecDepth 20000 in
theorem BX12_bringBack_10 (v1 : Int32) (v100 : Int32) (m : hM) : G mX12_bringBack 0 10 [(0, .inr (.inr (40, 0))), (1, .inl v1)] [.inl v100, .inr (.inr (40, 0))] m (JX12_bringBack_10 v1 v100 m) := by
  unfold JX12_bringBack_10
  refine g_putZ (kdX12_bringBack 6 rfl) fX12_256 rfl (fun m1 => ?_)
  refine g_iconst (v := 0) (kdX12_bringBack 7 rfl) (by decide) ?_
  refine g_istore_n (L2 := [(2, .inl 0), (0, .inr (.inr (40, 0))), (1, .inl v1)]) (kdX12_bringBack 8 rfl) rfl (by decide) ?_
  refine g_fgt [1, 2, 0] rfl (BJX12_bringBack_15  _ v1 ?_ FU 0 m1)
  · intro m4
    exact g_vret rfl (kdX12_bringBack 26 rfl)
def JX12_bringBack (a1 : Int32) (m : hM) : hR :=
  if a1 ≤ 0 then (JX12_bringBack_10 a1 0 m) else (JX12_bringBack_10 a1 1 m)
set_option maxRecDepth 20000 in
theorem CX12_bringBack (a1 : Int32) (m : hM) : Cn mX12_bringBack 0 [.inr (.inr (40, 0)), .inl a1] m (JX12_bringBack a1 m) := by
  refine cn_of (by decide +kernel) (by simp only [List.map, vcat, List.sum_cons, List.sum_nil]; decide) ?_
  unfold JX12_bringBack
  show G mX12_bringBack 0 0 [(0, .inr (.inr (40, 0))), (1, .inl a1)] [] m _
  refine g_aload_n 0 (kdX12_bringBack 0 rfl) rfl ?_
  refine g_iload_n 1 (kdX12_bringBack 1 rfl) rfl ?_
  refine g_if_le (tgt := 9) (kdX12_bringBack 2 rfl) (by decide) (fun _ => ?_) (fun _ => ?_)
  · refine g_iconst (v := 0) (kdX12_bringBack 5 rfl) (by decide) ?_
    exact g_fgt [0, 1] rfl (BX12_bringBack_10 a1 0 m)
  · refine g_iconst (v := 1) (kdX12_bringBack 3 rfl) (by decide) ?_
    refine g_goto (tgt := 10) (kdX12_bringBack 4 rfl) (by decide) ?_
    exact g_fgt [0, 1] rfl (BX12_bringBack_10 a1 1 m)
def JX12_isScript (a1 : Int32) (m : hM) : hR :=
  if (m.1 40 0 15) = 0 then (jretZ 0 m) else (calI (JX12_in a1 0 ((m.1 40 0 18) - 1) m) fun x2 m1 =>
  if x2 = 0 then (jretZ 0 m1) else (jretZ 1 m1))
set_option maxRecDepth 20000 in
theorem CX12_isScript (a1 : Int32) (m : hM) : Cn mX12_isScript 1 [.inr (.inr (40, 0)), .inl a1] m (JX12_isScript a1 m) := by
  refine cn_of (by decide +kernel) (by simp only [List.map, vcat, List.sum_cons, List.sum_nil]; decide) ?_
  unfold JX12_isScript
  show G mX12_isScript 1 0 [(0, .inr (.inr (40, 0))), (1, .inl a1)] [] m _
  refine g_aload_n 0 (kdX12_isScript 0 rfl) rfl ?_
  refine g_get (v := .inl (m.1 40 0 15)) (kdX12_isScript 1 rfl) fX12_203 rfl ?_
  refine g_if_eq (tgt := 25) (kdX12_isScript 2 rfl) (by decide) (fun _ => ?_) (fun _ => ?_)
  · refine g_iconst (v := 0) (kdX12_isScript 13 rfl) (by decide) ?_
    exact g_zret rfl (kdX12_isScript 14 rfl)
  · refine g_iload_n 1 (kdX12_isScript 3 rfl) rfl ?_
    refine g_iconst (v := 0) (kdX12_isScript 4 rfl) (by decide) ?_
    refine g_aload_n 0 (kdX12_isScript 5 rfl) rfl ?_
    refine g_get (v := .inl (m.1 40 0 18)) (kdX12_isScript 6 rfl) fX12_219 rfl ?_
    refine g_iconst (v := 1) (kdX12_isScript 7 rfl) (by decide) ?_
    refine g_isub (kdX12_isScript 8 rfl) ?_
    refine g_calI (ck_S (As := [.inl a1, .inl 0, .inl ((m.1 40 0 18) - 1)]) (S := []) (kdX12_isScript 9 rfl) iX12_in lX12_89 rfl rfl rfl (by decide) (by simp only [List.map, vcat, List.sum_cons, List.sum_nil]; decide)) (CX12_in a1 0 ((m.1 40 0 18) - 1) m) (fun x2 m1 => ?_)
    refine g_if_eq (tgt := 25) (kdX12_isScript 10 rfl) (by decide) (fun _ => ?_) (fun _ => ?_)
    · refine g_iconst (v := 0) (kdX12_isScript 13 rfl) (by decide) ?_
      exact g_zret rfl (kdX12_isScript 14 rfl)
    · refine g_iconst (v := 1) (kdX12_isScript 11 rfl) (by decide) ?_
      refine g_goto (tgt := 26) (kdX12_isScript 12 rfl) (by decide) ?_
      exact g_zret rfl (kdX12_isScript 14 rfl)
def JX12_step (a1 : Int32) (a2 : Int32) (a3 : Int32) (m : hM) : hR :=
  calI (JX12_in a1 0 ((m.1 40 0 18) - 1) m) fun x2 m1 =>
  if x2 = 0 then (some (some (.inl (-1000000000)), m1)) else (ald m1 49 0 a1 fun x3 =>
  calI (JX12_in a2 0 (x3 - 1) m1) fun x5 m4 =>
  if x5 = 0 then (some (some (.inl (-1000000000)), m4)) else (calI (JX12_in a3 0 2 m4) fun x7 m6 =>
  if x7 = 0 then (some (some (.inl (-1000000000)), m6)) else (ald m6 48 0 ((3 * ((12 * a1) + a2)) + a3) fun x8 =>
  some (some (.inl x8), m6))))
set_option maxRecDepth 20000 in
theorem CX12_step (a1 : Int32) (a2 : Int32) (a3 : Int32) (m : hM) : Cn mX12_step 1 [.inr (.inr (40, 0)), .inl a1, .inl a2, .inl a3] m (JX12_step a1 a2 a3 m) := by
  refine cn_of (by decide +kernel) (by simp only [List.map, vcat, List.sum_cons, List.sum_nil]; decide) ?_
  unfold JX12_step
  show G mX12_step 1 0 [(0, .inr (.inr (40, 0))), (1, .inl a1), (2, .inl a2), (3, .inl a3)] [] m _
  refine g_iload_n 1 (kdX12_step 0 rfl) rfl ?_
  refine g_iconst (v := 0) (kdX12_step 1 rfl) (by decide) ?_
  refine g_aload_n 0 (kdX12_step 2 rfl) rfl ?_
  refine g_get (v := .inl (m.1 40 0 18)) (kdX12_step 3 rfl) fX12_219 rfl ?_
  refine g_iconst (v := 1) (kdX12_step 4 rfl) (by decide) ?_
  refine g_isub (kdX12_step 5 rfl) ?_
  refine g_calI (ck_S (As := [.inl a1, .inl 0, .inl ((m.1 40 0 18) - 1)]) (S := []) (kdX12_step 6 rfl) iX12_in lX12_89 rfl rfl rfl (by decide) (by simp only [List.map, vcat, List.sum_cons, List.sum_nil]; decide)) (CX12_in a1 0 ((m.1 40 0 18) - 1) m) (fun x2 m1 => ?_)
  refine g_if_eq (tgt := 57) (kdX12_step 7 rfl) (by decide) (fun _ => ?_) (fun _ => ?_)
  · refine g_ldc (kdX12_step 36 rfl) cX12_50 ?_
    exact g_iret rfl (kdX12_step 37 rfl)
  · refine g_iload_n 2 (kdX12_step 8 rfl) rfl ?_
    refine g_iconst (v := 0) (kdX12_step 9 rfl) (by decide) ?_
    refine g_aload_n 0 (kdX12_step 10 rfl) rfl ?_
    refine g_get (v := .inr (.inr (49, 0))) (kdX12_step 11 rfl) fX12_34 rfl ?_
    refine g_iload_n 1 (kdX12_step 12 rfl) rfl ?_
    refine g_iald (kdX12_step 13 rfl) (fun x3 => ?_)
    refine g_iconst (v := 1) (kdX12_step 14 rfl) (by decide) ?_
    refine g_isub (kdX12_step 15 rfl) ?_
    refine g_calI (ck_S (As := [.inl a2, .inl 0, .inl (x3 - 1)]) (S := []) (kdX12_step 16 rfl) iX12_in lX12_89 rfl rfl rfl (by decide) (by simp only [List.map, vcat, List.sum_cons, List.sum_nil]; decide)) (CX12_in a2 0 (x3 - 1) m1) (fun x5 m4 => ?_)
    refine g_if_eq (tgt := 57) (kdX12_step 17 rfl) (by decide) (fun _ => ?_) (fun _ => ?_)
    · refine g_ldc (kdX12_step 36 rfl) cX12_50 ?_
      exact g_iret rfl (kdX12_step 37 rfl)
    · refine g_iload_n 3 (kdX12_step 18 rfl) rfl ?_
      refine g_iconst (v := 0) (kdX12_step 19 rfl) (by decide) ?_
      refine g_iconst (v := 2) (kdX12_step 20 rfl) (by decide) ?_
      refine g_calI (ck_S (As := [.inl a3, .inl 0, .inl 2]) (S := []) (kdX12_step 21 rfl) iX12_in lX12_89 rfl rfl rfl (by decide) (by simp only [List.map, vcat, List.sum_cons, List.sum_nil]; decide)) (CX12_in a3 0 2 m4) (fun x7 m6 => ?_)
      refine g_if_eq (tgt := 57) (kdX12_step 22 rfl) (by decide) (fun _ => ?_) (fun _ => ?_)
      · refine g_ldc (kdX12_step 36 rfl) cX12_50 ?_
        exact g_iret rfl (kdX12_step 37 rfl)
      · refine g_aload_n 0 (kdX12_step 23 rfl) rfl ?_
        refine g_get (v := .inr (.inr (48, 0))) (kdX12_step 24 rfl) fX12_31 rfl ?_
        refine g_iconst (v := 3) (kdX12_step 25 rfl) (by decide) ?_
        refine g_bipush (v := 12) (kdX12_step 26 rfl) (by decide) ?_
        refine g_iload_n 1 (kdX12_step 27 rfl) rfl ?_
        refine g_imul (kdX12_step 28 rfl) ?_
        refine g_iload_n 2 (kdX12_step 29 rfl) rfl ?_
        refine g_iadd (kdX12_step 30 rfl) ?_
        refine g_imul (kdX12_step 31 rfl) ?_
        refine g_iload_n 3 (kdX12_step 32 rfl) rfl ?_
        refine g_iadd (kdX12_step 33 rfl) ?_
        refine g_iald (kdX12_step 34 rfl) (fun x8 => ?_)
        refine g_goto (tgt := 59) (kdX12_step 35 rfl) (by decide) ?_
        exact g_iret rfl (kdX12_step 37 rfl)
def JX12_canStep (a1 : Int32) (m : hM) : hR :=
  ald m 48 0 (a1 + 1) fun x1 =>
  ald m 48 0 a1 fun x2 =>
  swL x2 [(0, ald m 50 0 18 fun x3 =>
  if 9999 < (x3 + x1) then (jretZ 0 m) else (jretZ 1 m)), (1, ald m 50 0 14 fun x4 =>
  if x4 = x1 then (jretZ 0 m) else (jretZ 1 m)), (2, ald m 50 0 16 fun x5 =>
  if x5 = x1 then (jretZ 0 m) else (jretZ 1 m)), (3, calI (JX12_isTap x1 m) fun x7 m6 =>
  if x7 = 0 then (jretZ 0 m6) else (ald m6 50 0 (0 + x1) fun x8 =>
  ald m6 48 0 (a1 + 2) fun x9 =>
  if x8 = x9 then (jretZ 0 m6) else (jretZ 1 m6))), (4, ald m 50 0 22 fun x10 =>
  if x10 = 0 then (jretZ 1 m) else (jretZ 0 m)), (5, ald m 50 0 20 fun x11 =>
  if x11 = x1 then (jretZ 0 m) else (jretZ 1 m)), (6, ald m 50 0 19 fun x12 =>
  if x12 = x1 then (jretZ 0 m) else (jretZ 1 m))] (ald m 50 0 14 fun x13 =>
  calI (JX12_better x13 m) fun x15 m14 =>
  if x15 = (-1) then (jretZ 0 m14) else (jretZ 1 m14))
set_option maxRecDepth 20000 in
theorem CX12_canStep (a1 : Int32) (m : hM) : Cn mX12_canStep 5 [.inr (.inr (40, 0)), .inl a1] m (JX12_canStep a1 m) := by
  refine cn_of (by decide +kernel) (by simp only [List.map, vcat, List.sum_cons, List.sum_nil]; decide) ?_
  unfold JX12_canStep
  show G mX12_canStep 5 0 [(0, .inr (.inr (40, 0))), (1, .inl a1)] [] m _
  refine g_aload_n 0 (kdX12_canStep 0 rfl) rfl ?_
  refine g_get (v := .inr (.inr (48, 0))) (kdX12_canStep 1 rfl) fX12_31 rfl ?_
  refine g_iload_n 1 (kdX12_canStep 2 rfl) rfl ?_
  refine g_iconst (v := 1) (kdX12_canStep 3 rfl) (by decide) ?_
  refine g_iadd (kdX12_canStep 4 rfl) ?_
  refine g_iald (kdX12_canStep 5 rfl) (fun x1 => ?_)
  refine g_istore_n (L2 := [(2, .inl x1), (0, .inr (.inr (40, 0))), (1, .inl a1)]) (kdX12_canStep 6 rfl) rfl (by decide) ?_
  refine g_aload_n 1 (kdX12_canStep 7 rfl) rfl ?_
  refine g_get (v := .inr (.inr (48, 0))) (kdX12_canStep 8 rfl) fX12_31 rfl ?_
  refine g_iload_n 2 (kdX12_canStep 9 rfl) rfl ?_
  refine g_iald (kdX12_canStep 10 rfl) (fun x2 => ?_)
  refine g_table (offs := [41, 62, 79, 96, 129, 145, 162]) (dt := 194) (kdX12_canStep 11 rfl) (by simp only [swK]; decide) rfl (by decide) ⟨⟨56, by decide, ?_⟩, ⟨77, by decide, ?_⟩, ⟨94, by decide, ?_⟩, ⟨111, by decide, ?_⟩, ⟨144, by decide, ?_⟩, ⟨160, by decide, ?_⟩, ⟨177, by decide, ?_⟩, trivial⟩ ?_
  · refine g_aload_n 1 (kdX12_canStep 12 rfl) rfl ?_
    refine g_get (v := .inr (.inr (50, 0))) (kdX12_canStep 13 rfl) fX12_37 rfl ?_
    refine g_bipush (v := 18) (kdX12_canStep 14 rfl) (by decide) ?_
    refine g_iald (kdX12_canStep 15 rfl) (fun x3 => ?_)
    refine g_iload_n 0 (kdX12_canStep 16 rfl) rfl ?_
    refine g_iadd (kdX12_canStep 17 rfl) ?_
    refine g_sipush (v := 9999) (kdX12_canStep 18 rfl) (by decide) ?_
    refine g_icmp_gt (tgt := 75) (kdX12_canStep 19 rfl) (by decide) (fun _ => ?_) (fun _ => ?_)
    · refine g_iconst (v := 0) (kdX12_canStep 22 rfl) (by decide) ?_
      exact g_zret rfl (kdX12_canStep 23 rfl)
    · refine g_iconst (v := 1) (kdX12_canStep 20 rfl) (by decide) ?_
      refine g_goto (tgt := 76) (kdX12_canStep 21 rfl) (by decide) ?_
      exact g_zret rfl (kdX12_canStep 23 rfl)
  · refine g_aload_n 1 (kdX12_canStep 24 rfl) rfl ?_
    refine g_get (v := .inr (.inr (50, 0))) (kdX12_canStep 25 rfl) fX12_37 rfl ?_
    refine g_bipush (v := 14) (kdX12_canStep 26 rfl) (by decide) ?_
    refine g_iald (kdX12_canStep 27 rfl) (fun x4 => ?_)
    refine g_iload_n 0 (kdX12_canStep 28 rfl) rfl ?_
    refine g_icmp_eq (tgt := 92) (kdX12_canStep 29 rfl) (by decide) (fun _ => ?_) (fun _ => ?_)
    · refine g_iconst (v := 0) (kdX12_canStep 32 rfl) (by decide) ?_
      exact g_zret rfl (kdX12_canStep 33 rfl)
    · refine g_iconst (v := 1) (kdX12_canStep 30 rfl) (by decide) ?_
      refine g_goto (tgt := 93) (kdX12_canStep 31 rfl) (by decide) ?_
      exact g_zret rfl (kdX12_canStep 33 rfl)
  · refine g_aload_n 1 (kdX12_canStep 34 rfl) rfl ?_
    refine g_get (v := .inr (.inr (50, 0))) (kdX12_canStep 35 rfl) fX12_37 rfl ?_
    refine g_bipush (v := 16) (kdX12_canStep 36 rfl) (by decide) ?_
    refine g_iald (kdX12_canStep 37 rfl) (fun x5 => ?_)
    refine g_iload_n 0 (kdX12_canStep 38 rfl) rfl ?_
    refine g_icmp_eq (tgt := 109) (kdX12_canStep 39 rfl) (by decide) (fun _ => ?_) (fun _ => ?_)
    · refine g_iconst (v := 0) (kdX12_canStep 42 rfl) (by decide) ?_
      exact g_zret rfl (kdX12_canStep 43 rfl)
    · refine g_iconst (v := 1) (kdX12_canStep 40 rfl) (by decide) ?_
      refine g_goto (tgt := 110) (kdX12_canStep 41 rfl) (by decide) ?_
      exact g_zret rfl (kdX12_canStep 43 rfl)
  · refine g_aload_n 1 (kdX12_canStep 44 rfl) rfl ?_
    refine g_iload_n 0 (kdX12_canStep 45 rfl) rfl ?_
    refine g_calI (ck_V (As := [.inl x1]) (S := []) (t := 40) (o := 0) (kdX12_canStep 46 rfl) iX12_isTap lX12_325 rc_40 rfl rfl rfl (by decide) (by simp only [List.map, vcat, List.sum_cons, List.sum_nil]; decide)) (CX12_isTap x1 m) (fun x7 m6 => ?_)
    refine g_if_eq (tgt := 142) (kdX12_canStep 47 rfl) (by decide) (fun _ => ?_) (fun _ => ?_)
    · refine g_iconst (v := 0) (kdX12_canStep 63 rfl) (by decide) ?_
      exact g_zret rfl (kdX12_canStep 64 rfl)
    · refine g_aload_n 1 (kdX12_canStep 48 rfl) rfl ?_
      refine g_get (v := .inr (.inr (50, 0))) (kdX12_canStep 49 rfl) fX12_37 rfl ?_
      refine g_iconst (v := 0) (kdX12_canStep 50 rfl) (by decide) ?_
      refine g_iload_n 0 (kdX12_canStep 51 rfl) rfl ?_
      refine g_iadd (kdX12_canStep 52 rfl) ?_
      refine g_iald (kdX12_canStep 53 rfl) (fun x8 => ?_)
      refine g_aload_n 1 (kdX12_canStep 54 rfl) rfl ?_
      refine g_get (v := .inr (.inr (48, 0))) (kdX12_canStep 55 rfl) fX12_31 rfl ?_
      refine g_iload_n 2 (kdX12_canStep 56 rfl) rfl ?_
      refine g_iconst (v := 2) (kdX12_canStep 57 rfl) (by decide) ?_
      refine g_iadd (kdX12_canStep 58 rfl) ?_
      refine g_iald (kdX12_canStep 59 rfl) (fun x9 => ?_)
      refine g_icmp_eq (tgt := 142) (kdX12_canStep 60 rfl) (by decide) (fun _ => ?_) (fun _ => ?_)
      · refine g_iconst (v := 0) (kdX12_canStep 63 rfl) (by decide) ?_
        exact g_zret rfl (kdX12_canStep 64 rfl)
      · refine g_iconst (v := 1) (kdX12_canStep 61 rfl) (by decide) ?_
        refine g_goto (tgt := 143) (kdX12_canStep 62 rfl) (by decide) ?_
        exact g_zret rfl (kdX12_canStep 64 rfl)
  · refine g_aload_n 1 (kdX12_canStep 65 rfl) rfl ?_
    refine g_get (v := .inr (.inr (50, 0))) (kdX12_canStep 66 rfl) fX12_37 rfl ?_
    refine g_bipush (v := 22) (kdX12_canStep 67 rfl) (by decide) ?_
    refine g_iald (kdX12_canStep 68 rfl) (fun x10 => ?_)
    refine g_if_ne (tgt := 158) (kdX12_canStep 69 rfl) (by decide) (fun _ => ?_) (fun _ => ?_)
    · refine g_iconst (v := 0) (kdX12_canStep 72 rfl) (by decide) ?_
      exact g_zret rfl (kdX12_canStep 73 rfl)
    · refine g_iconst (v := 1) (kdX12_canStep 70 rfl) (by decide) ?_
      refine g_goto (tgt := 159) (kdX12_canStep 71 rfl) (by decide) ?_
      exact g_zret rfl (kdX12_canStep 73 rfl)
  · refine g_aload_n 1 (kdX12_canStep 74 rfl) rfl ?_
    refine g_get (v := .inr (.inr (50, 0))) (kdX12_canStep 75 rfl) fX12_37 rfl ?_
    refine g_bipush (v := 20) (kdX12_canStep 76 rfl) (by decide) ?_
    refine g_iald (kdX12_canStep 77 rfl) (fun x11 => ?_)
    refine g_iload_n 0 (kdX12_canStep 78 rfl) rfl ?_
    refine g_icmp_eq (tgt := 175) (kdX12_canStep 79 rfl) (by decide) (fun _ => ?_) (fun _ => ?_)
    · refine g_iconst (v := 0) (kdX12_canStep 82 rfl) (by decide) ?_
      exact g_zret rfl (kdX12_canStep 83 rfl)
    · refine g_iconst (v := 1) (kdX12_canStep 80 rfl) (by decide) ?_
      refine g_goto (tgt := 176) (kdX12_canStep 81 rfl) (by decide) ?_
      exact g_zret rfl (kdX12_canStep 83 rfl)
  · refine g_aload_n 1 (kdX12_canStep 84 rfl) rfl ?_
    refine g_get (v := .inr (.inr (50, 0))) (kdX12_canStep 85 rfl) fX12_37 rfl ?_
    refine g_bipush (v := 19) (kdX12_canStep 86 rfl) (by decide) ?_
    refine g_iald (kdX12_canStep 87 rfl) (fun x12 => ?_)
    refine g_iload_n 0 (kdX12_canStep 88 rfl) rfl ?_
    refine g_icmp_eq (tgt := 192) (kdX12_canStep 89 rfl) (by decide) (fun _ => ?_) (fun _ => ?_)
    · refine g_iconst (v := 0) (kdX12_canStep 92 rfl) (by decide) ?_
      exact g_zret rfl (kdX12_canStep 93 rfl)
    · refine g_iconst (v := 1) (kdX12_canStep 90 rfl) (by decide) ?_
      refine g_goto (tgt := 193) (kdX12_canStep 91 rfl) (by decide) ?_
      exact g_zret rfl (kdX12_canStep 93 rfl)
  · refine g_aload_n 1 (kdX12_canStep 94 rfl) rfl ?_
    refine g_aload_n 1 (kdX12_canStep 95 rfl) rfl ?_
    refine g_get (v := .inr (.inr (50, 0))) (kdX12_canStep 96 rfl) fX12_37 rfl ?_
    refine g_bipush (v := 14) (kdX12_canStep 97 rfl) (by decide) ?_
    refine g_iald (kdX12_canStep 98 rfl) (fun x13 => ?_)
    refine g_calI (ck_V (As := [.inl x13]) (S := []) (t := 40) (o := 0) (kdX12_canStep 99 rfl) iX12_better lX12_310 rc_40 rfl rfl rfl (by decide) (by simp only [List.map, vcat, List.sum_cons, List.sum_nil]; decide)) (CX12_better x13 m) (fun x15 m14 => ?_)
    refine g_iconst (v := (-1)) (kdX12_canStep 100 rfl) (by decide) ?_
    refine g_icmp_eq (tgt := 213) (kdX12_canStep 101 rfl) (by decide) (fun _ => ?_) (fun _ => ?_)
    · refine g_iconst (v := 0) (kdX12_canStep 104 rfl) (by decide) ?_
      exact g_zret rfl (kdX12_canStep 105 rfl)
    · refine g_iconst (v := 1) (kdX12_canStep 102 rfl) (by decide) ?_
      refine g_goto (tgt := 214) (kdX12_canStep 103 rfl) (by decide) ?_
      exact g_zret rfl (kdX12_canStep 105 rfl)
def JX12_doStep (a1 : Int32) (m : hM) : hR :=
  ald m 48 0 (a1 + 1) fun x1 =>
  ald m 48 0 a1 fun x2 =>
  swL x2 [(0, calI (JX12_symbols x1 m) fun x4 m3 =>
  some (some (.inl x4), m3)), (1, ast m 50 0 14 x1 fun m5 =>
  some (some (.inl 0), m5)), (2, ast m 50 0 16 x1 fun m6 =>
  some (some (.inl 0), m6)), (3, ald m 48 0 (a1 + 2) fun x7 =>
  ast m 50 0 (0 + x1) x7 fun m8 =>
  ast m8 50 0 (6 + x1) 0 fun m9 =>
  some (some (.inl 0), m9)), (4, ast m 50 0 22 1 fun m10 =>
  some (some (.inl 0), m10)), (5, ast m 50 0 20 x1 fun m11 =>
  some (some (.inl 0), m11)), (6, ast m 50 0 19 x1 fun m12 =>
  some (some (.inl 0), m12))] (calV (JX12_seekNow m) fun m13 =>
  some (some (.inl 0), m13))
set_option maxRecDepth 20000 in
theorem CX12_doStep (a1 : Int32) (m : hM) : Cn mX12_doStep 6 [.inr (.inr (40, 0)), .inl a1] m (JX12_doStep a1 m) := by
  refine cn_of (by decide +kernel) (by simp only [List.map, vcat, List.sum_cons, List.sum_nil]; decide) ?_
  unfold JX12_doStep
  show G mX12_doStep 6 0 [(0, .inr (.inr (40, 0))), (1, .inl a1)] [] m _
  refine g_aload_n 0 (kdX12_doStep 0 rfl) rfl ?_
  refine g_get (v := .inr (.inr (48, 0))) (kdX12_doStep 1 rfl) fX12_31 rfl ?_
  refine g_iload_n 1 (kdX12_doStep 2 rfl) rfl ?_
  refine g_iconst (v := 1) (kdX12_doStep 3 rfl) (by decide) ?_
  refine g_iadd (kdX12_doStep 4 rfl) ?_
  refine g_iald (kdX12_doStep 5 rfl) (fun x1 => ?_)
  refine g_istore_n (L2 := [(2, .inl x1), (0, .inr (.inr (40, 0))), (1, .inl a1)]) (kdX12_doStep 6 rfl) rfl (by decide) ?_
  refine g_aload_n 1 (kdX12_doStep 7 rfl) rfl ?_
  refine g_get (v := .inr (.inr (48, 0))) (kdX12_doStep 8 rfl) fX12_31 rfl ?_
  refine g_iload_n 2 (kdX12_doStep 9 rfl) rfl ?_
  refine g_iald (kdX12_doStep 10 rfl) (fun x2 => ?_)
  refine g_table (offs := [41, 47, 57, 67, 95, 105, 115]) (dt := 140) (kdX12_doStep 11 rfl) (by simp only [swK]; decide) rfl (by decide) ⟨⟨56, by decide, ?_⟩, ⟨62, by decide, ?_⟩, ⟨72, by decide, ?_⟩, ⟨82, by decide, ?_⟩, ⟨110, by decide, ?_⟩, ⟨120, by decide, ?_⟩, ⟨130, by decide, ?_⟩, trivial⟩ ?_
  · refine g_aload_n 1 (kdX12_doStep 12 rfl) rfl ?_
    refine g_iload_n 0 (kdX12_doStep 13 rfl) rfl ?_
    refine g_calI (ck_V (As := [.inl x1]) (S := []) (t := 40) (o := 0) (kdX12_doStep 14 rfl) iX12_symbols lX12_319 rc_40 rfl rfl rfl (by decide) (by simp only [List.map, vcat, List.sum_cons, List.sum_nil]; decide)) (CX12_symbols x1 m) (fun x4 m3 => ?_)
    exact g_iret rfl (kdX12_doStep 15 rfl)
  · refine g_aload_n 1 (kdX12_doStep 16 rfl) rfl ?_
    refine g_get (v := .inr (.inr (50, 0))) (kdX12_doStep 17 rfl) fX12_37 rfl ?_
    refine g_bipush (v := 14) (kdX12_doStep 18 rfl) (by decide) ?_
    refine g_iload_n 0 (kdX12_doStep 19 rfl) rfl ?_
    refine g_iast (kdX12_doStep 20 rfl) (fun m5 => ?_)
    refine g_iconst (v := 0) (kdX12_doStep 21 rfl) (by decide) ?_
    exact g_iret rfl (kdX12_doStep 22 rfl)
  · refine g_aload_n 1 (kdX12_doStep 23 rfl) rfl ?_
    refine g_get (v := .inr (.inr (50, 0))) (kdX12_doStep 24 rfl) fX12_37 rfl ?_
    refine g_bipush (v := 16) (kdX12_doStep 25 rfl) (by decide) ?_
    refine g_iload_n 0 (kdX12_doStep 26 rfl) rfl ?_
    refine g_iast (kdX12_doStep 27 rfl) (fun m6 => ?_)
    refine g_iconst (v := 0) (kdX12_doStep 28 rfl) (by decide) ?_
    exact g_iret rfl (kdX12_doStep 29 rfl)
  · refine g_aload_n 1 (kdX12_doStep 30 rfl) rfl ?_
    refine g_get (v := .inr (.inr (50, 0))) (kdX12_doStep 31 rfl) fX12_37 rfl ?_
    refine g_iconst (v := 0) (kdX12_doStep 32 rfl) (by decide) ?_
    refine g_iload_n 0 (kdX12_doStep 33 rfl) rfl ?_
    refine g_iadd (kdX12_doStep 34 rfl) ?_
    refine g_aload_n 1 (kdX12_doStep 35 rfl) rfl ?_
    refine g_get (v := .inr (.inr (48, 0))) (kdX12_doStep 36 rfl) fX12_31 rfl ?_
    refine g_iload_n 2 (kdX12_doStep 37 rfl) rfl ?_
    refine g_iconst (v := 2) (kdX12_doStep 38 rfl) (by decide) ?_
    refine g_iadd (kdX12_doStep 39 rfl) ?_
    refine g_iald (kdX12_doStep 40 rfl) (fun x7 => ?_)
    refine g_iast (kdX12_doStep 41 rfl) (fun m8 => ?_)
    refine g_aload_n 1 (kdX12_doStep 42 rfl) rfl ?_
    refine g_get (v := .inr (.inr (50, 0))) (kdX12_doStep 43 rfl) fX12_37 rfl ?_
    refine g_bipush (v := 6) (kdX12_doStep 44 rfl) (by decide) ?_
    refine g_iload_n 0 (kdX12_doStep 45 rfl) rfl ?_
    refine g_iadd (kdX12_doStep 46 rfl) ?_
    refine g_iconst (v := 0) (kdX12_doStep 47 rfl) (by decide) ?_
    refine g_iast (kdX12_doStep 48 rfl) (fun m9 => ?_)
    refine g_iconst (v := 0) (kdX12_doStep 49 rfl) (by decide) ?_
    exact g_iret rfl (kdX12_doStep 50 rfl)
  · refine g_aload_n 1 (kdX12_doStep 51 rfl) rfl ?_
    refine g_get (v := .inr (.inr (50, 0))) (kdX12_doStep 52 rfl) fX12_37 rfl ?_
    refine g_bipush (v := 22) (kdX12_doStep 53 rfl) (by decide) ?_
    refine g_iconst (v := 1) (kdX12_doStep 54 rfl) (by decide) ?_
    refine g_iast (kdX12_doStep 55 rfl) (fun m10 => ?_)
    refine g_iconst (v := 0) (kdX12_doStep 56 rfl) (by decide) ?_
    exact g_iret rfl (kdX12_doStep 57 rfl)
  · refine g_aload_n 1 (kdX12_doStep 58 rfl) rfl ?_
    refine g_get (v := .inr (.inr (50, 0))) (kdX12_doStep 59 rfl) fX12_37 rfl ?_
    refine g_bipush (v := 20) (kdX12_doStep 60 rfl) (by decide) ?_
    refine g_iload_n 0 (kdX12_doStep 61 rfl) rfl ?_
    refine g_iast (kdX12_doStep 62 rfl) (fun m11 => ?_)
    refine g_iconst (v := 0) (kdX12_doStep 63 rfl) (by decide) ?_
    exact g_iret rfl (kdX12_doStep 64 rfl)
  · refine g_aload_n 1 (kdX12_doStep 65 rfl) rfl ?_
    refine g_get (v := .inr (.inr (50, 0))) (kdX12_doStep 66 rfl) fX12_37 rfl ?_
    refine g_bipush (v := 19) (kdX12_doStep 67 rfl) (by decide) ?_
    refine g_iload_n 0 (kdX12_doStep 68 rfl) rfl ?_
    refine g_iast (kdX12_doStep 69 rfl) (fun m12 => ?_)
    refine g_iconst (v := 0) (kdX12_doStep 70 rfl) (by decide) ?_
    exact g_iret rfl (kdX12_doStep 71 rfl)
  · refine g_aload_n 1 (kdX12_doStep 72 rfl) rfl ?_
    refine g_calV (ck_V (As := []) (S := []) (t := 40) (o := 0) (kdX12_doStep 73 rfl) iX12_seekNow lX12_328 rc_40 rfl rfl rfl (by decide) (by simp only [List.map, vcat, List.sum_cons, List.sum_nil]; decide)) (CX12_seekNow m) (fun m13 => ?_)
    refine g_iconst (v := 0) (kdX12_doStep 74 rfl) (by decide) ?_
    exact g_iret rfl (kdX12_doStep 75 rfl)
def JX12_goSteps_49 (K10 : hM → hR) (K86 : hM → hR) (v1 : Int32) (v2 : Int32) (m : hM) : hR :=
  calI (JX12_doStep (3 * ((12 * v1) + (m.1 40 0 31))) m) fun x7 m6 =>
  stI m6 40 0 32 ((m.1 40 0 32) + x7) fun m8 =>
  stI m8 40 0 31 ((m8.1 40 0 31) + 1) fun m9 =>
  K10 m9
set_option maxRecDepth 20000 in
theorem BX12_goSteps_49 (v1 : Int32) (v2 : Int32) (K10 : hM → hR) (K86 : hM → hR) (h10 : ∀ (m : hM), G mX12_goSteps 7 10 [(0, .inr (.inr (40, 0))), (1, .inl v1), (2, .inl v2)] [] m (K10 m)) (h86 : ∀ (m : hM), G mX12_goSteps 7 86 [] [] m (K86 m)) (m : hM) : G mX12_goSteps 7 49 [(0, .inr (.inr (40, 0))), (1, .inl v1), (2, .inl v2)] [] m (JX12_goSteps_49 K10 K86 v1 v2 m) := by
  unfold JX12_goSteps_49
  refine g_aload_n 0 (kdX12_goSteps 28 rfl) rfl ?_
  refine g_dup (kdX12_goSteps 29 rfl) rfl ?_
  refine g_get (v := .inl (m.1 40 0 32)) (kdX12_goSteps 30 rfl) fX12_343 rfl ?_
  refine g_aload_n 0 (kdX12_goSteps 31 rfl) rfl ?_
  refine g_iconst (v := 3) (kdX12_goSteps 32 rfl) (by decide) ?_
  refine g_bipush (v := 12) (kdX12_goSteps 33 rfl) (by decide) ?_
  refine g_iload_n 1 (kdX12_goSteps 34 rfl) rfl ?_
  refine g_imul (kdX12_goSteps 35 rfl) ?_
  refine g_aload_n 0 (kdX12_goSteps 36 rfl) rfl ?_
  refine g_get (v := .inl (m.1 40 0 31)) (kdX12_goSteps 37 rfl) fX12_340 rfl ?_
  refine g_iadd (kdX12_goSteps 38 rfl) ?_
  refine g_imul (kdX12_goSteps 39 rfl) ?_
  refine g_calI (ck_V (As := [.inl (3 * ((12 * v1) + (m.1 40 0 31)))]) (S := [.inl (m.1 40 0 32), .inr (.inr (40, 0))]) (t := 40) (o := 0) (kdX12_goSteps 40 rfl) iX12_doStep lX12_349 rc_40 rfl rfl rfl (by decide) (by simp only [List.map, vcat, List.sum_cons, List.sum_nil]; decide)) (CX12_doStep (3 * ((12 * v1) + (m.1 40 0 31))) m) (fun x7 m6 => ?_)
  refine g_iadd (kdX12_goSteps 41 rfl) ?_
  refine g_putI (kdX12_goSteps 42 rfl) fX12_343 rfl (fun m8 => ?_)
  refine g_aload_n 0 (kdX12_goSteps 43 rfl) rfl ?_
  refine g_dup (kdX12_goSteps 44 rfl) rfl ?_
  refine g_get (v := .inl (m8.1 40 0 31)) (kdX12_goSteps 45 rfl) fX12_340 rfl ?_
  refine g_iconst (v := 1) (kdX12_goSteps 46 rfl) (by decide) ?_
  refine g_iadd (kdX12_goSteps 47 rfl) ?_
  refine g_putI (kdX12_goSteps 48 rfl) fX12_340 rfl (fun m9 => ?_)
  refine g_goto (tgt := 10) (kdX12_goSteps 49 rfl) (by decide) ?_
  exact g_fgt [0, 1, 2] rfl (h10 m9)
def bJX12_goSteps_10 (K10 : hM → hR) (K86 : hM → hR) (v1 : Int32) (v2 : Int32) (m : hM) : hR :=
  ald m 49 0 v1 fun x3 =>
  if x3 ≤ (m.1 40 0 31) then (K86 m) else (calI (JX12_canStep (3 * ((12 * v1) + (m.1 40 0 31))) m) fun x5 m4 =>
  if x5 = 0 then (K86 m4) else (if v2 = 0 then (JX12_goSteps_49 K10 K86 v1 v2 m4) else (calV (JX12_keep m4) fun m10 =>
  JX12_goSteps_49 K10 K86 v1 v2 m10)))
set_option maxRecDepth 20000 in
theorem BbJX12_goSteps_10 (K10 : hM → hR) (K86 : hM → hR) (v1 : Int32) (v2 : Int32) (h10 : ∀ (m : hM), G mX12_goSteps 7 10 [(0, .inr (.inr (40, 0))), (1, .inl v1), (2, .inl v2)] [] m (K10 m)) (h86 : ∀ (m : hM), G mX12_goSteps 7 86 [] [] m (K86 m)) (m : hM) : G mX12_goSteps 7 10 [(0, .inr (.inr (40, 0))), (1, .inl v1), (2, .inl v2)] [] m (bJX12_goSteps_10 K10 K86 v1 v2 m) := by
  unfold bJX12_goSteps_10
  refine g_aload_n 0 (kdX12_goSteps 6 rfl) rfl ?_
  refine g_get (v := .inl (m.1 40 0 31)) (kdX12_goSteps 7 rfl) fX12_340 rfl ?_
  refine g_aload_n 0 (kdX12_goSteps 8 rfl) rfl ?_
  refine g_get (v := .inr (.inr (49, 0))) (kdX12_goSteps 9 rfl) fX12_34 rfl ?_
  refine g_iload_n 1 (kdX12_goSteps 10 rfl) rfl ?_
  refine g_iald (kdX12_goSteps 11 rfl) (fun x3 => ?_)
  refine g_icmp_ge (tgt := 86) (kdX12_goSteps 12 rfl) (by decide) (fun _ => ?_) (fun _ => ?_)
  · exact g_fgt [] rfl (h86 m)
  · refine g_aload_n 0 (kdX12_goSteps 13 rfl) rfl ?_
    refine g_iconst (v := 3) (kdX12_goSteps 14 rfl) (by decide) ?_
    refine g_bipush (v := 12) (kdX12_goSteps 15 rfl) (by decide) ?_
    refine g_iload_n 1 (kdX12_goSteps 16 rfl) rfl ?_
    refine g_imul (kdX12_goSteps 17 rfl) ?_
    refine g_aload_n 0 (kdX12_goSteps 18 rfl) rfl ?_
    refine g_get (v := .inl (m.1 40 0 31)) (kdX12_goSteps 19 rfl) fX12_340 rfl ?_
    refine g_iadd (kdX12_goSteps 20 rfl) ?_
    refine g_imul (kdX12_goSteps 21 rfl) ?_
    refine g_calI (ck_V (As := [.inl (3 * ((12 * v1) + (m.1 40 0 31)))]) (S := []) (t := 40) (o := 0) (kdX12_goSteps 22 rfl) iX12_canStep lX12_346 rc_40 rfl rfl rfl (by decide) (by simp only [List.map, vcat, List.sum_cons, List.sum_nil]; decide)) (CX12_canStep (3 * ((12 * v1) + (m.1 40 0 31))) m) (fun x5 m4 => ?_)
    refine g_if_eq (tgt := 86) (kdX12_goSteps 23 rfl) (by decide) (fun _ => ?_) (fun _ => ?_)
    · exact g_fgt [] rfl (h86 m4)
    · refine g_iload_n 2 (kdX12_goSteps 24 rfl) rfl ?_
      refine g_if_eq (tgt := 49) (kdX12_goSteps 25 rfl) (by decide) (fun _ => ?_) (fun _ => ?_)
      · exact g_fgt [0, 1, 2] rfl (BX12_goSteps_49 v1 v2 _ _ h10 h86 m4)
      · refine g_aload_n 0 (kdX12_goSteps 26 rfl) rfl ?_
        refine g_calV (ck_V (As := []) (S := []) (t := 40) (o := 0) (kdX12_goSteps 27 rfl) iX12_keep lX12_316 rc_40 rfl rfl rfl (by decide) (by simp only [List.map, vcat, List.sum_cons, List.sum_nil]; decide)) (CX12_keep m4) (fun m10 => ?_)
        exact g_fgt [0, 1, 2] rfl (BX12_goSteps_49 v1 v2 _ _ h10 h86 m10)
def JX12_goSteps_10 (K86 : hM → hR) (v1 : Int32) (v2 : Int32) : Nat → hM → hR
  | 0, _ => none
  | f + 1, m => bJX12_goSteps_10 (fun m => JX12_goSteps_10 K86 v1 v2 f m) K86 v1 v2  m
theorem BJX12_goSteps_10 (K86 : hM → hR) (v1 : Int32) (v2 : Int32) (h86 : ∀ (m : hM), G mX12_goSteps 7 86 [] [] m (K86 m)) : ∀ (f : Nat) (m : hM), G mX12_goSteps 7 10 [(0, .inr (.inr (40, 0))), (1, .inl v1), (2, .inl v2)] [] m (JX12_goSteps_10 K86 v1 v2 f  m)
  | 0, _ => g_none
  | f + 1, m => BbJX12_goSteps_10  _ K86 v1 v2 (fun  m => BJX12_goSteps_10  K86 v1 v2 h86 f  m) h86  m
def JX12_goSteps (a1 : Int32) (a2 : Int32) (m : hM) : hR :=
  stI m 40 0 31 0 fun m1 =>
  stI m1 40 0 32 0 fun m2 =>
  JX12_goSteps_10 (fun m11 => some (none, m11)) a1 a2 FU  m2
set_option maxRecDepth 20000 in
theorem CX12_goSteps (a1 : Int32) (a2 : Int32) (m : hM) : Cn mX12_goSteps 7 [.inr (.inr (40, 0)), .inl a1, .inl a2] m (JX12_goSteps a1 a2 m) := by
  refine cn_of (by decide +kernel) (by simp only [List.map, vcat, List.sum_cons, List.sum_nil]; decide) ?_
  unfold JX12_goSteps
  show G mX12_goSteps 7 0 [(0, .inr (.inr (40, 0))), (1, .inl a1), (2, .inl a2)] [] m _
  refine g_aload_n 0 (kdX12_goSteps 0 rfl) rfl ?_
  refine g_iconst (v := 0) (kdX12_goSteps 1 rfl) (by decide) ?_
  refine g_putI (kdX12_goSteps 2 rfl) fX12_340 rfl (fun m1 => ?_)
  refine g_aload_n 0 (kdX12_goSteps 3 rfl) rfl ?_
  refine g_iconst (v := 0) (kdX12_goSteps 4 rfl) (by decide) ?_
  refine g_putI (kdX12_goSteps 5 rfl) fX12_343 rfl (fun m2 => ?_)
  refine g_fgt [0, 1, 2] rfl (BJX12_goSteps_10  _ a1 a2 ?_ FU  m2)
  · intro m11
    exact g_vret rfl (kdX12_goSteps 50 rfl)
def JX12_run (a1 : Int32) (a2 : Int32) (m : hM) : hR :=
  calI (JX12_isScript a1 m) fun x2 m1 =>
  if x2 = 0 then (some (some (.inl (-1000000000)), m1)) else (calI (JX12_in a2 0 1 m1) fun x4 m3 =>
  if x4 = 0 then (some (some (.inl (-1000000000)), m3)) else (calV (JX12_putAside 0 m3) fun m5 =>
  calV (JX12_goSteps a1 0 m5) fun m6 =>
  calV (JX12_bringBack 0 m6) fun m7 =>
  if a2 = 1 then (some (some (.inl (m7.1 40 0 32)), m7)) else (ald m7 49 0 a1 fun x8 =>
  if (m7.1 40 0 31) = x8 then (some (some (.inl (-1)), m7)) else (some (some (.inl (m7.1 40 0 31)), m7)))))
set_option maxRecDepth 20000 in
theorem CX12_run (a1 : Int32) (a2 : Int32) (m : hM) : Cn mX12_run 8 [.inr (.inr (40, 0)), .inl a1, .inl a2] m (JX12_run a1 a2 m) := by
  refine cn_of (by decide +kernel) (by simp only [List.map, vcat, List.sum_cons, List.sum_nil]; decide) ?_
  unfold JX12_run
  show G mX12_run 8 0 [(0, .inr (.inr (40, 0))), (1, .inl a1), (2, .inl a2)] [] m _
  refine g_aload_n 0 (kdX12_run 0 rfl) rfl ?_
  refine g_iload_n 1 (kdX12_run 1 rfl) rfl ?_
  refine g_calI (ck_V (As := [.inl a1]) (S := []) (t := 40) (o := 0) (kdX12_run 2 rfl) iX12_isScript lX12_352 rc_40 rfl rfl rfl (by decide) (by simp only [List.map, vcat, List.sum_cons, List.sum_nil]; decide)) (CX12_isScript a1 m) (fun x2 m1 => ?_)
  refine g_if_eq (tgt := 17) (kdX12_run 3 rfl) (by decide) (fun _ => ?_) (fun _ => ?_)
  · refine g_ldc (kdX12_run 9 rfl) cX12_50 ?_
    exact g_iret rfl (kdX12_run 10 rfl)
  · refine g_iload_n 2 (kdX12_run 4 rfl) rfl ?_
    refine g_iconst (v := 0) (kdX12_run 5 rfl) (by decide) ?_
    refine g_iconst (v := 1) (kdX12_run 6 rfl) (by decide) ?_
    refine g_calI (ck_S (As := [.inl a2, .inl 0, .inl 1]) (S := []) (kdX12_run 7 rfl) iX12_in lX12_89 rfl rfl rfl (by decide) (by simp only [List.map, vcat, List.sum_cons, List.sum_nil]; decide)) (CX12_in a2 0 1 m1) (fun x4 m3 => ?_)
    refine g_if_ne (tgt := 20) (kdX12_run 8 rfl) (by decide) (fun _ => ?_) (fun _ => ?_)
    · refine g_aload_n 0 (kdX12_run 11 rfl) rfl ?_
      refine g_iconst (v := 0) (kdX12_run 12 rfl) (by decide) ?_
      refine g_calV (ck_V (As := [.inl 0]) (S := []) (t := 40) (o := 0) (kdX12_run 13 rfl) iX12_putAside lX12_355 rc_40 rfl rfl rfl (by decide) (by simp only [List.map, vcat, List.sum_cons, List.sum_nil]; decide)) (CX12_putAside 0 m3) (fun m5 => ?_)
      refine g_aload_n 0 (kdX12_run 14 rfl) rfl ?_
      refine g_iload_n 1 (kdX12_run 15 rfl) rfl ?_
      refine g_iconst (v := 0) (kdX12_run 16 rfl) (by decide) ?_
      refine g_calV (ck_V (As := [.inl a1, .inl 0]) (S := []) (t := 40) (o := 0) (kdX12_run 17 rfl) iX12_goSteps lX12_358 rc_40 rfl rfl rfl (by decide) (by simp only [List.map, vcat, List.sum_cons, List.sum_nil]; decide)) (CX12_goSteps a1 0 m5) (fun m6 => ?_)
      refine g_aload_n 0 (kdX12_run 18 rfl) rfl ?_
      refine g_iconst (v := 0) (kdX12_run 19 rfl) (by decide) ?_
      refine g_calV (ck_V (As := [.inl 0]) (S := []) (t := 40) (o := 0) (kdX12_run 20 rfl) iX12_bringBack lX12_362 rc_40 rfl rfl rfl (by decide) (by simp only [List.map, vcat, List.sum_cons, List.sum_nil]; decide)) (CX12_bringBack 0 m6) (fun m7 => ?_)
      refine g_iload_n 2 (kdX12_run 21 rfl) rfl ?_
      refine g_iconst (v := 1) (kdX12_run 22 rfl) (by decide) ?_
      refine g_icmp_ne (tgt := 48) (kdX12_run 23 rfl) (by decide) (fun _ => ?_) (fun _ => ?_)
      · refine g_aload_n 0 (kdX12_run 27 rfl) rfl ?_
        refine g_get (v := .inl (m7.1 40 0 31)) (kdX12_run 28 rfl) fX12_340 rfl ?_
        refine g_aload_n 0 (kdX12_run 29 rfl) rfl ?_
        refine g_get (v := .inr (.inr (49, 0))) (kdX12_run 30 rfl) fX12_34 rfl ?_
        refine g_iload_n 1 (kdX12_run 31 rfl) rfl ?_
        refine g_iald (kdX12_run 32 rfl) (fun x8 => ?_)
        refine g_icmp_ne (tgt := 65) (kdX12_run 33 rfl) (by decide) (fun _ => ?_) (fun _ => ?_)
        · refine g_aload_n 0 (kdX12_run 36 rfl) rfl ?_
          refine g_get (v := .inl (m7.1 40 0 31)) (kdX12_run 37 rfl) fX12_340 rfl ?_
          exact g_iret rfl (kdX12_run 38 rfl)
        · refine g_iconst (v := (-1)) (kdX12_run 34 rfl) (by decide) ?_
          refine g_goto (tgt := 69) (kdX12_run 35 rfl) (by decide) ?_
          exact g_iret rfl (kdX12_run 38 rfl)
      · refine g_aload_n 0 (kdX12_run 24 rfl) rfl ?_
        refine g_get (v := .inl (m7.1 40 0 32)) (kdX12_run 25 rfl) fX12_343 rfl ?_
        refine g_goto (tgt := 69) (kdX12_run 26 rfl) (by decide) ?_
        exact g_iret rfl (kdX12_run 38 rfl)
    · refine g_ldc (kdX12_run 9 rfl) cX12_50 ?_
      exact g_iret rfl (kdX12_run 10 rfl)
def JX12_perform (a1 : Int32) (m : hM) : hR :=
  calI (JX12_isScript a1 m) fun x2 m1 =>
  if x2 = 0 then (some (some (.inl (-1)), m1)) else (calV (JX12_goSteps a1 1 m1) fun m3 =>
  some (some (.inl (m3.1 40 0 31)), m3))
set_option maxRecDepth 20000 in
theorem CX12_perform (a1 : Int32) (m : hM) : Cn mX12_perform 8 [.inr (.inr (40, 0)), .inl a1] m (JX12_perform a1 m) := by
  refine cn_of (by decide +kernel) (by simp only [List.map, vcat, List.sum_cons, List.sum_nil]; decide) ?_
  unfold JX12_perform
  show G mX12_perform 8 0 [(0, .inr (.inr (40, 0))), (1, .inl a1)] [] m _
  refine g_aload_n 0 (kdX12_perform 0 rfl) rfl ?_
  refine g_iload_n 1 (kdX12_perform 1 rfl) rfl ?_
  refine g_calI (ck_V (As := [.inl a1]) (S := []) (t := 40) (o := 0) (kdX12_perform 2 rfl) iX12_isScript lX12_352 rc_40 rfl rfl rfl (by decide) (by simp only [List.map, vcat, List.sum_cons, List.sum_nil]; decide)) (CX12_isScript a1 m) (fun x2 m1 => ?_)
  refine g_if_ne (tgt := 10) (kdX12_perform 3 rfl) (by decide) (fun _ => ?_) (fun _ => ?_)
  · refine g_aload_n 0 (kdX12_perform 6 rfl) rfl ?_
    refine g_iload_n 1 (kdX12_perform 7 rfl) rfl ?_
    refine g_iconst (v := 1) (kdX12_perform 8 rfl) (by decide) ?_
    refine g_calV (ck_V (As := [.inl a1, .inl 1]) (S := []) (t := 40) (o := 0) (kdX12_perform 9 rfl) iX12_goSteps lX12_358 rc_40 rfl rfl rfl (by decide) (by simp only [List.map, vcat, List.sum_cons, List.sum_nil]; decide)) (CX12_goSteps a1 1 m1) (fun m3 => ?_)
    refine g_aload_n 0 (kdX12_perform 10 rfl) rfl ?_
    refine g_get (v := .inl (m3.1 40 0 31)) (kdX12_perform 11 rfl) fX12_340 rfl ?_
    exact g_iret rfl (kdX12_perform 12 rfl)
  · refine g_iconst (v := (-1)) (kdX12_perform 4 rfl) (by decide) ?_
    exact g_iret rfl (kdX12_perform 5 rfl)
def JX12_isPhase (a1 : Int32) (m : hM) : hR :=
  if (m.1 40 0 15) = 0 then (jretZ 0 m) else (calI (JX12_in a1 0 3 m) fun x2 m1 =>
  if x2 = 0 then (jretZ 0 m1) else (jretZ 1 m1))
set_option maxRecDepth 20000 in
theorem CX12_isPhase (a1 : Int32) (m : hM) : Cn mX12_isPhase 1 [.inr (.inr (40, 0)), .inl a1] m (JX12_isPhase a1 m) := by
  refine cn_of (by decide +kernel) (by simp only [List.map, vcat, List.sum_cons, List.sum_nil]; decide) ?_
  unfold JX12_isPhase
  show G mX12_isPhase 1 0 [(0, .inr (.inr (40, 0))), (1, .inl a1)] [] m _
  refine g_aload_n 0 (kdX12_isPhase 0 rfl) rfl ?_
  refine g_get (v := .inl (m.1 40 0 15)) (kdX12_isPhase 1 rfl) fX12_203 rfl ?_
  refine g_if_eq (tgt := 20) (kdX12_isPhase 2 rfl) (by decide) (fun _ => ?_) (fun _ => ?_)
  · refine g_iconst (v := 0) (kdX12_isPhase 10 rfl) (by decide) ?_
    exact g_zret rfl (kdX12_isPhase 11 rfl)
  · refine g_iload_n 1 (kdX12_isPhase 3 rfl) rfl ?_
    refine g_iconst (v := 0) (kdX12_isPhase 4 rfl) (by decide) ?_
    refine g_iconst (v := 3) (kdX12_isPhase 5 rfl) (by decide) ?_
    refine g_calI (ck_S (As := [.inl a1, .inl 0, .inl 3]) (S := []) (kdX12_isPhase 6 rfl) iX12_in lX12_89 rfl rfl rfl (by decide) (by simp only [List.map, vcat, List.sum_cons, List.sum_nil]; decide)) (CX12_in a1 0 3 m) (fun x2 m1 => ?_)
    refine g_if_eq (tgt := 20) (kdX12_isPhase 7 rfl) (by decide) (fun _ => ?_) (fun _ => ?_)
    · refine g_iconst (v := 0) (kdX12_isPhase 10 rfl) (by decide) ?_
      exact g_zret rfl (kdX12_isPhase 11 rfl)
    · refine g_iconst (v := 1) (kdX12_isPhase 8 rfl) (by decide) ?_
      refine g_goto (tgt := 21) (kdX12_isPhase 9 rfl) (by decide) ?_
      exact g_zret rfl (kdX12_isPhase 11 rfl)
def JX12_eye_73 (K26 : Int32 → Int32 → hM → hR) (K81 : Int32 → hM → hR) (v1 : Int32) (v2 : Int32) (v4 : Int32) (v100 : Int32) (v101 : Int32) (m : hM) : hR :=
  lt (v101 + v100) fun x10 =>
  K26 x10 (v4 + 1) m
set_option maxRecDepth 20000 in
theorem BX12_eye_73 (v1 : Int32) (v2 : Int32) (K26 : Int32 → Int32 → hM → hR) (K81 : Int32 → hM → hR) (h26 : ∀ (v3 : Int32) (v4 : Int32) (m : hM), G mX12_eye 2 26 [(0, .inr (.inr (40, 0))), (1, .inl v1), (2, .inl v2), (3, .inl v3), (4, .inl v4)] [] m (K26 v3 v4 m)) (h81 : ∀ (v3 : Int32) (m : hM), G mX12_eye 2 81 [(3, .inl v3)] [] m (K81 v3 m)) (v4 : Int32) (v100 : Int32) (v101 : Int32) (m : hM) : G mX12_eye 2 73 [(0, .inr (.inr (40, 0))), (1, .inl v1), (2, .inl v2), (4, .inl v4)] [.inl v100, .inl v101] m (JX12_eye_73 K26 K81 v1 v2 v4 v100 v101 m) := by
  unfold JX12_eye_73
  refine g_iadd (kdX12_eye 41 rfl) ?_
  refine g_lt (fun x10 => ?_)
  refine g_istore_n (L2 := [(3, .inl x10), (0, .inr (.inr (40, 0))), (1, .inl v1), (2, .inl v2), (4, .inl v4)]) (kdX12_eye 42 rfl) rfl (by decide) ?_
  refine g_iinc (v := v4 + 1) (L2 := [(4, .inl (v4 + 1)), (3, .inl x10), (0, .inr (.inr (40, 0))), (1, .inl v1), (2, .inl v2)]) 4 (kdX12_eye 43 rfl) rfl rfl rfl (by decide) ?_
  refine g_goto (tgt := 26) (kdX12_eye 44 rfl) (by decide) ?_
  exact g_fgt [2, 3, 4, 1, 0] rfl (h26 x10 (v4 + 1) m)
def JX12_eye_54 (K26 : Int32 → Int32 → hM → hR) (K81 : Int32 → hM → hR) (v1 : Int32) (v2 : Int32) (v4 : Int32) (v100 : Int32) (v101 : Int32) (m : hM) : hR :=
  ald m 45 0 3 fun x7 =>
  calI (JX12_has v4 x7 m) fun x9 m8 =>
  if v100 = x9 then (JX12_eye_73 K26 K81 v1 v2 v4 1 v101 m8) else (JX12_eye_73 K26 K81 v1 v2 v4 0 v101 m8)
set_option maxRecDepth 20000 in
theorem BX12_eye_54 (v1 : Int32) (v2 : Int32) (K26 : Int32 → Int32 → hM → hR) (K81 : Int32 → hM → hR) (h26 : ∀ (v3 : Int32) (v4 : Int32) (m : hM), G mX12_eye 2 26 [(0, .inr (.inr (40, 0))), (1, .inl v1), (2, .inl v2), (3, .inl v3), (4, .inl v4)] [] m (K26 v3 v4 m)) (h81 : ∀ (v3 : Int32) (m : hM), G mX12_eye 2 81 [(3, .inl v3)] [] m (K81 v3 m)) (v4 : Int32) (v100 : Int32) (v101 : Int32) (m : hM) : G mX12_eye 2 54 [(0, .inr (.inr (40, 0))), (1, .inl v1), (2, .inl v2), (4, .inl v4)] [.inl v100, .inl v101] m (JX12_eye_54 K26 K81 v1 v2 v4 v100 v101 m) := by
  unfold JX12_eye_54
  refine g_iload 3 (kdX12_eye 31 rfl) rfl ?_
  refine g_aload_n 0 (kdX12_eye 32 rfl) rfl ?_
  refine g_get (v := .inr (.inr (45, 0))) (kdX12_eye 33 rfl) fX12_22 rfl ?_
  refine g_iconst (v := 3) (kdX12_eye 34 rfl) (by decide) ?_
  refine g_iald (kdX12_eye 35 rfl) (fun x7 => ?_)
  refine g_calI (ck_S (As := [.inl v4, .inl x7]) (S := [.inl v100, .inl v101]) (kdX12_eye 36 rfl) iX12_has lX12_178 rfl rfl rfl (by decide) (by simp only [List.map, vcat, List.sum_cons, List.sum_nil]; decide)) (CX12_has v4 x7 m) (fun x9 m8 => ?_)
  refine g_icmp_ne (tgt := 72) (kdX12_eye 37 rfl) (by decide) (fun _ => ?_) (fun _ => ?_)
  · refine g_iconst (v := 0) (kdX12_eye 40 rfl) (by decide) ?_
    exact g_fgt [0, 1, 2, 3] rfl (BX12_eye_73 v1 v2 _ _ h26 h81 v4 0 v101 m8)
  · refine g_iconst (v := 1) (kdX12_eye 38 rfl) (by decide) ?_
    refine g_goto (tgt := 73) (kdX12_eye 39 rfl) (by decide) ?_
    exact g_fgt [0, 1, 2, 3] rfl (BX12_eye_73 v1 v2 _ _ h26 h81 v4 1 v101 m8)
def bJX12_eye_26 (K26 : Int32 → Int32 → hM → hR) (K81 : Int32 → hM → hR) (v1 : Int32) (v2 : Int32) (v3 : Int32) (v4 : Int32) (m : hM) : hR :=
  if 64 ≤ v4 then (K81 v3 m) else (calI (JX12_weighRow v4 v1 0 m) fun x6 m5 =>
  if x6 < (64 * v2) then (JX12_eye_54 K26 K81 v1 v2 v4 0 v3 m5) else (JX12_eye_54 K26 K81 v1 v2 v4 1 v3 m5))
set_option maxRecDepth 20000 in
theorem BbJX12_eye_26 (K26 : Int32 → Int32 → hM → hR) (K81 : Int32 → hM → hR) (v1 : Int32) (v2 : Int32) (h26 : ∀ (v3 : Int32) (v4 : Int32) (m : hM), G mX12_eye 2 26 [(0, .inr (.inr (40, 0))), (1, .inl v1), (2, .inl v2), (3, .inl v3), (4, .inl v4)] [] m (K26 v3 v4 m)) (h81 : ∀ (v3 : Int32) (m : hM), G mX12_eye 2 81 [(3, .inl v3)] [] m (K81 v3 m)) (v3 : Int32) (v4 : Int32) (m : hM) : G mX12_eye 2 26 [(0, .inr (.inr (40, 0))), (1, .inl v1), (2, .inl v2), (3, .inl v3), (4, .inl v4)] [] m (bJX12_eye_26 K26 K81 v1 v2 v3 v4 m) := by
  unfold bJX12_eye_26
  refine g_iload 4 (kdX12_eye 15 rfl) rfl ?_
  refine g_bipush (v := 64) (kdX12_eye 16 rfl) (by decide) ?_
  refine g_icmp_ge (tgt := 81) (kdX12_eye 17 rfl) (by decide) (fun _ => ?_) (fun _ => ?_)
  · exact g_fgt [3] rfl (h81 v3 m)
  · refine g_iload_n 3 (kdX12_eye 18 rfl) rfl ?_
    refine g_aload_n 0 (kdX12_eye 19 rfl) rfl ?_
    refine g_iload 4 (kdX12_eye 20 rfl) rfl ?_
    refine g_iload_n 1 (kdX12_eye 21 rfl) rfl ?_
    refine g_iconst (v := 0) (kdX12_eye 22 rfl) (by decide) ?_
    refine g_calI (ck_V (As := [.inl v4, .inl v1, .inl 0]) (S := [.inl v3]) (t := 40) (o := 0) (kdX12_eye 23 rfl) iX12_weighRow lX12_301 rc_40 rfl rfl rfl (by decide) (by simp only [List.map, vcat, List.sum_cons, List.sum_nil]; decide)) (CX12_weighRow v4 v1 0 m) (fun x6 m5 => ?_)
    refine g_bipush (v := 64) (kdX12_eye 24 rfl) (by decide) ?_
    refine g_iload_n 2 (kdX12_eye 25 rfl) rfl ?_
    refine g_imul (kdX12_eye 26 rfl) ?_
    refine g_icmp_lt (tgt := 53) (kdX12_eye 27 rfl) (by decide) (fun _ => ?_) (fun _ => ?_)
    · refine g_iconst (v := 0) (kdX12_eye 30 rfl) (by decide) ?_
      exact g_fgt [0, 1, 2, 4] rfl (BX12_eye_54 v1 v2 _ _ h26 h81 v4 0 v3 m5)
    · refine g_iconst (v := 1) (kdX12_eye 28 rfl) (by decide) ?_
      refine g_goto (tgt := 54) (kdX12_eye 29 rfl) (by decide) ?_
      exact g_fgt [0, 1, 2, 4] rfl (BX12_eye_54 v1 v2 _ _ h26 h81 v4 1 v3 m5)
def JX12_eye_26 (K81 : Int32 → hM → hR) (v1 : Int32) (v2 : Int32) : Nat → Int32 → Int32 → hM → hR
  | 0, _, _, _ => none
  | f + 1, v3, v4, m => bJX12_eye_26 (fun v3 v4 m => JX12_eye_26 K81 v1 v2 f v3 v4 m) K81 v1 v2 v3 v4 m
theorem BJX12_eye_26 (K81 : Int32 → hM → hR) (v1 : Int32) (v2 : Int32) (h81 : ∀ (v3 : Int32) (m : hM), G mX12_eye 2 81 [(3, .inl v3)] [] m (K81 v3 m)) : ∀ (f : Nat) (v3 : Int32) (v4 : Int32) (m : hM), G mX12_eye 2 26 [(0, .inr (.inr (40, 0))), (1, .inl v1), (2, .inl v2), (3, .inl v3), (4, .inl v4)] [] m (JX12_eye_26 K81 v1 v2 f v3 v4 m)
  | 0, _, _, _ => g_none
  | f + 1, v3, v4, m => BbJX12_eye_26  _ K81 v1 v2 (fun v3 v4 m => BJX12_eye_26  K81 v1 v2 h81 f v3 v4 m) h81 v3 v4 m
def JX12_eye (a1 : Int32) (a2 : Int32) (m : hM) : hR :=
  calI (JX12_isPhase a1 m) fun x2 m1 =>
  if x2 = 0 then (some (some (.inl (-1)), m1)) else (calI (JX12_in a2 (-99) 99 m1) fun x4 m3 =>
  if x4 = 0 then (some (some (.inl (-1)), m3)) else (JX12_eye_26 (fun v3 m11 => some (some (.inl v3), m11)) a1 a2 FU 0 0 m3))
set_option maxRecDepth 20000 in
theorem CX12_eye (a1 : Int32) (a2 : Int32) (m : hM) : Cn mX12_eye 2 [.inr (.inr (40, 0)), .inl a1, .inl a2] m (JX12_eye a1 a2 m) := by
  refine cn_of (by decide +kernel) (by simp only [List.map, vcat, List.sum_cons, List.sum_nil]; decide) ?_
  unfold JX12_eye
  show G mX12_eye 2 0 [(0, .inr (.inr (40, 0))), (1, .inl a1), (2, .inl a2)] [] m _
  refine g_aload_n 0 (kdX12_eye 0 rfl) rfl ?_
  refine g_iload_n 1 (kdX12_eye 1 rfl) rfl ?_
  refine g_calI (ck_V (As := [.inl a1]) (S := []) (t := 40) (o := 0) (kdX12_eye 2 rfl) iX12_isPhase lX12_365 rc_40 rfl rfl rfl (by decide) (by simp only [List.map, vcat, List.sum_cons, List.sum_nil]; decide)) (CX12_isPhase a1 m) (fun x2 m1 => ?_)
  refine g_if_eq (tgt := 19) (kdX12_eye 3 rfl) (by decide) (fun _ => ?_) (fun _ => ?_)
  · refine g_iconst (v := (-1)) (kdX12_eye 9 rfl) (by decide) ?_
    exact g_iret rfl (kdX12_eye 10 rfl)
  · refine g_iload_n 2 (kdX12_eye 4 rfl) rfl ?_
    refine g_bipush (v := (-99)) (kdX12_eye 5 rfl) (by decide) ?_
    refine g_bipush (v := 99) (kdX12_eye 6 rfl) (by decide) ?_
    refine g_calI (ck_S (As := [.inl a2, .inl (-99), .inl 99]) (S := []) (kdX12_eye 7 rfl) iX12_in lX12_89 rfl rfl rfl (by decide) (by simp only [List.map, vcat, List.sum_cons, List.sum_nil]; decide)) (CX12_in a2 (-99) 99 m1) (fun x4 m3 => ?_)
    refine g_if_ne (tgt := 21) (kdX12_eye 8 rfl) (by decide) (fun _ => ?_) (fun _ => ?_)
    · refine g_iconst (v := 0) (kdX12_eye 11 rfl) (by decide) ?_
      refine g_istore_n (L2 := [(3, .inl 0), (0, .inr (.inr (40, 0))), (1, .inl a1), (2, .inl a2)]) (kdX12_eye 12 rfl) rfl (by decide) ?_
      refine g_iconst (v := 0) (kdX12_eye 13 rfl) (by decide) ?_
      refine g_istore (L2 := [(4, .inl 0), (3, .inl 0), (0, .inr (.inr (40, 0))), (1, .inl a1), (2, .inl a2)]) (kdX12_eye 14 rfl) rfl (by decide) ?_
      refine g_fgt [2, 3, 4, 1, 0] rfl (BJX12_eye_26  _ a1 a2 ?_ FU 0 0 m3)
      · intro v3 m11
        refine g_iload_n 0 (kdX12_eye 45 rfl) rfl ?_
        exact g_iret rfl (kdX12_eye 46 rfl)
    · refine g_iconst (v := (-1)) (kdX12_eye 9 rfl) (by decide) ?_
      exact g_iret rfl (kdX12_eye 10 rfl)
def JX12_opening (a1 : Int32) (a2 : Int32) (m : hM) : hR :=
  calI (JX12_isPhase a1 m) fun x2 m1 =>
  if x2 = 0 then (some (some (.inl (-1000000000)), m1)) else (calI (JX12_in a2 0 3 m1) fun x4 m3 =>
  if x4 = 0 then (some (some (.inl (-1000000000)), m3)) else (calV (JX12_layOpening a1 m3) fun m5 =>
  if a2 = 0 then (some (some (.inl (m5.1 40 0 25)), m5)) else (if a2 = 1 then (some (some (.inl (m5.1 40 0 26)), m5)) else (if a2 = 2 then (some (some (.inl ((m5.1 40 0 25) - (m5.1 40 0 26))), m5)) else (calI (JJ9_floorDiv_7cf53 ((m5.1 40 0 25) + (m5.1 40 0 26)) 2 m5) fun x7 m6 =>
  some (some (.inl x7), m6))))))
set_option maxRecDepth 20000 in
theorem CX12_opening (a1 : Int32) (a2 : Int32) (m : hM) : Cn mX12_opening 3 [.inr (.inr (40, 0)), .inl a1, .inl a2] m (JX12_opening a1 a2 m) := by
  refine cn_of (by decide +kernel) (by simp only [List.map, vcat, List.sum_cons, List.sum_nil]; decide) ?_
  unfold JX12_opening
  show G mX12_opening 3 0 [(0, .inr (.inr (40, 0))), (1, .inl a1), (2, .inl a2)] [] m _
  refine g_aload_n 0 (kdX12_opening 0 rfl) rfl ?_
  refine g_iload_n 1 (kdX12_opening 1 rfl) rfl ?_
  refine g_calI (ck_V (As := [.inl a1]) (S := []) (t := 40) (o := 0) (kdX12_opening 2 rfl) iX12_isPhase lX12_365 rc_40 rfl rfl rfl (by decide) (by simp only [List.map, vcat, List.sum_cons, List.sum_nil]; decide)) (CX12_isPhase a1 m) (fun x2 m1 => ?_)
  refine g_if_eq (tgt := 17) (kdX12_opening 3 rfl) (by decide) (fun _ => ?_) (fun _ => ?_)
  · refine g_ldc (kdX12_opening 9 rfl) cX12_50 ?_
    exact g_iret rfl (kdX12_opening 10 rfl)
  · refine g_iload_n 2 (kdX12_opening 4 rfl) rfl ?_
    refine g_iconst (v := 0) (kdX12_opening 5 rfl) (by decide) ?_
    refine g_iconst (v := 3) (kdX12_opening 6 rfl) (by decide) ?_
    refine g_calI (ck_S (As := [.inl a2, .inl 0, .inl 3]) (S := []) (kdX12_opening 7 rfl) iX12_in lX12_89 rfl rfl rfl (by decide) (by simp only [List.map, vcat, List.sum_cons, List.sum_nil]; decide)) (CX12_in a2 0 3 m1) (fun x4 m3 => ?_)
    refine g_if_ne (tgt := 20) (kdX12_opening 8 rfl) (by decide) (fun _ => ?_) (fun _ => ?_)
    · refine g_aload_n 0 (kdX12_opening 11 rfl) rfl ?_
      refine g_iload_n 1 (kdX12_opening 12 rfl) rfl ?_
      refine g_calV (ck_V (As := [.inl a1]) (S := []) (t := 40) (o := 0) (kdX12_opening 13 rfl) iX12_layOpening lX12_304 rc_40 rfl rfl rfl (by decide) (by simp only [List.map, vcat, List.sum_cons, List.sum_nil]; decide)) (CX12_layOpening a1 m3) (fun m5 => ?_)
      refine g_iload_n 2 (kdX12_opening 14 rfl) rfl ?_
      refine g_if_ne (tgt := 36) (kdX12_opening 15 rfl) (by decide) (fun _ => ?_) (fun _ => ?_)
      · refine g_iload_n 2 (kdX12_opening 19 rfl) rfl ?_
        refine g_iconst (v := 1) (kdX12_opening 20 rfl) (by decide) ?_
        refine g_icmp_ne (tgt := 48) (kdX12_opening 21 rfl) (by decide) (fun _ => ?_) (fun _ => ?_)
        · refine g_iload_n 2 (kdX12_opening 25 rfl) rfl ?_
          refine g_iconst (v := 2) (kdX12_opening 26 rfl) (by decide) ?_
          refine g_icmp_ne (tgt := 65) (kdX12_opening 27 rfl) (by decide) (fun _ => ?_) (fun _ => ?_)
          · refine g_aload_n 0 (kdX12_opening 34 rfl) rfl ?_
            refine g_get (v := .inl (m5.1 40 0 25)) (kdX12_opening 35 rfl) fX12_294 rfl ?_
            refine g_aload_n 0 (kdX12_opening 36 rfl) rfl ?_
            refine g_get (v := .inl (m5.1 40 0 26)) (kdX12_opening 37 rfl) fX12_298 rfl ?_
            refine g_iadd (kdX12_opening 38 rfl) ?_
            refine g_iconst (v := 2) (kdX12_opening 39 rfl) (by decide) ?_
            refine g_calI (ck_S (As := [.inl ((m5.1 40 0 25) + (m5.1 40 0 26)), .inl 2]) (S := []) (kdX12_opening 40 rfl) iJ9_floorDiv_7cf53 lX12_368 rfl rfl rfl (by decide) (by simp only [List.map, vcat, List.sum_cons, List.sum_nil]; decide)) (CJ9_floorDiv_7cf53 ((m5.1 40 0 25) + (m5.1 40 0 26)) 2 m5) (fun x7 m6 => ?_)
            exact g_iret rfl (kdX12_opening 41 rfl)
          · refine g_aload_n 0 (kdX12_opening 28 rfl) rfl ?_
            refine g_get (v := .inl (m5.1 40 0 25)) (kdX12_opening 29 rfl) fX12_294 rfl ?_
            refine g_aload_n 0 (kdX12_opening 30 rfl) rfl ?_
            refine g_get (v := .inl (m5.1 40 0 26)) (kdX12_opening 31 rfl) fX12_298 rfl ?_
            refine g_isub (kdX12_opening 32 rfl) ?_
            refine g_goto (tgt := 78) (kdX12_opening 33 rfl) (by decide) ?_
            exact g_iret rfl (kdX12_opening 41 rfl)
        · refine g_aload_n 0 (kdX12_opening 22 rfl) rfl ?_
          refine g_get (v := .inl (m5.1 40 0 26)) (kdX12_opening 23 rfl) fX12_298 rfl ?_
          refine g_goto (tgt := 78) (kdX12_opening 24 rfl) (by decide) ?_
          exact g_iret rfl (kdX12_opening 41 rfl)
      · refine g_aload_n 0 (kdX12_opening 16 rfl) rfl ?_
        refine g_get (v := .inl (m5.1 40 0 25)) (kdX12_opening 17 rfl) fX12_294 rfl ?_
        refine g_goto (tgt := 78) (kdX12_opening 18 rfl) (by decide) ?_
        exact g_iret rfl (kdX12_opening 41 rfl)
    · refine g_ldc (kdX12_opening 9 rfl) cX12_50 ?_
      exact g_iret rfl (kdX12_opening 10 rfl)
def JX12_weigh (a1 : Int32) (a2 : Int32) (a3 : Int32) (m : hM) : hR :=
  calI (JX12_isPhase a2 m) fun x2 m1 =>
  if x2 = 0 then (some (some (.inl (-1000000000)), m1)) else (calI (JX12_in a1 0 63 m1) fun x4 m3 =>
  if x4 = 0 then (some (some (.inl (-1000000000)), m3)) else (calI (JX12_in a3 0 1 m3) fun x6 m5 =>
  if x6 = 0 then (some (some (.inl (-1000000000)), m5)) else (if a3 = 0 then (calI (JX12_weighRow a1 a2 0 m5) fun x11 m10 =>
  some (some (.inl x11), m10)) else (ald m5 45 0 3 fun x7 =>
  calI (JX12_has a1 x7 m5) fun x9 m8 =>
  if x9 = 0 then (some (some (.inl (-1)), m8)) else (some (some (.inl 1), m8))))))
set_option maxRecDepth 20000 in
theorem CX12_weigh (a1 : Int32) (a2 : Int32) (a3 : Int32) (m : hM) : Cn mX12_weigh 2 [.inr (.inr (40, 0)), .inl a1, .inl a2, .inl a3] m (JX12_weigh a1 a2 a3 m) := by
  refine cn_of (by decide +kernel) (by simp only [List.map, vcat, List.sum_cons, List.sum_nil]; decide) ?_
  unfold JX12_weigh
  show G mX12_weigh 2 0 [(0, .inr (.inr (40, 0))), (1, .inl a1), (2, .inl a2), (3, .inl a3)] [] m _
  refine g_aload_n 0 (kdX12_weigh 0 rfl) rfl ?_
  refine g_iload_n 2 (kdX12_weigh 1 rfl) rfl ?_
  refine g_calI (ck_V (As := [.inl a2]) (S := []) (t := 40) (o := 0) (kdX12_weigh 2 rfl) iX12_isPhase lX12_365 rc_40 rfl rfl rfl (by decide) (by simp only [List.map, vcat, List.sum_cons, List.sum_nil]; decide)) (CX12_isPhase a2 m) (fun x2 m1 => ?_)
  refine g_if_eq (tgt := 27) (kdX12_weigh 3 rfl) (by decide) (fun _ => ?_) (fun _ => ?_)
  · refine g_ldc (kdX12_weigh 14 rfl) cX12_50 ?_
    exact g_iret rfl (kdX12_weigh 15 rfl)
  · refine g_iload_n 1 (kdX12_weigh 4 rfl) rfl ?_
    refine g_iconst (v := 0) (kdX12_weigh 5 rfl) (by decide) ?_
    refine g_bipush (v := 63) (kdX12_weigh 6 rfl) (by decide) ?_
    refine g_calI (ck_S (As := [.inl a1, .inl 0, .inl 63]) (S := []) (kdX12_weigh 7 rfl) iX12_in lX12_89 rfl rfl rfl (by decide) (by simp only [List.map, vcat, List.sum_cons, List.sum_nil]; decide)) (CX12_in a1 0 63 m1) (fun x4 m3 => ?_)
    refine g_if_eq (tgt := 27) (kdX12_weigh 8 rfl) (by decide) (fun _ => ?_) (fun _ => ?_)
    · refine g_ldc (kdX12_weigh 14 rfl) cX12_50 ?_
      exact g_iret rfl (kdX12_weigh 15 rfl)
    · refine g_iload_n 3 (kdX12_weigh 9 rfl) rfl ?_
      refine g_iconst (v := 0) (kdX12_weigh 10 rfl) (by decide) ?_
      refine g_iconst (v := 1) (kdX12_weigh 11 rfl) (by decide) ?_
      refine g_calI (ck_S (As := [.inl a3, .inl 0, .inl 1]) (S := []) (kdX12_weigh 12 rfl) iX12_in lX12_89 rfl rfl rfl (by decide) (by simp only [List.map, vcat, List.sum_cons, List.sum_nil]; decide)) (CX12_in a3 0 1 m3) (fun x6 m5 => ?_)
      refine g_if_ne (tgt := 30) (kdX12_weigh 13 rfl) (by decide) (fun _ => ?_) (fun _ => ?_)
      · refine g_iload_n 3 (kdX12_weigh 16 rfl) rfl ?_
        refine g_if_ne (tgt := 44) (kdX12_weigh 17 rfl) (by decide) (fun _ => ?_) (fun _ => ?_)
        · refine g_iload_n 1 (kdX12_weigh 24 rfl) rfl ?_
          refine g_aload_n 0 (kdX12_weigh 25 rfl) rfl ?_
          refine g_get (v := .inr (.inr (45, 0))) (kdX12_weigh 26 rfl) fX12_22 rfl ?_
          refine g_iconst (v := 3) (kdX12_weigh 27 rfl) (by decide) ?_
          refine g_iald (kdX12_weigh 28 rfl) (fun x7 => ?_)
          refine g_calI (ck_S (As := [.inl a1, .inl x7]) (S := []) (kdX12_weigh 29 rfl) iX12_has lX12_178 rfl rfl rfl (by decide) (by simp only [List.map, vcat, List.sum_cons, List.sum_nil]; decide)) (CX12_has a1 x7 m5) (fun x9 m8 => ?_)
          refine g_if_eq (tgt := 61) (kdX12_weigh 30 rfl) (by decide) (fun _ => ?_) (fun _ => ?_)
          · refine g_iconst (v := (-1)) (kdX12_weigh 33 rfl) (by decide) ?_
            exact g_iret rfl (kdX12_weigh 34 rfl)
          · refine g_iconst (v := 1) (kdX12_weigh 31 rfl) (by decide) ?_
            refine g_goto (tgt := 62) (kdX12_weigh 32 rfl) (by decide) ?_
            exact g_iret rfl (kdX12_weigh 34 rfl)
        · refine g_aload_n 0 (kdX12_weigh 18 rfl) rfl ?_
          refine g_iload_n 1 (kdX12_weigh 19 rfl) rfl ?_
          refine g_iload_n 2 (kdX12_weigh 20 rfl) rfl ?_
          refine g_iconst (v := 0) (kdX12_weigh 21 rfl) (by decide) ?_
          refine g_calI (ck_V (As := [.inl a1, .inl a2, .inl 0]) (S := []) (t := 40) (o := 0) (kdX12_weigh 22 rfl) iX12_weighRow lX12_301 rc_40 rfl rfl rfl (by decide) (by simp only [List.map, vcat, List.sum_cons, List.sum_nil]; decide)) (CX12_weighRow a1 a2 0 m5) (fun x11 m10 => ?_)
          refine g_goto (tgt := 62) (kdX12_weigh 23 rfl) (by decide) ?_
          exact g_iret rfl (kdX12_weigh 34 rfl)
      · refine g_ldc (kdX12_weigh 14 rfl) cX12_50 ?_
        exact g_iret rfl (kdX12_weigh 15 rfl)
def JX12_wholeOnes_55 (K16 : Int32 → Int32 → hM → hR) (K63 : Int32 → hM → hR) (v3 : Int32) (v100 : Int32) (v101 : Int32) (m : hM) : hR :=
  lt (v101 + v100) fun x4 =>
  K16 x4 (v3 + 1) m
set_option maxRecDepth 20000 in
theorem BX12_wholeOnes_55 (K16 : Int32 → Int32 → hM → hR) (K63 : Int32 → hM → hR) (h16 : ∀ (v2 : Int32) (v3 : Int32) (m : hM), G mX12_wholeOnes 3 16 [(0, .inr (.inr (40, 0))), (2, .inl v2), (3, .inl v3)] [] m (K16 v2 v3 m)) (h63 : ∀ (v2 : Int32) (m : hM), G mX12_wholeOnes 3 63 [(2, .inl v2)] [] m (K63 v2 m)) (v3 : Int32) (v100 : Int32) (v101 : Int32) (m : hM) : G mX12_wholeOnes 3 55 [(0, .inr (.inr (40, 0))), (3, .inl v3)] [.inl v100, .inl v101] m (JX12_wholeOnes_55 K16 K63 v3 v100 v101 m) := by
  unfold JX12_wholeOnes_55
  refine g_iadd (kdX12_wholeOnes 33 rfl) ?_
  refine g_lt (fun x4 => ?_)
  refine g_istore_n (L2 := [(2, .inl x4), (0, .inr (.inr (40, 0))), (3, .inl v3)]) (kdX12_wholeOnes 34 rfl) rfl (by decide) ?_
  refine g_iinc (v := v3 + 1) (L2 := [(3, .inl (v3 + 1)), (2, .inl x4), (0, .inr (.inr (40, 0)))]) 2 (kdX12_wholeOnes 35 rfl) rfl rfl rfl (by decide) ?_
  refine g_goto (tgt := 16) (kdX12_wholeOnes 36 rfl) (by decide) ?_
  exact g_fgt [2, 1, 0] rfl (h16 x4 (v3 + 1) m)
def JX12_wholeOnes_54 (K16 : Int32 → Int32 → hM → hR) (K63 : Int32 → hM → hR) (v3 : Int32) (v100 : Int32) (m : hM) : hR :=
  JX12_wholeOnes_55 K16 K63 v3 0 v100 m
set_option maxRecDepth 20000 in
theorem BX12_wholeOnes_54 (K16 : Int32 → Int32 → hM → hR) (K63 : Int32 → hM → hR) (h16 : ∀ (v2 : Int32) (v3 : Int32) (m : hM), G mX12_wholeOnes 3 16 [(0, .inr (.inr (40, 0))), (2, .inl v2), (3, .inl v3)] [] m (K16 v2 v3 m)) (h63 : ∀ (v2 : Int32) (m : hM), G mX12_wholeOnes 3 63 [(2, .inl v2)] [] m (K63 v2 m)) (v3 : Int32) (v100 : Int32) (m : hM) : G mX12_wholeOnes 3 54 [(0, .inr (.inr (40, 0))), (3, .inl v3)] [.inl v100] m (JX12_wholeOnes_54 K16 K63 v3 v100 m) := by
  unfold JX12_wholeOnes_54
  refine g_iconst (v := 0) (kdX12_wholeOnes 32 rfl) (by decide) ?_
  exact g_fgt [0, 1] rfl (BX12_wholeOnes_55 _ _ h16 h63 v3 0 v100 m)
def bJX12_wholeOnes_16 (K16 : Int32 → Int32 → hM → hR) (K63 : Int32 → hM → hR) (v2 : Int32) (v3 : Int32) (m : hM) : hR :=
  ald m 50 0 12 fun x3 =>
  if x3 < v3 then (K63 v2 m) else (if (64 * v3) ≤ (m.1 40 0 26) then (JX12_wholeOnes_54 K16 K63 v3 v2 m) else (if (m.1 40 0 25) < (64 * v3) then (JX12_wholeOnes_54 K16 K63 v3 v2 m) else (JX12_wholeOnes_55 K16 K63 v3 1 v2 m)))
set_option maxRecDepth 20000 in
theorem BbJX12_wholeOnes_16 (K16 : Int32 → Int32 → hM → hR) (K63 : Int32 → hM → hR) (h16 : ∀ (v2 : Int32) (v3 : Int32) (m : hM), G mX12_wholeOnes 3 16 [(0, .inr (.inr (40, 0))), (2, .inl v2), (3, .inl v3)] [] m (K16 v2 v3 m)) (h63 : ∀ (v2 : Int32) (m : hM), G mX12_wholeOnes 3 63 [(2, .inl v2)] [] m (K63 v2 m)) (v2 : Int32) (v3 : Int32) (m : hM) : G mX12_wholeOnes 3 16 [(0, .inr (.inr (40, 0))), (2, .inl v2), (3, .inl v3)] [] m (bJX12_wholeOnes_16 K16 K63 v2 v3 m) := by
  unfold bJX12_wholeOnes_16
  refine g_iload_n 2 (kdX12_wholeOnes 11 rfl) rfl ?_
  refine g_aload_n 0 (kdX12_wholeOnes 12 rfl) rfl ?_
  refine g_get (v := .inr (.inr (50, 0))) (kdX12_wholeOnes 13 rfl) fX12_37 rfl ?_
  refine g_bipush (v := 12) (kdX12_wholeOnes 14 rfl) (by decide) ?_
  refine g_iald (kdX12_wholeOnes 15 rfl) (fun x3 => ?_)
  refine g_icmp_gt (tgt := 63) (kdX12_wholeOnes 16 rfl) (by decide) (fun _ => ?_) (fun _ => ?_)
  · exact g_fgt [1] rfl (h63 v2 m)
  · refine g_iload_n 1 (kdX12_wholeOnes 17 rfl) rfl ?_
    refine g_aload_n 0 (kdX12_wholeOnes 18 rfl) rfl ?_
    refine g_get (v := .inl (m.1 40 0 26)) (kdX12_wholeOnes 19 rfl) fX12_298 rfl ?_
    refine g_bipush (v := 64) (kdX12_wholeOnes 20 rfl) (by decide) ?_
    refine g_iload_n 2 (kdX12_wholeOnes 21 rfl) rfl ?_
    refine g_imul (kdX12_wholeOnes 22 rfl) ?_
    refine g_icmp_ge (tgt := 54) (kdX12_wholeOnes 23 rfl) (by decide) (fun _ => ?_) (fun _ => ?_)
    · exact g_fgt [0, 2] rfl (BX12_wholeOnes_54 _ _ h16 h63 v3 v2 m)
    · refine g_bipush (v := 64) (kdX12_wholeOnes 24 rfl) (by decide) ?_
      refine g_iload_n 2 (kdX12_wholeOnes 25 rfl) rfl ?_
      refine g_imul (kdX12_wholeOnes 26 rfl) ?_
      refine g_aload_n 0 (kdX12_wholeOnes 27 rfl) rfl ?_
      refine g_get (v := .inl (m.1 40 0 25)) (kdX12_wholeOnes 28 rfl) fX12_294 rfl ?_
      refine g_icmp_gt (tgt := 54) (kdX12_wholeOnes 29 rfl) (by decide) (fun _ => ?_) (fun _ => ?_)
      · exact g_fgt [0, 2] rfl (BX12_wholeOnes_54 _ _ h16 h63 v3 v2 m)
      · refine g_iconst (v := 1) (kdX12_wholeOnes 30 rfl) (by decide) ?_
        refine g_goto (tgt := 55) (kdX12_wholeOnes 31 rfl) (by decide) ?_
        exact g_fgt [0, 2] rfl (BX12_wholeOnes_55 _ _ h16 h63 v3 1 v2 m)
def JX12_wholeOnes_16 (K63 : Int32 → hM → hR) : Nat → Int32 → Int32 → hM → hR
  | 0, _, _, _ => none
  | f + 1, v2, v3, m => bJX12_wholeOnes_16 (fun v2 v3 m => JX12_wholeOnes_16 K63  f v2 v3 m) K63  v2 v3 m
theorem BJX12_wholeOnes_16 (K63 : Int32 → hM → hR) (h63 : ∀ (v2 : Int32) (m : hM), G mX12_wholeOnes 3 63 [(2, .inl v2)] [] m (K63 v2 m)) : ∀ (f : Nat) (v2 : Int32) (v3 : Int32) (m : hM), G mX12_wholeOnes 3 16 [(0, .inr (.inr (40, 0))), (2, .inl v2), (3, .inl v3)] [] m (JX12_wholeOnes_16 K63  f v2 v3 m)
  | 0, _, _, _ => g_none
  | f + 1, v2, v3, m => BbJX12_wholeOnes_16  _ K63  (fun v2 v3 m => BJX12_wholeOnes_16  K63  h63 f v2 v3 m) h63 v2 v3 m
def JX12_wholeOnes (a1 : Int32) (m : hM) : hR :=
  calV (JX12_layOpening a1 m) fun m1 =>
  ald m1 50 0 12 fun x2 =>
  JX12_wholeOnes_16 (fun v2 m5 => some (some (.inl v2), m5))  FU 0 (-x2) m1
set_option maxRecDepth 20000 in
theorem CX12_wholeOnes (a1 : Int32) (m : hM) : Cn mX12_wholeOnes 3 [.inr (.inr (40, 0)), .inl a1] m (JX12_wholeOnes a1 m) := by
  refine cn_of (by decide +kernel) (by simp only [List.map, vcat, List.sum_cons, List.sum_nil]; decide) ?_
  unfold JX12_wholeOnes
  show G mX12_wholeOnes 3 0 [(0, .inr (.inr (40, 0))), (1, .inl a1)] [] m _
  refine g_aload_n 0 (kdX12_wholeOnes 0 rfl) rfl ?_
  refine g_iload_n 1 (kdX12_wholeOnes 1 rfl) rfl ?_
  refine g_calV (ck_V (As := [.inl a1]) (S := []) (t := 40) (o := 0) (kdX12_wholeOnes 2 rfl) iX12_layOpening lX12_304 rc_40 rfl rfl rfl (by decide) (by simp only [List.map, vcat, List.sum_cons, List.sum_nil]; decide)) (CX12_layOpening a1 m) (fun m1 => ?_)
  refine g_iconst (v := 0) (kdX12_wholeOnes 3 rfl) (by decide) ?_
  refine g_istore_n (L2 := [(2, .inl 0), (0, .inr (.inr (40, 0))), (1, .inl a1)]) (kdX12_wholeOnes 4 rfl) rfl (by decide) ?_
  refine g_aload_n 1 (kdX12_wholeOnes 5 rfl) rfl ?_
  refine g_get (v := .inr (.inr (50, 0))) (kdX12_wholeOnes 6 rfl) fX12_37 rfl ?_
  refine g_bipush (v := 12) (kdX12_wholeOnes 7 rfl) (by decide) ?_
  refine g_iald (kdX12_wholeOnes 8 rfl) (fun x2 => ?_)
  refine g_ineg (kdX12_wholeOnes 9 rfl) ?_
  refine g_istore_n (L2 := [(3, .inl (-x2)), (2, .inl 0), (0, .inr (.inr (40, 0))), (1, .inl a1)]) (kdX12_wholeOnes 10 rfl) rfl (by decide) ?_
  refine g_fgt [2, 1, 0] rfl (BJX12_wholeOnes_16  _  ?_ FU 0 (-x2) m1)
  · intro v2 m5
    refine g_iload_n 0 (kdX12_wholeOnes 37 rfl) rfl ?_
    exact g_iret rfl (kdX12_wholeOnes 38 rfl)
def JX12_map_61 (K28 : Int32 → Int32 → Int32 → Int32 → hM → hR) (K67 : Int32 → Int32 → Int32 → hM → hR) (v1 : Int32) (v2 : Int32) (v3 : Int32) (v4 : Int32) (v5 : Int32) (m : hM) : hR :=
  K28 v2 v3 v4 (v5 + 1) m
set_option maxRecDepth 20000 in
theorem BX12_map_61 (v1 : Int32) (K28 : Int32 → Int32 → Int32 → Int32 → hM → hR) (K67 : Int32 → Int32 → Int32 → hM → hR) (h28 : ∀ (v2 : Int32) (v3 : Int32) (v4 : Int32) (v5 : Int32) (m : hM), G mX12_map 4 28 [(0, .inr (.inr (40, 0))), (1, .inl v1), (2, .inl v2), (3, .inl v3), (4, .inl v4), (5, .inl v5)] [] m (K28 v2 v3 v4 v5 m)) (h67 : ∀ (v2 : Int32) (v3 : Int32) (v4 : Int32) (m : hM), G mX12_map 4 67 [(1, .inl v1), (2, .inl v2), (3, .inl v3), (4, .inl v4)] [] m (K67 v2 v3 v4 m)) (v2 : Int32) (v3 : Int32) (v4 : Int32) (v5 : Int32) (m : hM) : G mX12_map 4 61 [(0, .inr (.inr (40, 0))), (1, .inl v1), (2, .inl v2), (3, .inl v3), (4, .inl v4), (5, .inl v5)] [] m (JX12_map_61 K28 K67 v1 v2 v3 v4 v5 m) := by
  unfold JX12_map_61
  refine g_iinc (v := v5 + 1) (L2 := [(5, .inl (v5 + 1)), (0, .inr (.inr (40, 0))), (1, .inl v1), (2, .inl v2), (3, .inl v3), (4, .inl v4)]) 5 (kdX12_map 36 rfl) rfl rfl rfl (by decide) ?_
  refine g_goto (tgt := 28) (kdX12_map 37 rfl) (by decide) ?_
  exact g_fgt [1, 2, 3, 4, 5, 0] rfl (h28 v2 v3 v4 (v5 + 1) m)
def bJX12_map_28 (K28 : Int32 → Int32 → Int32 → Int32 → hM → hR) (K67 : Int32 → Int32 → Int32 → hM → hR) (v1 : Int32) (v2 : Int32) (v3 : Int32) (v4 : Int32) (v5 : Int32) (m : hM) : hR :=
  if 4 ≤ v5 then (K67 v2 v3 v4 m) else (calI (JX12_wholeOnes v5 m) fun x4 m3 =>
  lt (v2 + x4) fun x5 =>
  if x4 ≤ v4 then (JX12_map_61 K28 K67 v1 x5 v3 v4 v5 m3) else (JX12_map_61 K28 K67 v1 x5 v5 x4 v5 m3))
set_option maxRecDepth 20000 in
theorem BbJX12_map_28 (K28 : Int32 → Int32 → Int32 → Int32 → hM → hR) (K67 : Int32 → Int32 → Int32 → hM → hR) (v1 : Int32) (h28 : ∀ (v2 : Int32) (v3 : Int32) (v4 : Int32) (v5 : Int32) (m : hM), G mX12_map 4 28 [(0, .inr (.inr (40, 0))), (1, .inl v1), (2, .inl v2), (3, .inl v3), (4, .inl v4), (5, .inl v5)] [] m (K28 v2 v3 v4 v5 m)) (h67 : ∀ (v2 : Int32) (v3 : Int32) (v4 : Int32) (m : hM), G mX12_map 4 67 [(1, .inl v1), (2, .inl v2), (3, .inl v3), (4, .inl v4)] [] m (K67 v2 v3 v4 m)) (v2 : Int32) (v3 : Int32) (v4 : Int32) (v5 : Int32) (m : hM) : G mX12_map 4 28 [(0, .inr (.inr (40, 0))), (1, .inl v1), (2, .inl v2), (3, .inl v3), (4, .inl v4), (5, .inl v5)] [] m (bJX12_map_28 K28 K67 v1 v2 v3 v4 v5 m) := by
  unfold bJX12_map_28
  refine g_iload 5 (kdX12_map 18 rfl) rfl ?_
  refine g_iconst (v := 4) (kdX12_map 19 rfl) (by decide) ?_
  refine g_icmp_ge (tgt := 67) (kdX12_map 20 rfl) (by decide) (fun _ => ?_) (fun _ => ?_)
  · exact g_fgt [1, 2, 3, 4] rfl (h67 v2 v3 v4 m)
  · refine g_aload_n 0 (kdX12_map 21 rfl) rfl ?_
    refine g_iload 5 (kdX12_map 22 rfl) rfl ?_
    refine g_calI (ck_V (As := [.inl v5]) (S := []) (t := 40) (o := 0) (kdX12_map 23 rfl) iX12_wholeOnes lX12_371 rc_40 rfl rfl rfl (by decide) (by simp only [List.map, vcat, List.sum_cons, List.sum_nil]; decide)) (CX12_wholeOnes v5 m) (fun x4 m3 => ?_)
    refine g_istore (L2 := [(6, .inl x4), (0, .inr (.inr (40, 0))), (1, .inl v1), (2, .inl v2), (3, .inl v3), (4, .inl v4), (5, .inl v5)]) (kdX12_map 24 rfl) rfl (by decide) ?_
    refine g_iload_n 3 (kdX12_map 25 rfl) rfl ?_
    refine g_iload 0 (kdX12_map 26 rfl) rfl ?_
    refine g_iadd (kdX12_map 27 rfl) ?_
    refine g_lt (fun x5 => ?_)
    refine g_istore_n (L2 := [(2, .inl x5), (6, .inl x4), (0, .inr (.inr (40, 0))), (1, .inl v1), (3, .inl v3), (4, .inl v4), (5, .inl v5)]) (kdX12_map 28 rfl) rfl (by decide) ?_
    refine g_iload 1 (kdX12_map 29 rfl) rfl ?_
    refine g_iload 5 (kdX12_map 30 rfl) rfl ?_
    refine g_icmp_le (tgt := 61) (kdX12_map 31 rfl) (by decide) (fun _ => ?_) (fun _ => ?_)
    · exact g_fgt [2, 3, 0, 4, 5, 6] rfl (BX12_map_61 v1 _ _ h28 h67 x5 v3 v4 v5 m3)
    · refine g_iload 6 (kdX12_map 32 rfl) rfl ?_
      refine g_istore_n (L2 := [(3, .inl v5), (2, .inl x5), (6, .inl x4), (0, .inr (.inr (40, 0))), (1, .inl v1), (4, .inl v4), (5, .inl v5)]) (kdX12_map 33 rfl) rfl (by decide) ?_
      refine g_iload 2 (kdX12_map 34 rfl) rfl ?_
      refine g_istore (L2 := [(4, .inl x4), (3, .inl v5), (2, .inl x5), (6, .inl x4), (0, .inr (.inr (40, 0))), (1, .inl v1), (5, .inl v5)]) (kdX12_map 35 rfl) rfl (by decide) ?_
      exact g_fgt [4, 5, 2, 1, 0, 6] rfl (BX12_map_61 v1 _ _ h28 h67 x5 v5 x4 v5 m3)
def JX12_map_28 (K67 : Int32 → Int32 → Int32 → hM → hR) (v1 : Int32) : Nat → Int32 → Int32 → Int32 → Int32 → hM → hR
  | 0, _, _, _, _, _ => none
  | f + 1, v2, v3, v4, v5, m => bJX12_map_28 (fun v2 v3 v4 v5 m => JX12_map_28 K67 v1 f v2 v3 v4 v5 m) K67 v1 v2 v3 v4 v5 m
theorem BJX12_map_28 (K67 : Int32 → Int32 → Int32 → hM → hR) (v1 : Int32) (h67 : ∀ (v2 : Int32) (v3 : Int32) (v4 : Int32) (m : hM), G mX12_map 4 67 [(1, .inl v1), (2, .inl v2), (3, .inl v3), (4, .inl v4)] [] m (K67 v2 v3 v4 m)) : ∀ (f : Nat) (v2 : Int32) (v3 : Int32) (v4 : Int32) (v5 : Int32) (m : hM), G mX12_map 4 28 [(0, .inr (.inr (40, 0))), (1, .inl v1), (2, .inl v2), (3, .inl v3), (4, .inl v4), (5, .inl v5)] [] m (JX12_map_28 K67 v1 f v2 v3 v4 v5 m)
  | 0, _, _, _, _, _ => g_none
  | f + 1, v2, v3, v4, v5, m => BbJX12_map_28  _ K67 v1 (fun v2 v3 v4 v5 m => BJX12_map_28  K67 v1 h67 f v2 v3 v4 v5 m) h67 v2 v3 v4 v5 m
def JX12_map (a1 : Int32) (m : hM) : hR :=
  if (m.1 40 0 15) = 0 then (some (some (.inl (-1)), m)) else (calI (JX12_in a1 0 2 m) fun x2 m1 =>
  if x2 = 0 then (some (some (.inl (-1)), m1)) else (JX12_map_28 (fun v2 v3 v4 m6 => if a1 = 0 then (some (some (.inl v2), m6)) else (if a1 = 1 then (some (some (.inl v3), m6)) else (some (some (.inl v4), m6)))) a1 FU 0 0 (-1) 0 m1))
set_option maxRecDepth 20000 in
theorem CX12_map (a1 : Int32) (m : hM) : Cn mX12_map 4 [.inr (.inr (40, 0)), .inl a1] m (JX12_map a1 m) := by
  refine cn_of (by decide +kernel) (by simp only [List.map, vcat, List.sum_cons, List.sum_nil]; decide) ?_
  unfold JX12_map
  show G mX12_map 4 0 [(0, .inr (.inr (40, 0))), (1, .inl a1)] [] m _
  refine g_aload_n 0 (kdX12_map 0 rfl) rfl ?_
  refine g_get (v := .inl (m.1 40 0 15)) (kdX12_map 1 rfl) fX12_203 rfl ?_
  refine g_if_eq (tgt := 16) (kdX12_map 2 rfl) (by decide) (fun _ => ?_) (fun _ => ?_)
  · refine g_iconst (v := (-1)) (kdX12_map 8 rfl) (by decide) ?_
    exact g_iret rfl (kdX12_map 9 rfl)
  · refine g_iload_n 1 (kdX12_map 3 rfl) rfl ?_
    refine g_iconst (v := 0) (kdX12_map 4 rfl) (by decide) ?_
    refine g_iconst (v := 2) (kdX12_map 5 rfl) (by decide) ?_
    refine g_calI (ck_S (As := [.inl a1, .inl 0, .inl 2]) (S := []) (kdX12_map 6 rfl) iX12_in lX12_89 rfl rfl rfl (by decide) (by simp only [List.map, vcat, List.sum_cons, List.sum_nil]; decide)) (CX12_in a1 0 2 m) (fun x2 m1 => ?_)
    refine g_if_ne (tgt := 18) (kdX12_map 7 rfl) (by decide) (fun _ => ?_) (fun _ => ?_)
    · refine g_iconst (v := 0) (kdX12_map 10 rfl) (by decide) ?_
      refine g_istore_n (L2 := [(2, .inl 0), (0, .inr (.inr (40, 0))), (1, .inl a1)]) (kdX12_map 11 rfl) rfl (by decide) ?_
      refine g_iconst (v := 0) (kdX12_map 12 rfl) (by decide) ?_
      refine g_istore_n (L2 := [(3, .inl 0), (2, .inl 0), (0, .inr (.inr (40, 0))), (1, .inl a1)]) (kdX12_map 13 rfl) rfl (by decide) ?_
      refine g_iconst (v := (-1)) (kdX12_map 14 rfl) (by decide) ?_
      refine g_istore (L2 := [(4, .inl (-1)), (3, .inl 0), (2, .inl 0), (0, .inr (.inr (40, 0))), (1, .inl a1)]) (kdX12_map 15 rfl) rfl (by decide) ?_
      refine g_iconst (v := 0) (kdX12_map 16 rfl) (by decide) ?_
      refine g_istore (L2 := [(5, .inl 0), (4, .inl (-1)), (3, .inl 0), (2, .inl 0), (0, .inr (.inr (40, 0))), (1, .inl a1)]) (kdX12_map 17 rfl) rfl (by decide) ?_
      refine g_fgt [4, 5, 3, 2, 1, 0] rfl (BJX12_map_28  _ a1 ?_ FU 0 0 (-1) 0 m1)
      · intro v2 v3 v4 m6
        refine g_iload_n 0 (kdX12_map 38 rfl) rfl ?_
        refine g_if_ne (tgt := 75) (kdX12_map 39 rfl) (by decide) (fun _ => ?_) (fun _ => ?_)
        · refine g_iload_n 0 (kdX12_map 42 rfl) rfl ?_
          refine g_iconst (v := 1) (kdX12_map 43 rfl) (by decide) ?_
          refine g_icmp_ne (tgt := 84) (kdX12_map 44 rfl) (by decide) (fun _ => ?_) (fun _ => ?_)
          · refine g_iload 3 (kdX12_map 47 rfl) rfl ?_
            exact g_iret rfl (kdX12_map 48 rfl)
          · refine g_iload_n 2 (kdX12_map 45 rfl) rfl ?_
            refine g_goto (tgt := 86) (kdX12_map 46 rfl) (by decide) ?_
            exact g_iret rfl (kdX12_map 48 rfl)
        · refine g_iload_n 1 (kdX12_map 40 rfl) rfl ?_
          refine g_goto (tgt := 86) (kdX12_map 41 rfl) (by decide) ?_
          exact g_iret rfl (kdX12_map 48 rfl)
    · refine g_iconst (v := (-1)) (kdX12_map 8 rfl) (by decide) ?_
      exact g_iret rfl (kdX12_map 9 rfl)
