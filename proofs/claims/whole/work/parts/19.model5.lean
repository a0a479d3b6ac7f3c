abbrev mX12_bears : hMt := (yX12_bears, cX12_bears, 4, some .int)
def tX12_bears : hTb := [(0, .aload_n 0, 1, 1), (1, .iload_n 1, 1, 2), (2, .invokevirtual 365, 3, 5), (5, .ifCond .ne 6, 3, 8), (8, .ldc 50, 2, 10), (10, .ireturn, 1, 11), (11, .aload_n 0, 1, 12), (12, .iload_n 1, 1, 13), (13, .invokevirtual 304, 3, 16), (16, .iconst 0, 1, 17), (17, .istore_n 2, 1, 18), (18, .iconst 0, 1, 19), (19, .istore_n 3, 1, 20), (20, .iload_n 3, 1, 21), (21, .aload_n 0, 1, 22), (22, .getfield 22, 3, 25), (25, .iconst 1, 1, 26), (26, .iaload, 1, 27), (27, .if_icmp .ge 23, 3, 30), (30, .iload_n 2, 1, 31), (31, .aload_n 0, 1, 32), (32, .getfield 37, 3, 35), (35, .iconst 0, 1, 36), (36, .iload_n 3, 1, 37), (37, .iadd, 1, 38), (38, .iaload, 1, 39), (39, .invokestatic 239, 3, 42), (42, .iadd, 1, 43), (43, .istore_n 2, 1, 44), (44, .iinc 3 1, 3, 47), (47, .goto (-27), 3, 50), (50, .iconst (-1), 1, 51), (51, .istore_n 3, 1, 52), (52, .iload_n 3, 1, 53), (53, .bipush 99, 2, 55), (55, .if_icmp .ge 35, 3, 58), (58, .aload_n 0, 1, 59), (59, .getfield 294, 3, 62), (62, .iload_n 3, 1, 63), (63, .iconst 1, 1, 64), (64, .iadd, 1, 65), (65, .iload_n 2, 1, 66), (66, .imul, 1, 67), (67, .isub, 1, 68), (68, .ifCond .lt 22, 3, 71), (71, .aload_n 0, 1, 72), (72, .getfield 298, 3, 75), (75, .iload_n 3, 1, 76), (76, .iconst 1, 1, 77), (77, .iadd, 1, 78), (78, .iload_n 2, 1, 79), (79, .imul, 1, 80), (80, .iadd, 1, 81), (81, .ifCond .ge 9, 3, 84), (84, .iinc 3 1, 3, 87), (87, .goto (-35), 3, 90), (90, .iload_n 3, 1, 91), (91, .ireturn, 1, 92)]
theorem ktX12_bears : TbOK mX12_bears tX12_bears := by
  unfold TbOK
  decide +kernel
theorem kdX12_bears (k : Nat) {pc : Nat} {i : Instr} {len nx : Nat} (hk : tX12_bears[k]? = some (pc, i, len, nx)) : Dc mX12_bears pc i len nx := dc_of ktX12_bears k hk
theorem iX12_bears : MiV mX12_bears := ⟨⟨gdw_of (i := 1917) (by decide +kernel) (by decide +kernel), gdw_of (i := 124) (by decide +kernel) (by decide +kernel), by decide, by decide, by decide⟩, gdw_of (i := 1915) (by decide +kernel) (by decide +kernel), gdw_of (i := 1916) (by decide +kernel) (by decide +kernel)⟩
abbrev mX12_stateNext : hMt := (yX12_stateNext, cX12_stateNext, 7, some .int)
def tX12_stateNext : hTb := [(0, .iconst 1, 1, 1), (1, .aload_n 0, 1, 2), (2, .getfield 22, 3, 5), (5, .iconst 2, 1, 6), (6, .iaload, 1, 7), (7, .ishl, 1, 8), (8, .iconst 1, 1, 9), (9, .isub, 1, 10), (10, .istore_n 3, 1, 11), (11, .iload_n 1, 1, 12), (12, .bipush 8, 2, 14), (14, .idiv, 1, 15), (15, .iconst 1, 1, 16), (16, .ishl, 1, 17), (17, .iload_n 2, 1, 18), (18, .ior, 1, 19), (19, .bipush 63, 2, 21), (21, .iand, 1, 22), (22, .istore 4, 2, 24), (24, .iload_n 1, 1, 25), (25, .bipush 8, 2, 27), (27, .irem, 1, 28), (28, .istore 5, 2, 30), (30, .aload_n 0, 1, 31), (31, .getfield 70, 3, 34), (34, .bipush 8, 2, 36), (36, .iload 4, 2, 38), (38, .imul, 1, 39), (39, .iload 5, 2, 41), (41, .iadd, 1, 42), (42, .baload, 1, 43), (43, .ifCond .eq 7, 3, 46), (46, .iconst 1, 1, 47), (47, .goto 4, 3, 50), (50, .iconst 0, 1, 51), (51, .istore 6, 2, 53), (53, .bipush 8, 2, 55), (55, .iload 4, 2, 57), (57, .imul, 1, 58), (58, .iload 5, 2, 60), (60, .iconst 1, 1, 61), (61, .ishl, 1, 62), (62, .iload 6, 2, 64), (64, .ior, 1, 65), (65, .iload_n 3, 1, 66), (66, .iand, 1, 67), (67, .iadd, 1, 68), (68, .ireturn, 1, 69)]
theorem ktX12_stateNext : TbOK mX12_stateNext tX12_stateNext := by
  unfold TbOK
  decide +kernel
theorem kdX12_stateNext (k : Nat) {pc : Nat} {i : Instr} {len nx : Nat} (hk : tX12_stateNext[k]? = some (pc, i, len, nx)) : Dc mX12_stateNext pc i len nx := dc_of ktX12_stateNext k hk
theorem iX12_stateNext : MiV mX12_stateNext := ⟨⟨gdw_of (i := 1933) (by decide +kernel) (by decide +kernel), gdw_of (i := 124) (by decide +kernel) (by decide +kernel), by decide, by decide, by decide⟩, gdw_of (i := 1932) (by decide +kernel) (by decide +kernel), gdw_of (i := 105) (by decide +kernel) (by decide +kernel)⟩
abbrev mX12_tryState : hMt := (yX12_tryState, cX12_tryState, 6, some .boolean)
def tX12_tryState : hTb := [(0, .iconst 0, 1, 1), (1, .istore_n 2, 1, 2), (2, .iconst 0, 1, 3), (3, .istore_n 3, 1, 4), (4, .iconst 0, 1, 5), (5, .istore 4, 2, 7), (7, .iload 4, 2, 9), (9, .iconst 2, 1, 10), (10, .if_icmp .ge 93, 3, 13), (13, .aload_n 0, 1, 14), (14, .iload_n 1, 1, 15), (15, .iload 4, 2, 17), (17, .invokevirtual 374, 3, 20), (20, .istore 5, 2, 22), (22, .iload 5, 2, 24), (24, .bipush 8, 2, 26), (26, .irem, 1, 27), (27, .ifCond .eq 15, 3, 30), (30, .aload_n 0, 1, 31), (31, .getfield 66, 3, 34), (34, .iload 5, 2, 36), (36, .baload, 1, 37), (37, .ifCond .ne 5, 3, 40), (40, .iconst 0, 1, 41), (41, .ireturn, 1, 42), (42, .iload_n 2, 1, 43), (43, .iload 5, 2, 45), (45, .bipush 8, 2, 47), (47, .irem, 1, 48), (48, .ifCond .ne 7, 3, 51), (51, .iconst 1, 1, 52), (52, .goto 12, 3, 55), (55, .aload_n 0, 1, 56), (56, .getfield 60, 3, 59), (59, .iload 5, 2, 61), (61, .iaload, 1, 62), (62, .iconst 1, 1, 63), (63, .iadd, 1, 64), (64, .invokestatic 253, 3, 67), (67, .istore_n 2, 1, 68), (68, .iload_n 3, 1, 69), (69, .iload 5, 2, 71), (71, .iconst 1, 1, 72), (72, .iand, 1, 73), (73, .iload 5, 2, 75), (75, .bipush 8, 2, 77), (77, .irem, 1, 78), (78, .ifCond .ne 7, 3, 81), (81, .iconst 0, 1, 82), (82, .goto 10, 3, 85), (85, .aload_n 0, 1, 86), (86, .getfield 63, 3, 89), (89, .iload 5, 2, 91), (91, .iaload, 1, 92), (92, .iadd, 1, 93), (93, .invokestatic 253, 3, 96), (96, .istore_n 3, 1, 97), (97, .iinc 4 1, 3, 100), (100, .goto (-93), 3, 103), (103, .aload_n 0, 1, 104), (104, .getfield 66, 3, 107), (107, .iload_n 1, 1, 108), (108, .iconst 1, 1, 109), (109, .bastore, 1, 110), (110, .aload_n 0, 1, 111), (111, .getfield 60, 3, 114), (114, .iload_n 1, 1, 115), (115, .iload_n 2, 1, 116), (116, .iastore, 1, 117), (117, .aload_n 0, 1, 118), (118, .getfield 63, 3, 121), (121, .iload_n 1, 1, 122), (122, .iload_n 3, 1, 123), (123, .iastore, 1, 124), (124, .iconst 1, 1, 125), (125, .ireturn, 1, 126)]
theorem ktX12_tryState : TbOK mX12_tryState tX12_tryState := by
  unfold TbOK
  decide +kernel
theorem kdX12_tryState (k : Nat) {pc : Nat} {i : Instr} {len nx : Nat} (hk : tX12_tryState[k]? = some (pc, i, len, nx)) : Dc mX12_tryState pc i len nx := dc_of ktX12_tryState k hk
theorem iX12_tryState : MiV mX12_tryState := ⟨⟨gdw_of (i := 1929) (by decide +kernel) (by decide +kernel), gdw_of (i := 124) (by decide +kernel) (by decide +kernel), by decide, by decide, by decide⟩, gdw_of (i := 1928) (by decide +kernel) (by decide +kernel), gdw_of (i := 104) (by decide +kernel) (by decide +kernel)⟩
abbrev mX12_layBursts : hMt := (yX12_layBursts, cX12_layBursts, 4, none)
def tX12_layBursts : hTb := [(0, .iconst 1, 1, 1), (1, .aload_n 0, 1, 2), (2, .getfield 22, 3, 5), (5, .iconst 2, 1, 6), (6, .iaload, 1, 7), (7, .ishl, 1, 8), (8, .istore_n 1, 1, 9), (9, .iconst 0, 1, 10), (10, .istore_n 2, 1, 11), (11, .iload_n 2, 1, 12), (12, .sipush 512, 3, 15), (15, .if_icmp .ge 72, 3, 18), (18, .aload_n 0, 1, 19), (19, .getfield 66, 3, 22), (22, .iload_n 2, 1, 23), (23, .iconst 0, 1, 24), (24, .bastore, 1, 25), (25, .aload_n 0, 1, 26), (26, .iload_n 2, 1, 27), (27, .bipush 8, 2, 29), (29, .idiv, 1, 30), (30, .aload_n 0, 1, 31), (31, .getfield 37, 3, 34), (34, .bipush 14, 2, 36), (36, .iaload, 1, 37), (37, .iload_n 2, 1, 38), (38, .bipush 8, 2, 40), (40, .irem, 1, 41), (41, .invokevirtual 301, 3, 44), (44, .istore_n 3, 1, 45), (45, .aload_n 0, 1, 46), (46, .getfield 70, 3, 49), (49, .iload_n 2, 1, 50), (50, .iload_n 3, 1, 51), (51, .ifCond .lt 7, 3, 54), (54, .iconst 1, 1, 55), (55, .goto 4, 3, 58), (58, .iconst 0, 1, 59), (59, .iload_n 2, 1, 60), (60, .bipush 8, 2, 62), (62, .idiv, 1, 63), (63, .aload_n 0, 1, 64), (64, .getfield 22, 3, 67), (67, .iconst 3, 1, 68), (68, .iaload, 1, 69), (69, .invokestatic 178, 3, 72), (72, .if_icmp .eq 7, 3, 75), (75, .iconst 1, 1, 76), (76, .goto 4, 3, 79), (79, .iconst 0, 1, 80), (80, .bastore, 1, 81), (81, .iinc 2 1, 3, 84), (84, .goto (-73), 3, 87), (87, .iconst 1, 1, 88), (88, .istore_n 2, 1, 89), (89, .iload_n 2, 1, 90), (90, .ifCond .eq 57, 3, 93), (93, .iconst 0, 1, 94), (94, .istore_n 2, 1, 95), (95, .iconst 0, 1, 96), (96, .istore_n 3, 1, 97), (97, .iload_n 3, 1, 98), (98, .sipush 512, 3, 101), (101, .if_icmp .ge 43, 3, 104), (104, .iload_n 3, 1, 105), (105, .bipush 8, 2, 107), (107, .irem, 1, 108), (108, .ifCond .le 30, 3, 111), (111, .iload_n 3, 1, 112), (112, .bipush 8, 2, 114), (114, .irem, 1, 115), (115, .iload_n 1, 1, 116), (116, .if_icmp .ge 22, 3, 119), (119, .aload_n 0, 1, 120), (120, .getfield 66, 3, 123), (123, .iload_n 3, 1, 124), (124, .baload, 1, 125), (125, .ifCond .ne 13, 3, 128), (128, .aload_n 0, 1, 129), (129, .iload_n 3, 1, 130), (130, .invokevirtual 377, 3, 133), (133, .ifCond .eq 5, 3, 136), (136, .iconst 1, 1, 137), (137, .istore_n 2, 1, 138), (138, .iinc 3 1, 3, 141), (141, .goto (-44), 3, 144), (144, .goto (-55), 3, 147), (147, .return_, 1, 148)]
theorem ktX12_layBursts : TbOK mX12_layBursts tX12_layBursts := by
  unfold TbOK
  decide +kernel
theorem kdX12_layBursts (k : Nat) {pc : Nat} {i : Instr} {len nx : Nat} (hk : tX12_layBursts[k]? = some (pc, i, len, nx)) : Dc mX12_layBursts pc i len nx := dc_of ktX12_layBursts k hk
theorem iX12_layBursts : MiV mX12_layBursts := ⟨⟨gdw_of (i := 1925) (by decide +kernel) (by decide +kernel), gdw_of (i := 124) (by decide +kernel) (by decide +kernel), by decide, by decide, by decide⟩, gdw_of (i := 1924) (by decide +kernel) (by decide +kernel), gdw_of (i := 103) (by decide +kernel) (by decide +kernel)⟩
abbrev mX12_burstOf : hMt := (yX12_burstOf, cX12_burstOf, 4, some .int)
def tX12_burstOf : hTb := [(0, .aload_n 0, 1, 1), (1, .getfield 22, 3, 4), (4, .iconst 2, 1, 5), (5, .iaload, 1, 6), (6, .ifCond .ne 5, 3, 9), (9, .iload_n 2, 1, 10), (10, .ireturn, 1, 11), (11, .bipush 8, 2, 13), (13, .iload_n 1, 1, 14), (14, .imul, 1, 15), (15, .iconst 1, 1, 16), (16, .iadd, 1, 17), (17, .istore_n 3, 1, 18), (18, .aload_n 0, 1, 19), (19, .getfield 66, 3, 22), (22, .iload_n 3, 1, 23), (23, .baload, 1, 24), (24, .ifCond .ne 7, 3, 27), (27, .iconst (-1), 1, 28), (28, .goto 24, 3, 31), (31, .iload_n 2, 1, 32), (32, .ifCond .ne 12, 3, 35), (35, .aload_n 0, 1, 36), (36, .getfield 60, 3, 39), (39, .iload_n 3, 1, 40), (40, .iaload, 1, 41), (41, .goto 11, 3, 44), (44, .iconst 1, 1, 45), (45, .aload_n 0, 1, 46), (46, .getfield 63, 3, 49), (49, .iload_n 3, 1, 50), (50, .iaload, 1, 51), (51, .iadd, 1, 52), (52, .ireturn, 1, 53)]
theorem ktX12_burstOf : TbOK mX12_burstOf tX12_burstOf := by
  unfold TbOK
  decide +kernel
theorem kdX12_burstOf (k : Nat) {pc : Nat} {i : Instr} {len nx : Nat} (hk : tX12_burstOf[k]? = some (pc, i, len, nx)) : Dc mX12_burstOf pc i len nx := dc_of ktX12_burstOf k hk
theorem iX12_burstOf : MiV mX12_burstOf := ⟨⟨gdw_of (i := 1937) (by decide +kernel) (by decide +kernel), gdw_of (i := 124) (by decide +kernel) (by decide +kernel), by decide, by decide, by decide⟩, gdw_of (i := 1936) (by decide +kernel) (by decide +kernel), gdw_of (i := 106) (by decide +kernel) (by decide +kernel)⟩
abbrev mX12_burst : hMt := (yX12_burst, cX12_burst, 4, some .int)
def tX12_burst : hTb := [(0, .aload_n 0, 1, 1), (1, .getfield 203, 3, 4), (4, .ifCond .eq 22, 3, 7), (7, .iload_n 1, 1, 8), (8, .iconst 0, 1, 9), (9, .bipush 63, 2, 11), (11, .invokestatic 89, 3, 14), (14, .ifCond .eq 12, 3, 17), (17, .iload_n 2, 1, 18), (18, .iconst 0, 1, 19), (19, .iconst 1, 1, 20), (20, .invokestatic 89, 3, 23), (23, .ifCond .ne 5, 3, 26), (26, .iconst (-1), 1, 27), (27, .ireturn, 1, 28), (28, .aload_n 0, 1, 29), (29, .invokevirtual 380, 3, 32), (32, .aload_n 0, 1, 33), (33, .iload_n 1, 1, 34), (34, .iload_n 2, 1, 35), (35, .invokevirtual 383, 3, 38), (38, .istore_n 3, 1, 39), (39, .iload_n 3, 1, 40), (40, .iconst (-1), 1, 41), (41, .if_icmp .ne 8, 3, 44), (44, .ldc 50, 2, 46), (46, .goto 4, 3, 49), (49, .iload_n 3, 1, 50), (50, .ireturn, 1, 51)]
theorem ktX12_burst : TbOK mX12_burst tX12_burst := by
  unfold TbOK
  decide +kernel
theorem kdX12_burst (k : Nat) {pc : Nat} {i : Instr} {len nx : Nat} (hk : tX12_burst[k]? = some (pc, i, len, nx)) : Dc mX12_burst pc i len nx := dc_of ktX12_burst k hk
theorem iX12_burst : MiV mX12_burst := ⟨⟨gdw_of (i := 1921) (by decide +kernel) (by decide +kernel), gdw_of (i := 124) (by decide +kernel) (by decide +kernel), by decide, by decide, by decide⟩, gdw_of (i := 1919) (by decide +kernel) (by decide +kernel), gdw_of (i := 1920) (by decide +kernel) (by decide +kernel)⟩
abbrev mX12_bursts : hMt := (yX12_bursts, cX12_bursts, 5, some .int)
def tX12_bursts : hTb := [(0, .aload_n 0, 1, 1), (1, .getfield 203, 3, 4), (4, .ifCond .ne 5, 3, 7), (7, .iconst (-1), 1, 8), (8, .ireturn, 1, 9), (9, .aload_n 0, 1, 10), (10, .invokevirtual 380, 3, 13), (13, .iconst 0, 1, 14), (14, .istore_n 1, 1, 15), (15, .iconst 1, 1, 16), (16, .istore_n 2, 1, 17), (17, .iload_n 2, 1, 18), (18, .bipush 64, 2, 20), (20, .if_icmp .ge 47, 3, 23), (23, .aload_n 0, 1, 24), (24, .iload_n 2, 1, 25), (25, .iconst 0, 1, 26), (26, .invokevirtual 383, 3, 29), (29, .istore_n 3, 1, 30), (30, .aload_n 0, 1, 31), (31, .iload_n 1, 1, 32), (32, .iconst 0, 1, 33), (33, .invokevirtual 383, 3, 36), (36, .istore 4, 2, 38), (38, .iload 4, 2, 40), (40, .iconst (-1), 1, 41), (41, .if_icmp .eq 18, 3, 44), (44, .iload_n 3, 1, 45), (45, .iconst (-1), 1, 46), (46, .if_icmp .eq 9, 3, 49), (49, .iload_n 3, 1, 50), (50, .iload 4, 2, 52), (52, .if_icmp .le 7, 3, 55), (55, .iload_n 2, 1, 56), (56, .goto 4, 3, 59), (59, .iload_n 1, 1, 60), (60, .istore_n 1, 1, 61), (61, .iinc 2 1, 3, 64), (64, .goto (-47), 3, 67), (67, .iload_n 1, 1, 68), (68, .ireturn, 1, 69)]
theorem ktX12_bursts : TbOK mX12_bursts tX12_bursts := by
  unfold TbOK
  decide +kernel
theorem kdX12_bursts (k : Nat) {pc : Nat} {i : Instr} {len nx : Nat} (hk : tX12_bursts[k]? = some (pc, i, len, nx)) : Dc mX12_bursts pc i len nx := dc_of ktX12_bursts k hk
theorem iX12_bursts : MiV mX12_bursts := ⟨⟨gdw_of (i := 1941) (by decide +kernel) (by decide +kernel), gdw_of (i := 124) (by decide +kernel) (by decide +kernel), by decide, by decide, by decide⟩, gdw_of (i := 1939) (by decide +kernel) (by decide +kernel), gdw_of (i := 1940) (by decide +kernel) (by decide +kernel)⟩
abbrev mX12_unrolled : hMt := (yX12_unrolled, cX12_unrolled, 4, some .int)
def tX12_unrolled : hTb := [(0, .aload_n 0, 1, 1), (1, .getfield 203, 3, 4), (4, .ifCond .eq 31, 3, 7), (7, .aload_n 0, 1, 8), (8, .getfield 37, 3, 11), (11, .bipush 18, 2, 13), (13, .iaload, 1, 14), (14, .ifCond .eq 21, 3, 17), (17, .iload_n 1, 1, 18), (18, .iconst 0, 1, 19), (19, .iconst 1, 1, 20), (20, .aload_n 0, 1, 21), (21, .getfield 22, 3, 24), (24, .iconst 2, 1, 25), (25, .iaload, 1, 26), (26, .ishl, 1, 27), (27, .iconst 1, 1, 28), (28, .isub, 1, 29), (29, .invokestatic 89, 3, 32), (32, .ifCond .ne 6, 3, 35), (35, .ldc 50, 2, 37), (37, .ireturn, 1, 38), (38, .aload_n 0, 1, 39), (39, .getfield 37, 3, 42), (42, .bipush 45, 2, 44), (44, .iaload, 1, 45), (45, .istore_n 2, 1, 46), (46, .iconst 0, 1, 47), (47, .istore_n 3, 1, 48), (48, .iload_n 3, 1, 49), (49, .aload_n 0, 1, 50), (50, .getfield 22, 3, 53), (53, .iconst 2, 1, 54), (54, .iaload, 1, 55), (55, .if_icmp .ge 45, 3, 58), (58, .iload_n 2, 1, 59), (59, .bipush 64, 2, 61), (61, .iload_n 1, 1, 62), (62, .iload_n 3, 1, 63), (63, .invokestatic 178, 3, 66), (66, .ifCond .eq 15, 3, 69), (69, .aload_n 0, 1, 70), (70, .getfield 37, 3, 73), (73, .bipush 46, 2, 75), (75, .iload_n 3, 1, 76), (76, .iadd, 1, 77), (77, .iaload, 1, 78), (78, .goto 13, 3, 81), (81, .aload_n 0, 1, 82), (82, .getfield 37, 3, 85), (85, .bipush 46, 2, 87), (87, .iload_n 3, 1, 88), (88, .iadd, 1, 89), (89, .iaload, 1, 90), (90, .ineg, 1, 91), (91, .imul, 1, 92), (92, .isub, 1, 93), (93, .istore_n 2, 1, 94), (94, .iinc 3 1, 3, 97), (97, .goto (-49), 3, 100), (100, .iload_n 2, 1, 101), (101, .ireturn, 1, 102)]
theorem ktX12_unrolled : TbOK mX12_unrolled tX12_unrolled := by
  unfold TbOK
  decide +kernel
theorem kdX12_unrolled (k : Nat) {pc : Nat} {i : Instr} {len nx : Nat} (hk : tX12_unrolled[k]? = some (pc, i, len, nx)) : Dc mX12_unrolled pc i len nx := dc_of ktX12_unrolled k hk
theorem iX12_unrolled : MiV mX12_unrolled := ⟨⟨gdw_of (i := 1945) (by decide +kernel) (by decide +kernel), gdw_of (i := 124) (by decide +kernel) (by decide +kernel), by decide, by decide, by decide⟩, gdw_of (i := 1943) (by decide +kernel) (by decide +kernel), gdw_of (i := 1944) (by decide +kernel) (by decide +kernel)⟩
abbrev mX12_improved : hMt := (yX12_improved, cX12_improved, 8, some .int)
def tX12_improved : hTb := [(0, .aload_n 0, 1, 1), (1, .iload_n 1, 1, 2), (2, .invokevirtual 325, 3, 5), (5, .ifCond .eq 12, 3, 8), (8, .iload_n 2, 1, 9), (9, .iconst 0, 1, 10), (10, .iconst 1, 1, 11), (11, .invokestatic 89, 3, 14), (14, .ifCond .ne 6, 3, 17), (17, .ldc 50, 2, 19), (19, .ireturn, 1, 20), (20, .aload_n 0, 1, 21), (21, .getfield 37, 3, 24), (24, .iconst 0, 1, 25), (25, .iload_n 1, 1, 26), (26, .iadd, 1, 27), (27, .iaload, 1, 28), (28, .istore_n 3, 1, 29), (29, .iconst 0, 1, 30), (30, .istore 4, 2, 32), (32, .ldc_w 297, 3, 35), (35, .istore 5, 2, 37), (37, .sipush (-255), 3, 40), (40, .iload_n 3, 1, 41), (41, .bipush 31, 2, 43), (43, .isub, 1, 44), (44, .invokestatic 253, 3, 47), (47, .istore 6, 2, 49), (49, .iload 6, 2, 51), (51, .sipush 255, 3, 54), (54, .iload_n 3, 1, 55), (55, .bipush 31, 2, 57), (57, .iadd, 1, 58), (58, .invokestatic 234, 3, 61), (61, .if_icmp .gt 47, 3, 64), (64, .aload_n 0, 1, 65), (65, .getfield 37, 3, 68), (68, .iconst 0, 1, 69), (69, .iload_n 1, 1, 70), (70, .iadd, 1, 71), (71, .iload 6, 2, 73), (73, .iastore, 1, 74), (74, .aload_n 0, 1, 75), (75, .aload_n 0, 1, 76), (76, .getfield 37, 3, 79), (79, .bipush 14, 2, 81), (81, .iaload, 1, 82), (82, .invokevirtual 307, 3, 85), (85, .istore 7, 2, 87), (87, .iload 7, 2, 89), (89, .iload 5, 2, 91), (91, .if_icmp .le 11, 3, 94), (94, .iload 6, 2, 96), (96, .istore 4, 2, 98), (98, .iload 7, 2, 100), (100, .istore 5, 2, 102), (102, .iinc 6 1, 3, 105), (105, .goto (-56), 3, 108), (108, .aload_n 0, 1, 109), (109, .getfield 37, 3, 112), (112, .iconst 0, 1, 113), (113, .iload_n 1, 1, 114), (114, .iadd, 1, 115), (115, .iload_n 3, 1, 116), (116, .iastore, 1, 117), (117, .iload_n 2, 1, 118), (118, .ifCond .ne 8, 3, 121), (121, .iload 4, 2, 123), (123, .goto 5, 3, 126), (126, .iload 5, 2, 128), (128, .ireturn, 1, 129)]
theorem ktX12_improved : TbOK mX12_improved tX12_improved := by
  unfold TbOK
  decide +kernel
theorem kdX12_improved (k : Nat) {pc : Nat} {i : Instr} {len nx : Nat} (hk : tX12_improved[k]? = some (pc, i, len, nx)) : Dc mX12_improved pc i len nx := dc_of ktX12_improved k hk
theorem iX12_improved : MiV mX12_improved := ⟨⟨gdw_of (i := 1949) (by decide +kernel) (by decide +kernel), gdw_of (i := 124) (by decide +kernel) (by decide +kernel), by decide, by decide, by decide⟩, gdw_of (i := 1947) (by decide +kernel) (by decide +kernel), gdw_of (i := 1948) (by decide +kernel) (by decide +kernel)⟩
abbrev mX12_isKeeping : hMt := (yX12_isKeeping, cX12_isKeeping, 6, some .boolean)
def tX12_isKeeping : hTb := [(0, .iconst 1, 1, 1), (1, .istore_n 3, 1, 2), (2, .iload_n 1, 1, 3), (3, .iconst 1, 1, 4), (4, .iadd, 1, 5), (5, .istore 4, 2, 7), (7, .iload 4, 2, 9), (9, .iload_n 1, 1, 10), (10, .bipush 32, 2, 12), (12, .iadd, 1, 13), (13, .if_icmp .gt 70, 3, 16), (16, .iconst 0, 1, 17), (17, .istore 5, 2, 19), (19, .iload 5, 2, 21), (21, .aload_n 0, 1, 22), (22, .invokevirtual 213, 3, 25), (25, .if_icmp .ge 52, 3, 28), (28, .iload_n 3, 1, 29), (29, .ifCond .eq 40, 3, 32), (32, .aload_n 0, 1, 33), (33, .getfield 73, 3, 36), (36, .bipush 6, 2, 38), (38, .iload 4, 2, 40), (40, .imul, 1, 41), (41, .iload 5, 2, 43), (43, .iadd, 1, 44), (44, .iaload, 1, 45), (45, .aload_n 0, 1, 46), (46, .getfield 73, 3, 49), (49, .bipush 6, 2, 51), (51, .iload_n 1, 1, 52), (52, .imul, 1, 53), (53, .iload 5, 2, 55), (55, .iadd, 1, 56), (56, .iaload, 1, 57), (57, .isub, 1, 58), (58, .invokestatic 239, 3, 61), (61, .iload_n 2, 1, 62), (62, .if_icmp .gt 7, 3, 65), (65, .iconst 1, 1, 66), (66, .goto 4, 3, 69), (69, .iconst 0, 1, 70), (70, .istore_n 3, 1, 71), (71, .iinc 5 1, 3, 74), (74, .goto (-55), 3, 77), (77, .iinc 4 1, 3, 80), (80, .goto (-73), 3, 83), (83, .iload_n 3, 1, 84), (84, .ireturn, 1, 85)]
theorem ktX12_isKeeping : TbOK mX12_isKeeping tX12_isKeeping := by
  unfold TbOK
  decide +kernel
theorem kdX12_isKeeping (k : Nat) {pc : Nat} {i : Instr} {len nx : Nat} (hk : tX12_isKeeping[k]? = some (pc, i, len, nx)) : Dc mX12_isKeeping pc i len nx := dc_of ktX12_isKeeping k hk
theorem iX12_isKeeping : MiV mX12_isKeeping := ⟨⟨gdw_of (i := 1961) (by decide +kernel) (by decide +kernel), gdw_of (i := 124) (by decide +kernel) (by decide +kernel), by decide, by decide, by decide⟩, gdw_of (i := 1960) (by decide +kernel) (by decide +kernel), gdw_of (i := 108) (by decide +kernel) (by decide +kernel)⟩
abbrev mX12_settledBy : hMt := (yX12_settledBy, cX12_settledBy, 4, some .int)
def tX12_settledBy : hTb := [(0, .aload_n 0, 1, 1), (1, .iconst 0, 1, 2), (2, .invokevirtual 355, 3, 5), (5, .iconst 0, 1, 6), (6, .istore_n 2, 1, 7), (7, .iload_n 2, 1, 8), (8, .sipush 233, 3, 11), (11, .if_icmp .ge 49, 3, 14), (14, .iconst 0, 1, 15), (15, .istore_n 3, 1, 16), (16, .iload_n 3, 1, 17), (17, .aload_n 0, 1, 18), (18, .invokevirtual 213, 3, 21), (21, .if_icmp .ge 28, 3, 24), (24, .aload_n 0, 1, 25), (25, .getfield 73, 3, 28), (28, .bipush 6, 2, 30), (30, .iload_n 2, 1, 31), (31, .imul, 1, 32), (32, .iload_n 3, 1, 33), (33, .iadd, 1, 34), (34, .aload_n 0, 1, 35), (35, .getfield 37, 3, 38), (38, .iconst 0, 1, 39), (39, .iload_n 3, 1, 40), (40, .iadd, 1, 41), (41, .iaload, 1, 42), (42, .iastore, 1, 43), (43, .iinc 3 1, 3, 46), (46, .goto (-30), 3, 49), (49, .aload_n 0, 1, 50), (50, .invokevirtual 287, 3, 53), (53, .pop, 1, 54), (54, .iinc 2 1, 3, 57), (57, .goto (-50), 3, 60), (60, .aload_n 0, 1, 61), (61, .iconst 0, 1, 62), (62, .invokevirtual 362, 3, 65), (65, .iconst 0, 1, 66), (66, .istore_n 2, 1, 67), (67, .iload_n 2, 1, 68), (68, .sipush 200, 3, 71), (71, .if_icmp .gt 20, 3, 74), (74, .aload_n 0, 1, 75), (75, .iload_n 2, 1, 76), (76, .iload_n 1, 1, 77), (77, .invokevirtual 386, 3, 80), (80, .ifCond .eq 5, 3, 83), (83, .iload_n 2, 1, 84), (84, .ireturn, 1, 85), (85, .iinc 2 1, 3, 88), (88, .goto (-21), 3, 91), (91, .iconst (-1), 1, 92), (92, .ireturn, 1, 93)]
theorem ktX12_settledBy : TbOK mX12_settledBy tX12_settledBy := by
  unfold TbOK
  decide +kernel
theorem kdX12_settledBy (k : Nat) {pc : Nat} {i : Instr} {len nx : Nat} (hk : tX12_settledBy[k]? = some (pc, i, len, nx)) : Dc mX12_settledBy pc i len nx := dc_of ktX12_settledBy k hk
theorem iX12_settledBy : MiV mX12_settledBy := ⟨⟨gdw_of (i := 1957) (by decide +kernel) (by decide +kernel), gdw_of (i := 124) (by decide +kernel) (by decide +kernel), by decide, by decide, by decide⟩, gdw_of (i := 1956) (by decide +kernel) (by decide +kernel), gdw_of (i := 107) (by decide +kernel) (by decide +kernel)⟩
abbrev mX12_settled : hMt := (yX12_settled, cX12_settled, 2, some .int)
def tX12_settled : hTb := [(0, .aload_n 0, 1, 1), (1, .getfield 203, 3, 4), (4, .ifCond .eq 21, 3, 7), (7, .iload_n 1, 1, 8), (8, .iconst 0, 1, 9), (9, .bipush 20, 2, 11), (11, .invokestatic 89, 3, 14), (14, .ifCond .eq 11, 3, 17), (17, .aload_n 0, 1, 18), (18, .iload_n 1, 1, 19), (19, .invokevirtual 389, 3, 22), (22, .goto 4, 3, 25), (25, .iconst (-1), 1, 26), (26, .ireturn, 1, 27)]
theorem ktX12_settled : TbOK mX12_settled tX12_settled := by
  unfold TbOK
  decide +kernel
theorem kdX12_settled (k : Nat) {pc : Nat} {i : Instr} {len nx : Nat} (hk : tX12_settled[k]? = some (pc, i, len, nx)) : Dc mX12_settled pc i len nx := dc_of ktX12_settled k hk
theorem iX12_settled : MiV mX12_settled := ⟨⟨gdw_of (i := 1953) (by decide +kernel) (by decide +kernel), gdw_of (i := 124) (by decide +kernel) (by decide +kernel), by decide, by decide, by decide⟩, gdw_of (i := 1951) (by decide +kernel) (by decide +kernel), gdw_of (i := 1952) (by decide +kernel) (by decide +kernel)⟩
abbrev mX12_quickest : hMt := (yX12_quickest, cX12_quickest, 6, some .int)
def tX12_quickest : hTb := [(0, .aload_n 0, 1, 1), (1, .getfield 203, 3, 4), (4, .ifCond .eq 13, 3, 7), (7, .iload_n 1, 1, 8), (8, .iconst 0, 1, 9), (9, .bipush 20, 2, 11), (11, .invokestatic 89, 3, 14), (14, .ifCond .ne 5, 3, 17), (17, .iconst (-1), 1, 18), (18, .ireturn, 1, 19), (19, .iconst (-1), 1, 20), (20, .istore_n 2, 1, 21), (21, .iconst 0, 1, 22), (22, .istore_n 3, 1, 23), (23, .iconst 1, 1, 24), (24, .istore 4, 2, 26), (26, .iload 4, 2, 28), (28, .bipush 10, 2, 30), (30, .if_icmp .ge 45, 3, 33), (33, .aload_n 0, 1, 34), (34, .iload 4, 2, 36), (36, .putfield 47, 3, 39), (39, .aload_n 0, 1, 40), (40, .iload_n 1, 1, 41), (41, .invokevirtual 389, 3, 44), (44, .istore 5, 2, 46), (46, .iload 5, 2, 48), (48, .iconst (-1), 1, 49), (49, .if_icmp .eq 20, 3, 52), (52, .iload_n 2, 1, 53), (53, .iconst (-1), 1, 54), (54, .if_icmp .eq 9, 3, 57), (57, .iload 5, 2, 59), (59, .iload_n 3, 1, 60), (60, .if_icmp .ge 9, 3, 63), (63, .iload 4, 2, 65), (65, .istore_n 2, 1, 66), (66, .iload 5, 2, 68), (68, .istore_n 3, 1, 69), (69, .iinc 4 1, 3, 72), (72, .goto (-46), 3, 75), (75, .aload_n 0, 1, 76), (76, .aload_n 0, 1, 77), (77, .getfield 22, 3, 80), (80, .iconst 5, 1, 81), (81, .iaload, 1, 82), (82, .putfield 47, 3, 85), (85, .iload_n 2, 1, 86), (86, .ireturn, 1, 87)]
theorem ktX12_quickest : TbOK mX12_quickest tX12_quickest := by
  unfold TbOK
  decide +kernel
theorem kdX12_quickest (k : Nat) {pc : Nat} {i : Instr} {len nx : Nat} (hk : tX12_quickest[k]? = some (pc, i, len, nx)) : Dc mX12_quickest pc i len nx := dc_of ktX12_quickest k hk
theorem iX12_quickest : MiV mX12_quickest := ⟨⟨gdw_of (i := 1965) (by decide +kernel) (by decide +kernel), gdw_of (i := 124) (by decide +kernel) (by decide +kernel), by decide, by decide, by decide⟩, gdw_of (i := 1963) (by decide +kernel) (by decide +kernel), gdw_of (i := 1964) (by decide +kernel) (by decide +kernel)⟩
abbrev mX12_coming : hMt := (yX12_coming, cX12_coming, 5, some .int)
def tX12_coming : hTb := [(0, .aload_n 0, 1, 1), (1, .getfield 203, 3, 4), (4, .ifCond .eq 37, 3, 7), (7, .iload_n 1, 1, 8), (8, .iconst 0, 1, 9), (9, .bipush 60, 2, 11), (11, .invokestatic 89, 3, 14), (14, .ifCond .eq 27, 3, 17), (17, .iload_n 2, 1, 18), (18, .iconst 0, 1, 19), (19, .bipush 12, 2, 21), (21, .invokestatic 89, 3, 24), (24, .ifCond .eq 17, 3, 27), (27, .iload_n 2, 1, 28), (28, .bipush 6, 2, 30), (30, .if_icmp .ge 14, 3, 33), (33, .aload_n 0, 1, 34), (34, .iload_n 2, 1, 35), (35, .invokevirtual 325, 3, 38), (38, .ifCond .ne 6, 3, 41), (41, .ldc 50, 2, 43), (43, .ireturn, 1, 44), (44, .aload_n 0, 1, 45), (45, .iconst 0, 1, 46), (46, .invokevirtual 355, 3, 49), (49, .aload_n 0, 1, 50), (50, .iload_n 1, 1, 51), (51, .invokevirtual 319, 3, 54), (54, .istore_n 3, 1, 55), (55, .iload_n 2, 1, 56), (56, .bipush 6, 2, 58), (58, .if_icmp .ge 14, 3, 61), (61, .aload_n 0, 1, 62), (62, .getfield 37, 3, 65), (65, .iconst 0, 1, 66), (66, .iload_n 2, 1, 67), (67, .iadd, 1, 68), (68, .iaload, 1, 69), (69, .goto 103, 3, 72), (72, .iload_n 2, 1, 73), (73, .bipush 6, 2, 75), (75, .if_icmp .ne 7, 3, 78), (78, .iload_n 3, 1, 79), (79, .goto 93, 3, 82), (82, .iload_n 2, 1, 83), (83, .bipush 7, 2, 85), (85, .if_icmp .ne 16, 3, 88), (88, .aload_n 0, 1, 89), (89, .getfield 37, 3, 92), (92, .bipush 44, 2, 94), (94, .iaload, 1, 95), (95, .invokestatic 239, 3, 98), (98, .goto 74, 3, 101), (101, .iload_n 2, 1, 102), (102, .bipush 8, 2, 104), (104, .if_icmp .ne 13, 3, 107), (107, .aload_n 0, 1, 108), (108, .getfield 37, 3, 111), (111, .bipush 18, 2, 113), (113, .iaload, 1, 114), (114, .goto 58, 3, 117), (117, .iload_n 2, 1, 118), (118, .bipush 9, 2, 120), (120, .if_icmp .ne 13, 3, 123), (123, .aload_n 0, 1, 124), (124, .getfield 37, 3, 127), (127, .bipush 27, 2, 129), (129, .iaload, 1, 130), (130, .goto 42, 3, 133), (133, .iload_n 2, 1, 134), (134, .bipush 10, 2, 136), (136, .if_icmp .ne 13, 3, 139), (139, .aload_n 0, 1, 140), (140, .getfield 37, 3, 143), (143, .bipush 17, 2, 145), (145, .iaload, 1, 146), (146, .goto 26, 3, 149), (149, .iload_n 2, 1, 150), (150, .bipush 11, 2, 152), (152, .if_icmp .ne 13, 3, 155), (155, .aload_n 0, 1, 156), (156, .getfield 37, 3, 159), (159, .bipush 14, 2, 161), (161, .iaload, 1, 162), (162, .goto 10, 3, 165), (165, .aload_n 0, 1, 166), (166, .getfield 37, 3, 169), (169, .bipush 12, 2, 171), (171, .iaload, 1, 172), (172, .istore 4, 2, 174), (174, .aload_n 0, 1, 175), (175, .iconst 0, 1, 176), (176, .invokevirtual 362, 3, 179), (179, .iload 4, 2, 181), (181, .ireturn, 1, 182)]
theorem ktX12_coming : TbOK mX12_coming tX12_coming := by
  unfold TbOK
  decide +kernel
theorem kdX12_coming (k : Nat) {pc : Nat} {i : Instr} {len nx : Nat} (hk : tX12_coming[k]? = some (pc, i, len, nx)) : Dc mX12_coming pc i len nx := dc_of ktX12_coming k hk
theorem iX12_coming : MiV mX12_coming := ⟨⟨gdw_of (i := 1969) (by decide +kernel) (by decide +kernel), gdw_of (i := 124) (by decide +kernel) (by decide +kernel), by decide, by decide, by decide⟩, gdw_of (i := 1967) (by decide +kernel) (by decide +kernel), gdw_of (i := 1968) (by decide +kernel) (by decide +kernel)⟩
abbrev mX12_wrongIn : hMt := (yX12_wrongIn, cX12_wrongIn, 4, some .int)
def tX12_wrongIn : hTb := [(0, .aload_n 0, 1, 1), (1, .iconst 0, 1, 2), (2, .invokevirtual 355, 3, 5), (5, .aload_n 0, 1, 6), (6, .getfield 37, 3, 9), (9, .bipush 16, 2, 11), (11, .iload_n 2, 1, 12), (12, .iastore, 1, 13), (13, .aload_n 0, 1, 14), (14, .iload_n 1, 1, 15), (15, .invokevirtual 319, 3, 18), (18, .istore_n 3, 1, 19), (19, .aload_n 0, 1, 20), (20, .iconst 0, 1, 21), (21, .invokevirtual 362, 3, 24), (24, .iload_n 3, 1, 25), (25, .ireturn, 1, 26)]
theorem ktX12_wrongIn : TbOK mX12_wrongIn tX12_wrongIn := by
  unfold TbOK
  decide +kernel
theorem kdX12_wrongIn (k : Nat) {pc : Nat} {i : Instr} {len nx : Nat} (hk : tX12_wrongIn[k]? = some (pc, i, len, nx)) : Dc mX12_wrongIn pc i len nx := dc_of ktX12_wrongIn k hk
theorem iX12_wrongIn : MiV mX12_wrongIn := ⟨⟨gdw_of (i := 1977) (by decide +kernel) (by decide +kernel), gdw_of (i := 124) (by decide +kernel) (by decide +kernel), by decide, by decide, by decide⟩, gdw_of (i := 1976) (by decide +kernel) (by decide +kernel), gdw_of (i := 109) (by decide +kernel) (by decide +kernel)⟩
abbrev mX12_gain : hMt := (yX12_gain, cX12_gain, 2, some .int)
def tX12_gain : hTb := [(0, .aload_n 0, 1, 1), (1, .getfield 203, 3, 4), (4, .ifCond .eq 29, 3, 7), (7, .iload_n 1, 1, 8), (8, .iconst 1, 1, 9), (9, .bipush 60, 2, 11), (11, .invokestatic 89, 3, 14), (14, .ifCond .eq 19, 3, 17), (17, .aload_n 0, 1, 18), (18, .iload_n 1, 1, 19), (19, .iconst 1, 1, 20), (20, .invokevirtual 392, 3, 23), (23, .aload_n 0, 1, 24), (24, .iload_n 1, 1, 25), (25, .iconst 0, 1, 26), (26, .invokevirtual 392, 3, 29), (29, .isub, 1, 30), (30, .goto 5, 3, 33), (33, .ldc 50, 2, 35), (35, .ireturn, 1, 36)]
theorem ktX12_gain : TbOK mX12_gain tX12_gain := by
  unfold TbOK
  decide +kernel
theorem kdX12_gain (k : Nat) {pc : Nat} {i : Instr} {len nx : Nat} (hk : tX12_gain[k]? = some (pc, i, len, nx)) : Dc mX12_gain pc i len nx := dc_of ktX12_gain k hk
theorem iX12_gain : MiV mX12_gain := ⟨⟨gdw_of (i := 1973) (by decide +kernel) (by decide +kernel), gdw_of (i := 124) (by decide +kernel) (by decide +kernel), by decide, by decide, by decide⟩, gdw_of (i := 1971) (by decide +kernel) (by decide +kernel), gdw_of (i := 1972) (by decide +kernel) (by decide +kernel)⟩
abbrev mX12_wrongByDrop : hMt := (yX12_wrongByDrop, cX12_wrongByDrop, 3, some .int)
def tX12_wrongByDrop : hTb := [(0, .aload_n 0, 1, 1), (1, .iconst 0, 1, 2), (2, .invokevirtual 355, 3, 5), (5, .aload_n 0, 1, 6), (6, .iload_n 1, 1, 7), (7, .invokevirtual 319, 3, 10), (10, .istore_n 2, 1, 11), (11, .aload_n 0, 1, 12), (12, .getfield 37, 3, 15), (15, .bipush 22, 2, 17), (17, .iconst 1, 1, 18), (18, .iastore, 1, 19), (19, .iload_n 2, 1, 20), (20, .aload_n 0, 1, 21), (21, .bipush 40, 2, 23), (23, .iload_n 1, 1, 24), (24, .isub, 1, 25), (25, .invokevirtual 319, 3, 28), (28, .iadd, 1, 29), (29, .istore_n 2, 1, 30), (30, .aload_n 0, 1, 31), (31, .iconst 0, 1, 32), (32, .invokevirtual 362, 3, 35), (35, .iload_n 2, 1, 36), (36, .ireturn, 1, 37)]
theorem ktX12_wrongByDrop : TbOK mX12_wrongByDrop tX12_wrongByDrop := by
  unfold TbOK
  decide +kernel
theorem kdX12_wrongByDrop (k : Nat) {pc : Nat} {i : Instr} {len nx : Nat} (hk : tX12_wrongByDrop[k]? = some (pc, i, len, nx)) : Dc mX12_wrongByDrop pc i len nx := dc_of ktX12_wrongByDrop k hk
theorem iX12_wrongByDrop : MiV mX12_wrongByDrop := ⟨⟨gdw_of (i := 1985) (by decide +kernel) (by decide +kernel), gdw_of (i := 124) (by decide +kernel) (by decide +kernel), by decide, by decide, by decide⟩, gdw_of (i := 1984) (by decide +kernel) (by decide +kernel), gdw_of (i := 110) (by decide +kernel) (by decide +kernel)⟩
abbrev mX12_worst : hMt := (yX12_worst, cX12_worst, 7, some .int)
def tX12_worst : hTb := [(0, .aload_n 0, 1, 1), (1, .getfield 203, 3, 4), (4, .ifCond .eq 22, 3, 7), (7, .iload_n 1, 1, 8), (8, .iconst 1, 1, 9), (9, .bipush 6, 2, 11), (11, .invokestatic 89, 3, 14), (14, .ifCond .eq 12, 3, 17), (17, .iload_n 2, 1, 18), (18, .iconst 0, 1, 19), (19, .iconst 1, 1, 20), (20, .invokestatic 89, 3, 23), (23, .ifCond .ne 5, 3, 26), (26, .iconst (-1), 1, 27), (27, .ireturn, 1, 28), (28, .iconst 0, 1, 29), (29, .istore_n 3, 1, 30), (30, .iconst (-1), 1, 31), (31, .istore 4, 2, 33), (33, .iconst 0, 1, 34), (34, .istore 5, 2, 36), (36, .iload 5, 2, 38), (38, .iload_n 1, 1, 39), (39, .if_icmp .ge 31, 3, 42), (42, .aload_n 0, 1, 43), (43, .iload 5, 2, 45), (45, .invokevirtual 395, 3, 48), (48, .istore 6, 2, 50), (50, .iload 6, 2, 52), (52, .iload 4, 2, 54), (54, .if_icmp .le 10, 3, 57), (57, .iload 5, 2, 59), (59, .istore_n 3, 1, 60), (60, .iload 6, 2, 62), (62, .istore 4, 2, 64), (64, .iinc 5 1, 3, 67), (67, .goto (-31), 3, 70), (70, .iload_n 2, 1, 71), (71, .ifCond .ne 7, 3, 74), (74, .iload_n 3, 1, 75), (75, .goto 5, 3, 78), (78, .iload 4, 2, 80), (80, .ireturn, 1, 81)]
theorem ktX12_worst : TbOK mX12_worst tX12_worst := by
  unfold TbOK
  decide +kernel
theorem kdX12_worst (k : Nat) {pc : Nat} {i : Instr} {len nx : Nat} (hk : tX12_worst[k]? = some (pc, i, len, nx)) : Dc mX12_worst pc i len nx := dc_of ktX12_worst k hk
theorem iX12_worst : MiV mX12_worst := ⟨⟨gdw_of (i := 1981) (by decide +kernel) (by decide +kernel), gdw_of (i := 124) (by decide +kernel) (by decide +kernel), by decide, by decide, by decide⟩, gdw_of (i := 1979) (by decide +kernel) (by decide +kernel), gdw_of (i := 1980) (by decide +kernel) (by decide +kernel)⟩
theorem lX12_374 : Lk RX12 374 mX12_stateNext := Or.inl (gdw_of (i := 1930) (by decide +kernel) (by decide +kernel))
theorem lX12_377 : Lk RX12 377 mX12_tryState := Or.inl (gdw_of (i := 1926) (by decide +kernel) (by decide +kernel))
theorem lX12_380 : Lk RX12 380 mX12_layBursts := Or.inl (gdw_of (i := 1922) (by decide +kernel) (by decide +kernel))
theorem lX12_383 : Lk RX12 383 mX12_burstOf := Or.inl (gdw_of (i := 1934) (by decide +kernel) (by decide +kernel))
theorem lX12_386 : Lk RX12 386 mX12_isKeeping := Or.inl (gdw_of (i := 1958) (by decide +kernel) (by decide +kernel))
theorem lX12_389 : Lk RX12 389 mX12_settledBy := Or.inl (gdw_of (i := 1954) (by decide +kernel) (by decide +kernel))
theorem lX12_392 : Lk RX12 392 mX12_wrongIn := Or.inl (gdw_of (i := 1974) (by decide +kernel) (by decide +kernel))
theorem lX12_395 : Lk RX12 395 mX12_wrongByDrop := Or.inl (gdw_of (i := 1982) (by decide +kernel) (by decide +kernel))
def bJX12_bears_20 (K20 : Int32 → Int32 → hM → hR) (K50 : Int32 → hM → hR) (v2 : Int32) (v3 : Int32) (m : hM) : hR :=
  ald m 45 0 1 fun x4 =>
  if x4 ≤ v3 then (K50 v2 m) else (ald m 50 0 (0 + v3) fun x5 =>
  calI (JX12_size x5 m) fun x7 m6 =>
  lt (v2 + x7) fun x8 =>
  K20 x8 (v3 + 1) m6)
set_option maxRecDepth 20000 in
theorem BbJX12_bears_20 (K20 : Int32 → Int32 → hM → hR) (K50 : Int32 → hM → hR) (h20 : ∀ (v2 : Int32) (v3 : Int32) (m : hM), G mX12_bears 3 20 [(0, .inr (.inr (40, 0))), (2, .inl v2), (3, .inl v3)] [] m (K20 v2 v3 m)) (h50 : ∀ (v2 : Int32) (m : hM), G mX12_bears 3 50 [(0, .inr (.inr (40, 0))), (2, .inl v2)] [] m (K50 v2 m)) (v2 : Int32) (v3 : Int32) (m : hM) : G mX12_bears 3 20 [(0, .inr (.inr (40, 0))), (2, .inl v2), (3, .inl v3)] [] m (bJX12_bears_20 K20 K50 v2 v3 m) := by
  unfold bJX12_bears_20
  refine g_iload_n 2 (kdX12_bears 13 rfl) rfl ?_
  refine g_aload_n 0 (kdX12_bears 14 rfl) rfl ?_
  refine g_get (v := .inr (.inr (45, 0))) (kdX12_bears 15 rfl) fX12_22 rfl ?_
  refine g_iconst (v := 1) (kdX12_bears 16 rfl) (by decide) ?_
  refine g_iald (kdX12_bears 17 rfl) (fun x4 => ?_)
  refine g_icmp_ge (tgt := 50) (kdX12_bears 18 rfl) (by decide) (fun _ => ?_) (fun _ => ?_)
  · exact g_fgt [0, 1] rfl (h50 v2 m)
  · refine g_iload_n 1 (kdX12_bears 19 rfl) rfl ?_
    refine g_aload_n 0 (kdX12_bears 20 rfl) rfl ?_
    refine g_get (v := .inr (.inr (50, 0))) (kdX12_bears 21 rfl) fX12_37 rfl ?_
    refine g_iconst (v := 0) (kdX12_bears 22 rfl) (by decide) ?_
    refine g_iload_n 2 (kdX12_bears 23 rfl) rfl ?_
    refine g_iadd (kdX12_bears 24 rfl) ?_
    refine g_iald (kdX12_bears 25 rfl) (fun x5 => ?_)
    refine g_calI (ck_S (As := [.inl x5]) (S := [.inl v2]) (kdX12_bears 26 rfl) iX12_size lX12_239 rfl rfl rfl (by decide) (by simp only [List.map, vcat, List.sum_cons, List.sum_nil]; decide)) (CX12_size x5 m) (fun x7 m6 => ?_)
    refine g_iadd (kdX12_bears 27 rfl) ?_
    refine g_lt (fun x8 => ?_)
    refine g_istore_n (L2 := [(2, .inl x8), (0, .inr (.inr (40, 0))), (3, .inl v3)]) (kdX12_bears 28 rfl) rfl (by decide) ?_
    refine g_iinc (v := v3 + 1) (L2 := [(3, .inl (v3 + 1)), (2, .inl x8), (0, .inr (.inr (40, 0)))]) 2 (kdX12_bears 29 rfl) rfl rfl rfl (by decide) ?_
    refine g_goto (tgt := 20) (kdX12_bears 30 rfl) (by decide) ?_
    exact g_fgt [2, 1, 0] rfl (h20 x8 (v3 + 1) m6)
def JX12_bears_20 (K50 : Int32 → hM → hR) : Nat → Int32 → Int32 → hM → hR
  | 0, _, _, _ => none
  | f + 1, v2, v3, m => bJX12_bears_20 (fun v2 v3 m => JX12_bears_20 K50  f v2 v3 m) K50  v2 v3 m
theorem BJX12_bears_20 (K50 : Int32 → hM → hR) (h50 : ∀ (v2 : Int32) (m : hM), G mX12_bears 3 50 [(0, .inr (.inr (40, 0))), (2, .inl v2)] [] m (K50 v2 m)) : ∀ (f : Nat) (v2 : Int32) (v3 : Int32) (m : hM), G mX12_bears 3 20 [(0, .inr (.inr (40, 0))), (2, .inl v2), (3, .inl v3)] [] m (JX12_bears_20 K50  f v2 v3 m)
  | 0, _, _, _ => g_none
  | f + 1, v2, v3, m => BbJX12_bears_20  _ K50  (fun v2 v3 m => BJX12_bears_20  K50  h50 f v2 v3 m) h50 v2 v3 m
def bJX12_bears_52 (K52 : Int32 → hM → hR) (K90 : Int32 → hM → hR) (v2 : Int32) (v3 : Int32) (m : hM) : hR :=
  if 99 ≤ v3 then (K90 v3 m) else (if ((m.1 40 0 25) - ((v3 + 1) * v2)) < 0 then (K90 v3 m) else (if 0 ≤ ((m.1 40 0 26) + ((v3 + 1) * v2)) then (K90 v3 m) else (K52 (v3 + 1) m)))
set_option maxRecDepth 20000 in
theorem BbJX12_bears_52 (K52 : Int32 → hM → hR) (K90 : Int32 → hM → hR) (v2 : Int32) (h52 : ∀ (v3 : Int32) (m : hM), G mX12_bears 3 52 [(0, .inr (.inr (40, 0))), (2, .inl v2), (3, .inl v3)] [] m (K52 v3 m)) (h90 : ∀ (v3 : Int32) (m : hM), G mX12_bears 3 90 [(3, .inl v3)] [] m (K90 v3 m)) (v3 : Int32) (m : hM) : G mX12_bears 3 52 [(0, .inr (.inr (40, 0))), (2, .inl v2), (3, .inl v3)] [] m (bJX12_bears_52 K52 K90 v2 v3 m) := by
  unfold bJX12_bears_52
  refine g_iload_n 2 (kdX12_bears 33 rfl) rfl ?_
  refine g_bipush (v := 99) (kdX12_bears 34 rfl) (by decide) ?_
  refine g_icmp_ge (tgt := 90) (kdX12_bears 35 rfl) (by decide) (fun _ => ?_) (fun _ => ?_)
  · exact g_fgt [2] rfl (h90 v3 m)
  · refine g_aload_n 0 (kdX12_bears 36 rfl) rfl ?_
    refine g_get (v := .inl (m.1 40 0 25)) (kdX12_bears 37 rfl) fX12_294 rfl ?_
    refine g_iload_n 2 (kdX12_bears 38 rfl) rfl ?_
    refine g_iconst (v := 1) (kdX12_bears 39 rfl) (by decide) ?_
    refine g_iadd (kdX12_bears 40 rfl) ?_
    refine g_iload_n 1 (kdX12_bears 41 rfl) rfl ?_
    refine g_imul (kdX12_bears 42 rfl) ?_
    refine g_isub (kdX12_bears 43 rfl) ?_
    refine g_if_lt (tgt := 90) (kdX12_bears 44 rfl) (by decide) (fun _ => ?_) (fun _ => ?_)
    · exact g_fgt [2] rfl (h90 v3 m)
    · refine g_aload_n 0 (kdX12_bears 45 rfl) rfl ?_
      refine g_get (v := .inl (m.1 40 0 26)) (kdX12_bears 46 rfl) fX12_298 rfl ?_
      refine g_iload_n 2 (kdX12_bears 47 rfl) rfl ?_
      refine g_iconst (v := 1) (kdX12_bears 48 rfl) (by decide) ?_
      refine g_iadd (kdX12_bears 49 rfl) ?_
      refine g_iload_n 1 (kdX12_bears 50 rfl) rfl ?_
      refine g_imul (kdX12_bears 51 rfl) ?_
      refine g_iadd (kdX12_bears 52 rfl) ?_
      refine g_if_ge (tgt := 90) (kdX12_bears 53 rfl) (by decide) (fun _ => ?_) (fun _ => ?_)
      · exact g_fgt [2] rfl (h90 v3 m)
      · refine g_iinc (v := v3 + 1) (L2 := [(3, .inl (v3 + 1)), (0, .inr (.inr (40, 0))), (2, .inl v2)]) 2 (kdX12_bears 54 rfl) rfl rfl rfl (by decide) ?_
        refine g_goto (tgt := 52) (kdX12_bears 55 rfl) (by decide) ?_
        exact g_fgt [1, 2, 0] rfl (h52 (v3 + 1) m)
def JX12_bears_52 (K90 : Int32 → hM → hR) (v2 : Int32) : Nat → Int32 → hM → hR
  | 0, _, _ => none
  | f + 1, v3, m => bJX12_bears_52 (fun v3 m => JX12_bears_52 K90 v2 f v3 m) K90 v2 v3 m
theorem BJX12_bears_52 (K90 : Int32 → hM → hR) (v2 : Int32) (h90 : ∀ (v3 : Int32) (m : hM), G mX12_bears 3 90 [(3, .inl v3)] [] m (K90 v3 m)) : ∀ (f : Nat) (v3 : Int32) (m : hM), G mX12_bears 3 52 [(0, .inr (.inr (40, 0))), (2, .inl v2), (3, .inl v3)] [] m (JX12_bears_52 K90 v2 f v3 m)
  | 0, _, _ => g_none
  | f + 1, v3, m => BbJX12_bears_52  _ K90 v2 (fun v3 m => BJX12_bears_52  K90 v2 h90 f v3 m) h90 v3 m
def JX12_bears (a1 : Int32) (m : hM) : hR :=
  calI (JX12_isPhase a1 m) fun x2 m1 =>
  if x2 = 0 then (some (some (.inl (-1000000000)), m1)) else (calV (JX12_layOpening a1 m1) fun m3 =>
  JX12_bears_20 (fun v2 m9 => JX12_bears_52 (fun v3 m10 => some (some (.inl v3), m10)) v2 FU (-1) m9)  FU 0 0 m3)
set_option maxRecDepth 20000 in
theorem CX12_bears (a1 : Int32) (m : hM) : Cn mX12_bears 3 [.inr (.inr (40, 0)), .inl a1] m (JX12_bears a1 m) := by
  refine cn_of (by decide +kernel) (by simp only [List.map, vcat, List.sum_cons, List.sum_nil]; decide) ?_
  unfold JX12_bears
  show G mX12_bears 3 0 [(0, .inr (.inr (40, 0))), (1, .inl a1)] [] m _
  refine g_aload_n 0 (kdX12_bears 0 rfl) rfl ?_
  refine g_iload_n 1 (kdX12_bears 1 rfl) rfl ?_
  refine g_calI (ck_V (As := [.inl a1]) (S := []) (t := 40) (o := 0) (kdX12_bears 2 rfl) iX12_isPhase lX12_365 rc_40 rfl rfl rfl (by decide) (by simp only [List.map, vcat, List.sum_cons, List.sum_nil]; decide)) (CX12_isPhase a1 m) (fun x2 m1 => ?_)
  refine g_if_ne (tgt := 11) (kdX12_bears 3 rfl) (by decide) (fun _ => ?_) (fun _ => ?_)
  · refine g_aload_n 0 (kdX12_bears 6 rfl) rfl ?_
    refine g_iload_n 1 (kdX12_bears 7 rfl) rfl ?_
    refine g_calV (ck_V (As := [.inl a1]) (S := []) (t := 40) (o := 0) (kdX12_bears 8 rfl) iX12_layOpening lX12_304 rc_40 rfl rfl rfl (by decide) (by simp only [List.map, vcat, List.sum_cons, List.sum_nil]; decide)) (CX12_layOpening a1 m1) (fun m3 => ?_)
    refine g_iconst (v := 0) (kdX12_bears 9 rfl) (by decide) ?_
    refine g_istore_n (L2 := [(2, .inl 0), (0, .inr (.inr (40, 0))), (1, .inl a1)]) (kdX12_bears 10 rfl) rfl (by decide) ?_
    refine g_iconst (v := 0) (kdX12_bears 11 rfl) (by decide) ?_
    refine g_istore_n (L2 := [(3, .inl 0), (2, .inl 0), (0, .inr (.inr (40, 0))), (1, .inl a1)]) (kdX12_bears 12 rfl) rfl (by decide) ?_
    refine g_fgt [2, 1, 0] rfl (BJX12_bears_20  _  ?_ FU 0 0 m3)
    · intro v2 m9
      refine g_iconst (v := (-1)) (kdX12_bears 31 rfl) (by decide) ?_
      refine g_istore_n (L2 := [(3, .inl (-1)), (0, .inr (.inr (40, 0))), (2, .inl v2)]) (kdX12_bears 32 rfl) rfl (by decide) ?_
      refine g_fgt [1, 2, 0] rfl (BJX12_bears_52  _ v2 ?_ FU (-1) m9)
      · intro v3 m10
        refine g_iload_n 0 (kdX12_bears 56 rfl) rfl ?_
        exact g_iret rfl (kdX12_bears 57 rfl)
  · refine g_ldc (kdX12_bears 4 rfl) cX12_50 ?_
    exact g_iret rfl (kdX12_bears 5 rfl)
def JX12_stateNext_51 (v3 : Int32) (v4 : Int32) (v5 : Int32) (v100 : Int32) (m : hM) : hR :=
  some (some (.inl ((8 * v4) + (((v5 <<< ((1 : Int32) &&& 31)) ||| v100) &&& v3))), m)
set_option maxRecDepth 20000 in
theorem BX12_stateNext_51 (v3 : Int32) (v4 : Int32) (v5 : Int32) (v100 : Int32) (m : hM) : G mX12_stateNext 0 51 [(3, .inl v3), (4, .inl v4), (5, .inl v5)] [.inl v100] m (JX12_stateNext_51 v3 v4 v5 v100 m) := by
  unfold JX12_stateNext_51
  refine g_istore (L2 := [(6, .inl v100), (3, .inl v3), (4, .inl v4), (5, .inl v5)]) (kdX12_stateNext 35 rfl) rfl (by decide) ?_
  refine g_bipush (v := 8) (kdX12_stateNext 36 rfl) (by decide) ?_
  refine g_iload 2 (kdX12_stateNext 37 rfl) rfl ?_
  refine g_imul (kdX12_stateNext 38 rfl) ?_
  refine g_iload 3 (kdX12_stateNext 39 rfl) rfl ?_
  refine g_iconst (v := 1) (kdX12_stateNext 40 rfl) (by decide) ?_
  refine g_ishl (kdX12_stateNext 41 rfl) ?_
  refine g_iload 0 (kdX12_stateNext 42 rfl) rfl ?_
  refine g_ior (kdX12_stateNext 43 rfl) ?_
  refine g_iload_n 1 (kdX12_stateNext 44 rfl) rfl ?_
  refine g_iand (kdX12_stateNext 45 rfl) ?_
  refine g_iadd (kdX12_stateNext 46 rfl) ?_
  exact g_iret rfl (kdX12_stateNext 47 rfl)
def JX12_stateNext (a1 : Int32) (a2 : Int32) (m : hM) : hR :=
  ald m 45 0 2 fun x1 =>
  lt (((1 : Int32) <<< (x1 &&& 31)) - 1) fun x2 =>
  jidiv a1 8 fun x3 =>
  lt (((x3 <<< ((1 : Int32) &&& 31)) ||| a2) &&& 63) fun x4 =>
  jirem a1 8 fun x5 =>
  zald m 57 0 ((8 * x4) + x5) fun x6 =>
  if x6 = 0 then (JX12_stateNext_51 x2 x4 x5 0 m) else (JX12_stateNext_51 x2 x4 x5 1 m)
set_option maxRecDepth 20000 in
theorem CX12_stateNext (a1 : Int32) (a2 : Int32) (m : hM) : Cn mX12_stateNext 0 [.inr (.inr (40, 0)), .inl a1, .inl a2] m (JX12_stateNext a1 a2 m) := by
  refine cn_of (by decide +kernel) (by simp only [List.map, vcat, List.sum_cons, List.sum_nil]; decide) ?_
  unfold JX12_stateNext
  show G mX12_stateNext 0 0 [(0, .inr (.inr (40, 0))), (1, .inl a1), (2, .inl a2)] [] m _
  refine g_iconst (v := 1) (kdX12_stateNext 0 rfl) (by decide) ?_
  refine g_aload_n 0 (kdX12_stateNext 1 rfl) rfl ?_
  refine g_get (v := .inr (.inr (45, 0))) (kdX12_stateNext 2 rfl) fX12_22 rfl ?_
  refine g_iconst (v := 2) (kdX12_stateNext 3 rfl) (by decide) ?_
  refine g_iald (kdX12_stateNext 4 rfl) (fun x1 => ?_)
  refine g_ishl (kdX12_stateNext 5 rfl) ?_
  refine g_iconst (v := 1) (kdX12_stateNext 6 rfl) (by decide) ?_
  refine g_isub (kdX12_stateNext 7 rfl) ?_
  refine g_lt (fun x2 => ?_)
  refine g_istore_n (L2 := [(3, .inl x2), (0, .inr (.inr (40, 0))), (1, .inl a1), (2, .inl a2)]) (kdX12_stateNext 8 rfl) rfl (by decide) ?_
  refine g_iload_n 2 (kdX12_stateNext 9 rfl) rfl ?_
  refine g_bipush (v := 8) (kdX12_stateNext 10 rfl) (by decide) ?_
  refine g_idivx (kdX12_stateNext 11 rfl) (fun x3 => ?_)
  refine g_iconst (v := 1) (kdX12_stateNext 12 rfl) (by decide) ?_
  refine g_ishl (kdX12_stateNext 13 rfl) ?_
  refine g_iload_n 3 (kdX12_stateNext 14 rfl) rfl ?_
  refine g_ior (kdX12_stateNext 15 rfl) ?_
  refine g_bipush (v := 63) (kdX12_stateNext 16 rfl) (by decide) ?_
  refine g_iand (kdX12_stateNext 17 rfl) ?_
  refine g_lt (fun x4 => ?_)
  refine g_istore (L2 := [(4, .inl x4), (3, .inl x2), (0, .inr (.inr (40, 0))), (1, .inl a1), (2, .inl a2)]) (kdX12_stateNext 18 rfl) rfl (by decide) ?_
  refine g_iload_n 3 (kdX12_stateNext 19 rfl) rfl ?_
  refine g_bipush (v := 8) (kdX12_stateNext 20 rfl) (by decide) ?_
  refine g_iremx (kdX12_stateNext 21 rfl) (fun x5 => ?_)
  refine g_istore (L2 := [(5, .inl x5), (4, .inl x4), (3, .inl x2), (0, .inr (.inr (40, 0))), (1, .inl a1), (2, .inl a2)]) (kdX12_stateNext 22 rfl) rfl (by decide) ?_
  refine g_aload_n 3 (kdX12_stateNext 23 rfl) rfl ?_
  refine g_get (v := .inr (.inr (57, 0))) (kdX12_stateNext 24 rfl) fX12_70 rfl ?_
  refine g_bipush (v := 8) (kdX12_stateNext 25 rfl) (by decide) ?_
  refine g_iload 1 (kdX12_stateNext 26 rfl) rfl ?_
  refine g_imul (kdX12_stateNext 27 rfl) ?_
  refine g_iload 0 (kdX12_stateNext 28 rfl) rfl ?_
  refine g_iadd (kdX12_stateNext 29 rfl) ?_
  refine g_zald (kdX12_stateNext 30 rfl) (fun x6 => ?_)
  refine g_if_eq (tgt := 50) (kdX12_stateNext 31 rfl) (by decide) (fun _ => ?_) (fun _ => ?_)
  · refine g_iconst (v := 0) (kdX12_stateNext 34 rfl) (by decide) ?_
    exact g_fgt [2, 1, 0] rfl (BX12_stateNext_51 x2 x4 x5 0 m)
  · refine g_iconst (v := 1) (kdX12_stateNext 32 rfl) (by decide) ?_
    refine g_goto (tgt := 51) (kdX12_stateNext 33 rfl) (by decide) ?_
    exact g_fgt [2, 1, 0] rfl (BX12_stateNext_51 x2 x4 x5 1 m)
def JX12_tryState_92 (K7 : Int32 → Int32 → Int32 → hM → hR) (K40 : hM → hR) (K103 : Int32 → Int32 → hM → hR) (v1 : Int32) (v2 : Int32) (v4 : Int32) (v100 : Int32) (v101 : Int32) (v102 : Int32) (m : hM) : hR :=
  calI (JJ9_max_7cf53 v102 (v101 + v100) m) fun x11 m10 =>
  K7 v2 x11 (v4 + 1) m10
set_option maxRecDepth 20000 in
theorem BX12_tryState_92 (v1 : Int32) (K7 : Int32 → Int32 → Int32 → hM → hR) (K40 : hM → hR) (K103 : Int32 → Int32 → hM → hR) (h7 : ∀ (v2 : Int32) (v3 : Int32) (v4 : Int32) (m : hM), G mX12_tryState 1 7 [(0, .inr (.inr (40, 0))), (1, .inl v1), (2, .inl v2), (3, .inl v3), (4, .inl v4)] [] m (K7 v2 v3 v4 m)) (h40 : ∀ (m : hM), G mX12_tryState 1 40 [] [] m (K40 m)) (h103 : ∀ (v2 : Int32) (v3 : Int32) (m : hM), G mX12_tryState 1 103 [(0, .inr (.inr (40, 0))), (1, .inl v1), (2, .inl v2), (3, .inl v3)] [] m (K103 v2 v3 m)) (v2 : Int32) (v4 : Int32) (v100 : Int32) (v101 : Int32) (v102 : Int32) (m : hM) : G mX12_tryState 1 92 [(0, .inr (.inr (40, 0))), (1, .inl v1), (2, .inl v2), (4, .inl v4)] [.inl v100, .inl v101, .inl v102] m (JX12_tryState_92 K7 K40 K103 v1 v2 v4 v100 v101 v102 m) := by
  unfold JX12_tryState_92
  refine g_iadd (kdX12_tryState 54 rfl) ?_
  refine g_calI (ck_S (As := [.inl v102, .inl (v101 + v100)]) (S := []) (kdX12_tryState 55 rfl) iJ9_max_7cf53 lX12_253 rfl rfl rfl (by decide) (by simp only [List.map, vcat, List.sum_cons, List.sum_nil]; decide)) (CJ9_max_7cf53 v102 (v101 + v100) m) (fun x11 m10 => ?_)
  refine g_istore_n (L2 := [(3, .inl x11), (0, .inr (.inr (40, 0))), (1, .inl v1), (2, .inl v2), (4, .inl v4)]) (kdX12_tryState 56 rfl) rfl (by decide) ?_
  refine g_iinc (v := v4 + 1) (L2 := [(4, .inl (v4 + 1)), (3, .inl x11), (0, .inr (.inr (40, 0))), (1, .inl v1), (2, .inl v2)]) 4 (kdX12_tryState 57 rfl) rfl rfl rfl (by decide) ?_
  refine g_goto (tgt := 7) (kdX12_tryState 58 rfl) (by decide) ?_
  exact g_fgt [2, 3, 4, 1, 0] rfl (h7 v2 x11 (v4 + 1) m10)
def JX12_tryState_64 (K7 : Int32 → Int32 → Int32 → hM → hR) (K40 : hM → hR) (K103 : Int32 → Int32 → hM → hR) (v1 : Int32) (v3 : Int32) (v4 : Int32) (v5 : Int32) (v100 : Int32) (v101 : Int32) (m : hM) : hR :=
  calI (JJ9_max_7cf53 v101 v100 m) fun x7 m6 =>
  jirem v5 8 fun x8 =>
  if x8 = 0 then (JX12_tryState_92 K7 K40 K103 v1 x7 v4 0 (v5 &&& 1) v3 m6) else (ald m6 55 0 v5 fun x9 =>
  JX12_tryState_92 K7 K40 K103 v1 x7 v4 x9 (v5 &&& 1) v3 m6)
set_option maxRecDepth 20000 in
theorem BX12_tryState_64 (v1 : Int32) (K7 : Int32 → Int32 → Int32 → hM → hR) (K40 : hM → hR) (K103 : Int32 → Int32 → hM → hR) (h7 : ∀ (v2 : Int32) (v3 : Int32) (v4 : Int32) (m : hM), G mX12_tryState 1 7 [(0, .inr (.inr (40, 0))), (1, .inl v1), (2, .inl v2), (3, .inl v3), (4, .inl v4)] [] m (K7 v2 v3 v4 m)) (h40 : ∀ (m : hM), G mX12_tryState 1 40 [] [] m (K40 m)) (h103 : ∀ (v2 : Int32) (v3 : Int32) (m : hM), G mX12_tryState 1 103 [(0, .inr (.inr (40, 0))), (1, .inl v1), (2, .inl v2), (3, .inl v3)] [] m (K103 v2 v3 m)) (v3 : Int32) (v4 : Int32) (v5 : Int32) (v100 : Int32) (v101 : Int32) (m : hM) : G mX12_tryState 1 64 [(0, .inr (.inr (40, 0))), (1, .inl v1), (3, .inl v3), (4, .inl v4), (5, .inl v5)] [.inl v100, .inl v101] m (JX12_tryState_64 K7 K40 K103 v1 v3 v4 v5 v100 v101 m) := by
  unfold JX12_tryState_64
  refine g_calI (ck_S (As := [.inl v101, .inl v100]) (S := []) (kdX12_tryState 38 rfl) iJ9_max_7cf53 lX12_253 rfl rfl rfl (by decide) (by simp only [List.map, vcat, List.sum_cons, List.sum_nil]; decide)) (CJ9_max_7cf53 v101 v100 m) (fun x7 m6 => ?_)
  refine g_istore_n (L2 := [(2, .inl x7), (0, .inr (.inr (40, 0))), (1, .inl v1), (3, .inl v3), (4, .inl v4), (5, .inl v5)]) (kdX12_tryState 39 rfl) rfl (by decide) ?_
  refine g_iload_n 3 (kdX12_tryState 40 rfl) rfl ?_
  refine g_iload 5 (kdX12_tryState 41 rfl) rfl ?_
  refine g_iconst (v := 1) (kdX12_tryState 42 rfl) (by decide) ?_
  refine g_iand (kdX12_tryState 43 rfl) ?_
  refine g_iload 5 (kdX12_tryState 44 rfl) rfl ?_
  refine g_bipush (v := 8) (kdX12_tryState 45 rfl) (by decide) ?_
  refine g_iremx (kdX12_tryState 46 rfl) (fun x8 => ?_)
  refine g_if_ne (tgt := 85) (kdX12_tryState 47 rfl) (by decide) (fun _ => ?_) (fun _ => ?_)
  · refine g_aload_n 1 (kdX12_tryState 50 rfl) rfl ?_
    refine g_get (v := .inr (.inr (55, 0))) (kdX12_tryState 51 rfl) fX12_63 rfl ?_
    refine g_iload 5 (kdX12_tryState 52 rfl) rfl ?_
    refine g_iald (kdX12_tryState 53 rfl) (fun x9 => ?_)
    exact g_fgt [1, 2, 0, 4] rfl (BX12_tryState_92 v1 _ _ _ h7 h40 h103 x7 v4 x9 (v5 &&& 1) v3 m6)
  · refine g_iconst (v := 0) (kdX12_tryState 48 rfl) (by decide) ?_
    refine g_goto (tgt := 92) (kdX12_tryState 49 rfl) (by decide) ?_
    exact g_fgt [1, 2, 0, 4] rfl (BX12_tryState_92 v1 _ _ _ h7 h40 h103 x7 v4 0 (v5 &&& 1) v3 m6)
def JX12_tryState_42 (K7 : Int32 → Int32 → Int32 → hM → hR) (K40 : hM → hR) (K103 : Int32 → Int32 → hM → hR) (v1 : Int32) (v2 : Int32) (v3 : Int32) (v4 : Int32) (v5 : Int32) (m : hM) : hR :=
  jirem v5 8 fun x4 =>
  if x4 = 0 then (JX12_tryState_64 K7 K40 K103 v1 v3 v4 v5 1 v2 m) else (ald m 54 0 v5 fun x5 =>
  JX12_tryState_64 K7 K40 K103 v1 v3 v4 v5 (x5 + 1) v2 m)
set_option maxRecDepth 20000 in
theorem BX12_tryState_42 (v1 : Int32) (K7 : Int32 → Int32 → Int32 → hM → hR) (K40 : hM → hR) (K103 : Int32 → Int32 → hM → hR) (h7 : ∀ (v2 : Int32) (v3 : Int32) (v4 : Int32) (m : hM), G mX12_tryState 1 7 [(0, .inr (.inr (40, 0))), (1, .inl v1), (2, .inl v2), (3, .inl v3), (4, .inl v4)] [] m (K7 v2 v3 v4 m)) (h40 : ∀ (m : hM), G mX12_tryState 1 40 [] [] m (K40 m)) (h103 : ∀ (v2 : Int32) (v3 : Int32) (m : hM), G mX12_tryState 1 103 [(0, .inr (.inr (40, 0))), (1, .inl v1), (2, .inl v2), (3, .inl v3)] [] m (K103 v2 v3 m)) (v2 : Int32) (v3 : Int32) (v4 : Int32) (v5 : Int32) (m : hM) : G mX12_tryState 1 42 [(0, .inr (.inr (40, 0))), (1, .inl v1), (2, .inl v2), (3, .inl v3), (4, .inl v4), (5, .inl v5)] [] m (JX12_tryState_42 K7 K40 K103 v1 v2 v3 v4 v5 m) := by
  unfold JX12_tryState_42
  refine g_iload_n 2 (kdX12_tryState 25 rfl) rfl ?_
  refine g_iload 5 (kdX12_tryState 26 rfl) rfl ?_
  refine g_bipush (v := 8) (kdX12_tryState 27 rfl) (by decide) ?_
  refine g_iremx (kdX12_tryState 28 rfl) (fun x4 => ?_)
  refine g_if_ne (tgt := 55) (kdX12_tryState 29 rfl) (by decide) (fun _ => ?_) (fun _ => ?_)
  · refine g_aload_n 0 (kdX12_tryState 32 rfl) rfl ?_
    refine g_get (v := .inr (.inr (54, 0))) (kdX12_tryState 33 rfl) fX12_60 rfl ?_
    refine g_iload 5 (kdX12_tryState 34 rfl) rfl ?_
    refine g_iald (kdX12_tryState 35 rfl) (fun x5 => ?_)
    refine g_iconst (v := 1) (kdX12_tryState 36 rfl) (by decide) ?_
    refine g_iadd (kdX12_tryState 37 rfl) ?_
    exact g_fgt [0, 1, 3, 4, 5] rfl (BX12_tryState_64 v1 _ _ _ h7 h40 h103 v3 v4 v5 (x5 + 1) v2 m)
  · refine g_iconst (v := 1) (kdX12_tryState 30 rfl) (by decide) ?_
    refine g_goto (tgt := 64) (kdX12_tryState 31 rfl) (by decide) ?_
    exact g_fgt [0, 1, 3, 4, 5] rfl (BX12_tryState_64 v1 _ _ _ h7 h40 h103 v3 v4 v5 1 v2 m)
def bJX12_tryState_7 (K7 : Int32 → Int32 → Int32 → hM → hR) (K40 : hM → hR) (K103 : Int32 → Int32 → hM → hR) (v1 : Int32) (v2 : Int32) (v3 : Int32) (v4 : Int32) (m : hM) : hR :=
  if 2 ≤ v4 then (K103 v2 v3 m) else (calI (JX12_stateNext v1 v4 m) fun x2 m1 =>
  jirem x2 8 fun x3 =>
  if x3 = 0 then (JX12_tryState_42 K7 K40 K103 v1 v2 v3 v4 x2 m1) else (zald m1 56 0 x2 fun x12 =>
  if x12 = 0 then (K40 m1) else (JX12_tryState_42 K7 K40 K103 v1 v2 v3 v4 x2 m1)))
set_option maxRecDepth 20000 in
theorem BbJX12_tryState_7 (K7 : Int32 → Int32 → Int32 → hM → hR) (K40 : hM → hR) (K103 : Int32 → Int32 → hM → hR) (v1 : Int32) (h7 : ∀ (v2 : Int32) (v3 : Int32) (v4 : Int32) (m : hM), G mX12_tryState 1 7 [(0, .inr (.inr (40, 0))), (1, .inl v1), (2, .inl v2), (3, .inl v3), (4, .inl v4)] [] m (K7 v2 v3 v4 m)) (h40 : ∀ (m : hM), G mX12_tryState 1 40 [] [] m (K40 m)) (h103 : ∀ (v2 : Int32) (v3 : Int32) (m : hM), G mX12_tryState 1 103 [(0, .inr (.inr (40, 0))), (1, .inl v1), (2, .inl v2), (3, .inl v3)] [] m (K103 v2 v3 m)) (v2 : Int32) (v3 : Int32) (v4 : Int32) (m : hM) : G mX12_tryState 1 7 [(0, .inr (.inr (40, 0))), (1, .inl v1), (2, .inl v2), (3, .inl v3), (4, .inl v4)] [] m (bJX12_tryState_7 K7 K40 K103 v1 v2 v3 v4 m) := by
  unfold bJX12_tryState_7
  refine g_iload 4 (kdX12_tryState 6 rfl) rfl ?_
  refine g_iconst (v := 2) (kdX12_tryState 7 rfl) (by decide) ?_
  refine g_icmp_ge (tgt := 103) (kdX12_tryState 8 rfl) (by decide) (fun _ => ?_) (fun _ => ?_)
  · exact g_fgt [0, 1, 2, 3] rfl (h103 v2 v3 m)
  · refine g_aload_n 0 (kdX12_tryState 9 rfl) rfl ?_
    refine g_iload_n 1 (kdX12_tryState 10 rfl) rfl ?_
    refine g_iload 4 (kdX12_tryState 11 rfl) rfl ?_
    refine g_calI (ck_V (As := [.inl v1, .inl v4]) (S := []) (t := 40) (o := 0) (kdX12_tryState 12 rfl) iX12_stateNext lX12_374 rc_40 rfl rfl rfl (by decide) (by simp only [List.map, vcat, List.sum_cons, List.sum_nil]; decide)) (CX12_stateNext v1 v4 m) (fun x2 m1 => ?_)
    refine g_istore (L2 := [(5, .inl x2), (0, .inr (.inr (40, 0))), (1, .inl v1), (2, .inl v2), (3, .inl v3), (4, .inl v4)]) (kdX12_tryState 13 rfl) rfl (by decide) ?_
    refine g_iload 0 (kdX12_tryState 14 rfl) rfl ?_
    refine g_bipush (v := 8) (kdX12_tryState 15 rfl) (by decide) ?_
    refine g_iremx (kdX12_tryState 16 rfl) (fun x3 => ?_)
    refine g_if_eq (tgt := 42) (kdX12_tryState 17 rfl) (by decide) (fun _ => ?_) (fun _ => ?_)
    · exact g_fgt [1, 2, 3, 4, 5, 0] rfl (BX12_tryState_42 v1 _ _ _ h7 h40 h103 v2 v3 v4 x2 m1)
    · refine g_aload_n 1 (kdX12_tryState 18 rfl) rfl ?_
      refine g_get (v := .inr (.inr (56, 0))) (kdX12_tryState 19 rfl) fX12_66 rfl ?_
      refine g_iload 0 (kdX12_tryState 20 rfl) rfl ?_
      refine g_zald (kdX12_tryState 21 rfl) (fun x12 => ?_)
      refine g_if_ne (tgt := 42) (kdX12_tryState 22 rfl) (by decide) (fun _ => ?_) (fun _ => ?_)
      · exact g_fgt [1, 2, 3, 4, 5, 0] rfl (BX12_tryState_42 v1 _ _ _ h7 h40 h103 v2 v3 v4 x2 m1)
      · exact g_fgt [] rfl (h40 m1)
def JX12_tryState_7 (K40 : hM → hR) (K103 : Int32 → Int32 → hM → hR) (v1 : Int32) : Nat → Int32 → Int32 → Int32 → hM → hR
  | 0, _, _, _, _ => none
  | f + 1, v2, v3, v4, m => bJX12_tryState_7 (fun v2 v3 v4 m => JX12_tryState_7 K40 K103 v1 f v2 v3 v4 m) K40 K103 v1 v2 v3 v4 m
theorem BJX12_tryState_7 (K40 : hM → hR) (K103 : Int32 → Int32 → hM → hR) (v1 : Int32) (h40 : ∀ (m : hM), G mX12_tryState 1 40 [] [] m (K40 m)) (h103 : ∀ (v2 : Int32) (v3 : Int32) (m : hM), G mX12_tryState 1 103 [(0, .inr (.inr (40, 0))), (1, .inl v1), (2, .inl v2), (3, .inl v3)] [] m (K103 v2 v3 m)) : ∀ (f : Nat) (v2 : Int32) (v3 : Int32) (v4 : Int32) (m : hM), G mX12_tryState 1 7 [(0, .inr (.inr (40, 0))), (1, .inl v1), (2, .inl v2), (3, .inl v3), (4, .inl v4)] [] m (JX12_tryState_7 K40 K103 v1 f v2 v3 v4 m)
  | 0, _, _, _, _ => g_none
  | f + 1, v2, v3, v4, m => BbJX12_tryState_7  _ K40 K103 v1 (fun v2 v3 v4 m => BJX12_tryState_7  K40 K103 v1 h40 h103 f v2 v3 v4 m) h40 h103 v2 v3 v4 m
def JX12_tryState (a1 : Int32) (m : hM) : hR :=
  JX12_tryState_7 (fun m13 => jretZ 0 m13) (fun v2 v3 m14 => zast m14 56 0 a1 1 fun m15 =>
  ast m15 54 0 a1 v2 fun m16 =>
  ast m16 55 0 a1 v3 fun m17 =>
  jretZ 1 m17) a1 FU 0 0 0 m
set_option maxRecDepth 20000 in
theorem CX12_tryState (a1 : Int32) (m : hM) : Cn mX12_tryState 1 [.inr (.inr (40, 0)), .inl a1] m (JX12_tryState a1 m) := by
  refine cn_of (by decide +kernel) (by simp only [List.map, vcat, List.sum_cons, List.sum_nil]; decide) ?_
  unfold JX12_tryState
  show G mX12_tryState 1 0 [(0, .inr (.inr (40, 0))), (1, .inl a1)] [] m _
  refine g_iconst (v := 0) (kdX12_tryState 0 rfl) (by decide) ?_
  refine g_istore_n (L2 := [(2, .inl 0), (0, .inr (.inr (40, 0))), (1, .inl a1)]) (kdX12_tryState 1 rfl) rfl (by decide) ?_
  refine g_iconst (v := 0) (kdX12_tryState 2 rfl) (by decide) ?_
  refine g_istore_n (L2 := [(3, .inl 0), (2, .inl 0), (0, .inr (.inr (40, 0))), (1, .inl a1)]) (kdX12_tryState 3 rfl) rfl (by decide) ?_
  refine g_iconst (v := 0) (kdX12_tryState 4 rfl) (by decide) ?_
  refine g_istore (L2 := [(4, .inl 0), (3, .inl 0), (2, .inl 0), (0, .inr (.inr (40, 0))), (1, .inl a1)]) (kdX12_tryState 5 rfl) rfl (by decide) ?_
  refine g_fgt [3, 4, 2, 1, 0] rfl (BJX12_tryState_7  _ _ a1 ?_ ?_ FU 0 0 0 m)
  · intro m13
    refine g_iconst (v := 0) (kdX12_tryState 23 rfl) (by decide) ?_
    exact g_zret rfl (kdX12_tryState 24 rfl)
  · intro v2 v3 m14
    refine g_aload_n 0 (kdX12_tryState 59 rfl) rfl ?_
    refine g_get (v := .inr (.inr (56, 0))) (kdX12_tryState 60 rfl) fX12_66 rfl ?_
    refine g_iload_n 1 (kdX12_tryState 61 rfl) rfl ?_
    refine g_iconst (v := 1) (kdX12_tryState 62 rfl) (by decide) ?_
    refine g_zast (kdX12_tryState 63 rfl) (fun m15 => ?_)
    refine g_aload_n 0 (kdX12_tryState 64 rfl) rfl ?_
    refine g_get (v := .inr (.inr (54, 0))) (kdX12_tryState 65 rfl) fX12_60 rfl ?_
    refine g_iload_n 1 (kdX12_tryState 66 rfl) rfl ?_
    refine g_iload_n 2 (kdX12_tryState 67 rfl) rfl ?_
    refine g_iast (kdX12_tryState 68 rfl) (fun m16 => ?_)
    refine g_aload_n 0 (kdX12_tryState 69 rfl) rfl ?_
    refine g_get (v := .inr (.inr (55, 0))) (kdX12_tryState 70 rfl) fX12_63 rfl ?_
    refine g_iload_n 1 (kdX12_tryState 71 rfl) rfl ?_
    refine g_iload_n 3 (kdX12_tryState 72 rfl) rfl ?_
    refine g_iast (kdX12_tryState 73 rfl) (fun m17 => ?_)
    refine g_iconst (v := 1) (kdX12_tryState 74 rfl) (by decide) ?_
    exact g_zret rfl (kdX12_tryState 75 rfl)
def JX12_layBursts_80 (K11 : Int32 → hM → hR) (K87 : hM → hR) (v1 : Int32) (v2 : Int32) (v100 : Int32) (v101 : Int32) (m : hM) : hR :=
  zast m 57 0 v101 v100 fun m13 =>
  K11 (v2 + 1) m13
set_option maxRecDepth 20000 in
theorem BX12_layBursts_80 (v1 : Int32) (K11 : Int32 → hM → hR) (K87 : hM → hR) (h11 : ∀ (v2 : Int32) (m : hM), G mX12_layBursts 2 11 [(0, .inr (.inr (40, 0))), (1, .inl v1), (2, .inl v2)] [] m (K11 v2 m)) (h87 : ∀ (m : hM), G mX12_layBursts 2 87 [(0, .inr (.inr (40, 0))), (1, .inl v1)] [] m (K87 m)) (v2 : Int32) (v100 : Int32) (v101 : Int32) (m : hM) : G mX12_layBursts 2 80 [(0, .inr (.inr (40, 0))), (1, .inl v1), (2, .inl v2)] [.inl v100, .inl v101, .inr (.inr (57, 0))] m (JX12_layBursts_80 K11 K87 v1 v2 v100 v101 m) := by
  unfold JX12_layBursts_80
  refine g_zast (kdX12_layBursts 50 rfl) (fun m13 => ?_)
  refine g_iinc (v := v2 + 1) (L2 := [(2, .inl (v2 + 1)), (0, .inr (.inr (40, 0))), (1, .inl v1)]) 2 (kdX12_layBursts 51 rfl) rfl rfl rfl (by decide) ?_
  refine g_goto (tgt := 11) (kdX12_layBursts 52 rfl) (by decide) ?_
  exact g_fgt [1, 2, 0] rfl (h11 (v2 + 1) m13)
def JX12_layBursts_59 (K11 : Int32 → hM → hR) (K87 : hM → hR) (v1 : Int32) (v2 : Int32) (v100 : Int32) (v101 : Int32) (m : hM) : hR :=
  jidiv v2 8 fun x9 =>
  ald m 45 0 3 fun x10 =>
  calI (JX12_has x9 x10 m) fun x12 m11 =>
  if v100 = x12 then (JX12_layBursts_80 K11 K87 v1 v2 0 v101 m11) else (JX12_layBursts_80 K11 K87 v1 v2 1 v101 m11)
set_option maxRecDepth 20000 in
theorem BX12_layBursts_59 (v1 : Int32) (K11 : Int32 → hM → hR) (K87 : hM → hR) (h11 : ∀ (v2 : Int32) (m : hM), G mX12_layBursts 2 11 [(0, .inr (.inr (40, 0))), (1, .inl v1), (2, .inl v2)] [] m (K11 v2 m)) (h87 : ∀ (m : hM), G mX12_layBursts 2 87 [(0, .inr (.inr (40, 0))), (1, .inl v1)] [] m (K87 m)) (v2 : Int32) (v100 : Int32) (v101 : Int32) (m : hM) : G mX12_layBursts 2 59 [(0, .inr (.inr (40, 0))), (1, .inl v1), (2, .inl v2)] [.inl v100, .inl v101, .inr (.inr (57, 0))] m (JX12_layBursts_59 K11 K87 v1 v2 v100 v101 m) := by
  unfold JX12_layBursts_59
  refine g_iload_n 2 (kdX12_layBursts 38 rfl) rfl ?_
  refine g_bipush (v := 8) (kdX12_layBursts 39 rfl) (by decide) ?_
  refine g_idivx (kdX12_layBursts 40 rfl) (fun x9 => ?_)
  refine g_aload_n 0 (kdX12_layBursts 41 rfl) rfl ?_
  refine g_get (v := .inr (.inr (45, 0))) (kdX12_layBursts 42 rfl) fX12_22 rfl ?_
  refine g_iconst (v := 3) (kdX12_layBursts 43 rfl) (by decide) ?_
  refine g_iald (kdX12_layBursts 44 rfl) (fun x10 => ?_)
  refine g_calI (ck_S (As := [.inl x9, .inl x10]) (S := [.inl v100, .inl v101, .inr (.inr (57, 0))]) (kdX12_layBursts 45 rfl) iX12_has lX12_178 rfl rfl rfl (by decide) (by simp only [List.map, vcat, List.sum_cons, List.sum_nil]; decide)) (CX12_has x9 x10 m) (fun x12 m11 => ?_)
  refine g_icmp_eq (tgt := 79) (kdX12_layBursts 46 rfl) (by decide) (fun _ => ?_) (fun _ => ?_)
  · refine g_iconst (v := 0) (kdX12_layBursts 49 rfl) (by decide) ?_
    exact g_fgt [0, 1, 2] rfl (BX12_layBursts_80 v1 _ _ h11 h87 v2 0 v101 m11)
  · refine g_iconst (v := 1) (kdX12_layBursts 47 rfl) (by decide) ?_
    refine g_goto (tgt := 80) (kdX12_layBursts 48 rfl) (by decide) ?_
    exact g_fgt [0, 1, 2] rfl (BX12_layBursts_80 v1 _ _ h11 h87 v2 1 v101 m11)
def bJX12_layBursts_11 (K11 : Int32 → hM → hR) (K87 : hM → hR) (v1 : Int32) (v2 : Int32) (m : hM) : hR :=
  if 512 ≤ v2 then (K87 m) else (zast m 56 0 v2 0 fun m3 =>
  jidiv v2 8 fun x4 =>
  ald m3 50 0 14 fun x5 =>
  jirem v2 8 fun x6 =>
  calI (JX12_weighRow x4 x5 x6 m3) fun x8 m7 =>
  if x8 < 0 then (JX12_layBursts_59 K11 K87 v1 v2 0 v2 m7) else (JX12_layBursts_59 K11 K87 v1 v2 1 v2 m7))
set_option maxRecDepth 20000 in
theorem BbJX12_layBursts_11 (K11 : Int32 → hM → hR) (K87 : hM → hR) (v1 : Int32) (h11 : ∀ (v2 : Int32) (m : hM), G mX12_layBursts 2 11 [(0, .inr (.inr (40, 0))), (1, .inl v1), (2, .inl v2)] [] m (K11 v2 m)) (h87 : ∀ (m : hM), G mX12_layBursts 2 87 [(0, .inr (.inr (40, 0))), (1, .inl v1)] [] m (K87 m)) (v2 : Int32) (m : hM) : G mX12_layBursts 2 11 [(0, .inr (.inr (40, 0))), (1, .inl v1), (2, .inl v2)] [] m (bJX12_layBursts_11 K11 K87 v1 v2 m) := by
  unfold bJX12_layBursts_11
  refine g_iload_n 2 (kdX12_layBursts 9 rfl) rfl ?_
  refine g_sipush (v := 512) (kdX12_layBursts 10 rfl) (by decide) ?_
  refine g_icmp_ge (tgt := 87) (kdX12_layBursts 11 rfl) (by decide) (fun _ => ?_) (fun _ => ?_)
  · exact g_fgt [0, 1] rfl (h87 m)
  · refine g_aload_n 0 (kdX12_layBursts 12 rfl) rfl ?_
    refine g_get (v := .inr (.inr (56, 0))) (kdX12_layBursts 13 rfl) fX12_66 rfl ?_
    refine g_iload_n 2 (kdX12_layBursts 14 rfl) rfl ?_
    refine g_iconst (v := 0) (kdX12_layBursts 15 rfl) (by decide) ?_
    refine g_zast (kdX12_layBursts 16 rfl) (fun m3 => ?_)
    refine g_aload_n 0 (kdX12_layBursts 17 rfl) rfl ?_
    refine g_iload_n 2 (kdX12_layBursts 18 rfl) rfl ?_
    refine g_bipush (v := 8) (kdX12_layBursts 19 rfl) (by decide) ?_
    refine g_idivx (kdX12_layBursts 20 rfl) (fun x4 => ?_)
    refine g_aload_n 0 (kdX12_layBursts 21 rfl) rfl ?_
    refine g_get (v := .inr (.inr (50, 0))) (kdX12_layBursts 22 rfl) fX12_37 rfl ?_
    refine g_bipush (v := 14) (kdX12_layBursts 23 rfl) (by decide) ?_
    refine g_iald (kdX12_layBursts 24 rfl) (fun x5 => ?_)
    refine g_iload_n 2 (kdX12_layBursts 25 rfl) rfl ?_
    refine g_bipush (v := 8) (kdX12_layBursts 26 rfl) (by decide) ?_
    refine g_iremx (kdX12_layBursts 27 rfl) (fun x6 => ?_)
    refine g_calI (ck_V (As := [.inl x4, .inl x5, .inl x6]) (S := []) (t := 40) (o := 0) (kdX12_layBursts 28 rfl) iX12_weighRow lX12_301 rc_40 rfl rfl rfl (by decide) (by simp only [List.map, vcat, List.sum_cons, List.sum_nil]; decide)) (CX12_weighRow x4 x5 x6 m3) (fun x8 m7 => ?_)
    refine g_istore_n (L2 := [(3, .inl x8), (0, .inr (.inr (40, 0))), (1, .inl v1), (2, .inl v2)]) (kdX12_layBursts 29 rfl) rfl (by decide) ?_
    refine g_aload_n 1 (kdX12_layBursts 30 rfl) rfl ?_
    refine g_get (v := .inr (.inr (57, 0))) (kdX12_layBursts 31 rfl) fX12_70 rfl ?_
    refine g_iload_n 3 (kdX12_layBursts 32 rfl) rfl ?_
    refine g_iload_n 0 (kdX12_layBursts 33 rfl) rfl ?_
    refine g_if_lt (tgt := 58) (kdX12_layBursts 34 rfl) (by decide) (fun _ => ?_) (fun _ => ?_)
    · refine g_iconst (v := 0) (kdX12_layBursts 37 rfl) (by decide) ?_
      exact g_fgt [1, 2, 3] rfl (BX12_layBursts_59 v1 _ _ h11 h87 v2 0 v2 m7)
    · refine g_iconst (v := 1) (kdX12_layBursts 35 rfl) (by decide) ?_
      refine g_goto (tgt := 59) (kdX12_layBursts 36 rfl) (by decide) ?_
      exact g_fgt [1, 2, 3] rfl (BX12_layBursts_59 v1 _ _ h11 h87 v2 1 v2 m7)
def JX12_layBursts_11 (K87 : hM → hR) (v1 : Int32) : Nat → Int32 → hM → hR
  | 0, _, _ => none
  | f + 1, v2, m => bJX12_layBursts_11 (fun v2 m => JX12_layBursts_11 K87 v1 f v2 m) K87 v1 v2 m
theorem BJX12_layBursts_11 (K87 : hM → hR) (v1 : Int32) (h87 : ∀ (m : hM), G mX12_layBursts 2 87 [(0, .inr (.inr (40, 0))), (1, .inl v1)] [] m (K87 m)) : ∀ (f : Nat) (v2 : Int32) (m : hM), G mX12_layBursts 2 11 [(0, .inr (.inr (40, 0))), (1, .inl v1), (2, .inl v2)] [] m (JX12_layBursts_11 K87 v1 f v2 m)
  | 0, _, _ => g_none
  | f + 1, v2, m => BbJX12_layBursts_11  _ K87 v1 (fun v2 m => BJX12_layBursts_11  K87 v1 h87 f v2 m) h87 v2 m
def JX12_layBursts_138 (K97 : Int32 → Int32 → hM → hR) (K144 : Int32 → hM → hR) (v1 : Int32) (v2 : Int32) (v3 : Int32) (m : hM) : hR :=
  K97 v2 (v3 + 1) m
set_option maxRecDepth 20000 in
theorem BX12_layBursts_138 (v1 : Int32) (K97 : Int32 → Int32 → hM → hR) (K144 : Int32 → hM → hR) (h97 : ∀ (v2 : Int32) (v3 : Int32) (m : hM), G mX12_layBursts 2 97 [(0, .inr (.inr (40, 0))), (1, .inl v1), (2, .inl v2), (3, .inl v3)] [] m (K97 v2 v3 m)) (h144 : ∀ (v2 : Int32) (m : hM), G mX12_layBursts 2 144 [(0, .inr (.inr (40, 0))), (1, .inl v1), (2, .inl v2)] [] m (K144 v2 m)) (v2 : Int32) (v3 : Int32) (m : hM) : G mX12_layBursts 2 138 [(0, .inr (.inr (40, 0))), (1, .inl v1), (2, .inl v2), (3, .inl v3)] [] m (JX12_layBursts_138 K97 K144 v1 v2 v3 m) := by
  unfold JX12_layBursts_138
  refine g_iinc (v := v3 + 1) (L2 := [(3, .inl (v3 + 1)), (0, .inr (.inr (40, 0))), (1, .inl v1), (2, .inl v2)]) 3 (kdX12_layBursts 84 rfl) rfl rfl rfl (by decide) ?_
  refine g_goto (tgt := 97) (kdX12_layBursts 85 rfl) (by decide) ?_
  exact g_fgt [1, 2, 3, 0] rfl (h97 v2 (v3 + 1) m)
def bJX12_layBursts_97 (K97 : Int32 → Int32 → hM → hR) (K144 : Int32 → hM → hR) (v1 : Int32) (v2 : Int32) (v3 : Int32) (m : hM) : hR :=
  if 512 ≤ v3 then (K144 v2 m) else (jirem v3 8 fun x15 =>
  if x15 ≤ 0 then (JX12_layBursts_138 K97 K144 v1 v2 v3 m) else (jirem v3 8 fun x16 =>
  if v1 ≤ x16 then (JX12_layBursts_138 K97 K144 v1 v2 v3 m) else (zald m 56 0 v3 fun x17 =>
  if x17 = 0 then (calI (JX12_tryState v3 m) fun x19 m18 =>
  if x19 = 0 then (JX12_layBursts_138 K97 K144 v1 v2 v3 m18) else (JX12_layBursts_138 K97 K144 v1 1 v3 m18)) else (JX12_layBursts_138 K97 K144 v1 v2 v3 m))))
set_option maxRecDepth 20000 in
theorem BbJX12_layBursts_97 (K97 : Int32 → Int32 → hM → hR) (K144 : Int32 → hM → hR) (v1 : Int32) (h97 : ∀ (v2 : Int32) (v3 : Int32) (m : hM), G mX12_layBursts 2 97 [(0, .inr (.inr (40, 0))), (1, .inl v1), (2, .inl v2), (3, .inl v3)] [] m (K97 v2 v3 m)) (h144 : ∀ (v2 : Int32) (m : hM), G mX12_layBursts 2 144 [(0, .inr (.inr (40, 0))), (1, .inl v1), (2, .inl v2)] [] m (K144 v2 m)) (v2 : Int32) (v3 : Int32) (m : hM) : G mX12_layBursts 2 97 [(0, .inr (.inr (40, 0))), (1, .inl v1), (2, .inl v2), (3, .inl v3)] [] m (bJX12_layBursts_97 K97 K144 v1 v2 v3 m) := by
  unfold bJX12_layBursts_97
  refine g_iload_n 3 (kdX12_layBursts 61 rfl) rfl ?_
  refine g_sipush (v := 512) (kdX12_layBursts 62 rfl) (by decide) ?_
  refine g_icmp_ge (tgt := 144) (kdX12_layBursts 63 rfl) (by decide) (fun _ => ?_) (fun _ => ?_)
  · exact g_fgt [0, 1, 2] rfl (h144 v2 m)
  · refine g_iload_n 3 (kdX12_layBursts 64 rfl) rfl ?_
    refine g_bipush (v := 8) (kdX12_layBursts 65 rfl) (by decide) ?_
    refine g_iremx (kdX12_layBursts 66 rfl) (fun x15 => ?_)
    refine g_if_le (tgt := 138) (kdX12_layBursts 67 rfl) (by decide) (fun _ => ?_) (fun _ => ?_)
    · exact g_fgt [0, 1, 2, 3] rfl (BX12_layBursts_138 v1 _ _ h97 h144 v2 v3 m)
    · refine g_iload_n 3 (kdX12_layBursts 68 rfl) rfl ?_
      refine g_bipush (v := 8) (kdX12_layBursts 69 rfl) (by decide) ?_
      refine g_iremx (kdX12_layBursts 70 rfl) (fun x16 => ?_)
      refine g_iload_n 1 (kdX12_layBursts 71 rfl) rfl ?_
      refine g_icmp_ge (tgt := 138) (kdX12_layBursts 72 rfl) (by decide) (fun _ => ?_) (fun _ => ?_)
      · exact g_fgt [0, 1, 2, 3] rfl (BX12_layBursts_138 v1 _ _ h97 h144 v2 v3 m)
      · refine g_aload_n 0 (kdX12_layBursts 73 rfl) rfl ?_
        refine g_get (v := .inr (.inr (56, 0))) (kdX12_layBursts 74 rfl) fX12_66 rfl ?_
        refine g_iload_n 3 (kdX12_layBursts 75 rfl) rfl ?_
        refine g_zald (kdX12_layBursts 76 rfl) (fun x17 => ?_)
        refine g_if_ne (tgt := 138) (kdX12_layBursts 77 rfl) (by decide) (fun _ => ?_) (fun _ => ?_)
        · exact g_fgt [0, 1, 2, 3] rfl (BX12_layBursts_138 v1 _ _ h97 h144 v2 v3 m)
        · refine g_aload_n 0 (kdX12_layBursts 78 rfl) rfl ?_
          refine g_iload_n 3 (kdX12_layBursts 79 rfl) rfl ?_
          refine g_calI (ck_V (As := [.inl v3]) (S := []) (t := 40) (o := 0) (kdX12_layBursts 80 rfl) iX12_tryState lX12_377 rc_40 rfl rfl rfl (by decide) (by simp only [List.map, vcat, List.sum_cons, List.sum_nil]; decide)) (CX12_tryState v3 m) (fun x19 m18 => ?_)
          refine g_if_eq (tgt := 138) (kdX12_layBursts 81 rfl) (by decide) (fun _ => ?_) (fun _ => ?_)
          · exact g_fgt [0, 1, 2, 3] rfl (BX12_layBursts_138 v1 _ _ h97 h144 v2 v3 m18)
          · refine g_iconst (v := 1) (kdX12_layBursts 82 rfl) (by decide) ?_
            refine g_istore_n (L2 := [(2, .inl 1), (0, .inr (.inr (40, 0))), (1, .inl v1), (3, .inl v3)]) (kdX12_layBursts 83 rfl) rfl (by decide) ?_
            exact g_fgt [1, 2, 0, 3] rfl (BX12_layBursts_138 v1 _ _ h97 h144 1 v3 m18)
def JX12_layBursts_97 (K144 : Int32 → hM → hR) (v1 : Int32) : Nat → Int32 → Int32 → hM → hR
  | 0, _, _, _ => none
  | f + 1, v2, v3, m => bJX12_layBursts_97 (fun v2 v3 m => JX12_layBursts_97 K144 v1 f v2 v3 m) K144 v1 v2 v3 m
theorem BJX12_layBursts_97 (K144 : Int32 → hM → hR) (v1 : Int32) (h144 : ∀ (v2 : Int32) (m : hM), G mX12_layBursts 2 144 [(0, .inr (.inr (40, 0))), (1, .inl v1), (2, .inl v2)] [] m (K144 v2 m)) : ∀ (f : Nat) (v2 : Int32) (v3 : Int32) (m : hM), G mX12_layBursts 2 97 [(0, .inr (.inr (40, 0))), (1, .inl v1), (2, .inl v2), (3, .inl v3)] [] m (JX12_layBursts_97 K144 v1 f v2 v3 m)
  | 0, _, _, _ => g_none
  | f + 1, v2, v3, m => BbJX12_layBursts_97  _ K144 v1 (fun v2 v3 m => BJX12_layBursts_97  K144 v1 h144 f v2 v3 m) h144 v2 v3 m
def bJX12_layBursts_89 (K89 : Int32 → hM → hR) (K147 : hM → hR) (v1 : Int32) (v2 : Int32) (m : hM) : hR :=
  if v2 = 0 then (K147 m) else (JX12_layBursts_97 (fun v2 m20 => K89 v2 m20) v1 FU 0 0 m)
set_option maxRecDepth 20000 in
theorem BbJX12_layBursts_89 (K89 : Int32 → hM → hR) (K147 : hM → hR) (v1 : Int32) (h89 : ∀ (v2 : Int32) (m : hM), G mX12_layBursts 2 89 [(0, .inr (.inr (40, 0))), (1, .inl v1), (2, .inl v2)] [] m (K89 v2 m)) (h147 : ∀ (m : hM), G mX12_layBursts 2 147 [] [] m (K147 m)) (v2 : Int32) (m : hM) : G mX12_layBursts 2 89 [(0, .inr (.inr (40, 0))), (1, .inl v1), (2, .inl v2)] [] m (bJX12_layBursts_89 K89 K147 v1 v2 m) := by
  unfold bJX12_layBursts_89
  refine g_iload_n 2 (kdX12_layBursts 55 rfl) rfl ?_
  refine g_if_eq (tgt := 147) (kdX12_layBursts 56 rfl) (by decide) (fun _ => ?_) (fun _ => ?_)
  · exact g_fgt [] rfl (h147 m)
  · refine g_iconst (v := 0) (kdX12_layBursts 57 rfl) (by decide) ?_
    refine g_istore_n (L2 := [(2, .inl 0), (0, .inr (.inr (40, 0))), (1, .inl v1)]) (kdX12_layBursts 58 rfl) rfl (by decide) ?_
    refine g_iconst (v := 0) (kdX12_layBursts 59 rfl) (by decide) ?_
    refine g_istore_n (L2 := [(3, .inl 0), (2, .inl 0), (0, .inr (.inr (40, 0))), (1, .inl v1)]) (kdX12_layBursts 60 rfl) rfl (by decide) ?_
    refine g_fgt [2, 3, 1, 0] rfl (BJX12_layBursts_97  _ v1 ?_ FU 0 0 m)
    · intro v2 m20
      refine g_goto (tgt := 89) (kdX12_layBursts 86 rfl) (by decide) ?_
      exact g_fgt [0, 1, 2] rfl (h89 v2 m20)
def JX12_layBursts_89 (K147 : hM → hR) (v1 : Int32) : Nat → Int32 → hM → hR
  | 0, _, _ => none
  | f + 1, v2, m => bJX12_layBursts_89 (fun v2 m => JX12_layBursts_89 K147 v1 f v2 m) K147 v1 v2 m
theorem BJX12_layBursts_89 (K147 : hM → hR) (v1 : Int32) (h147 : ∀ (m : hM), G mX12_layBursts 2 147 [] [] m (K147 m)) : ∀ (f : Nat) (v2 : Int32) (m : hM), G mX12_layBursts 2 89 [(0, .inr (.inr (40, 0))), (1, .inl v1), (2, .inl v2)] [] m (JX12_layBursts_89 K147 v1 f v2 m)
  | 0, _, _ => g_none
  | f + 1, v2, m => BbJX12_layBursts_89  _ K147 v1 (fun v2 m => BJX12_layBursts_89  K147 v1 h147 f v2 m) h147 v2 m
def JX12_layBursts  (m : hM) : hR :=
  ald m 45 0 2 fun x1 =>
  lt ((1 : Int32) <<< (x1 &&& 31)) fun x2 =>
  JX12_layBursts_11 (fun m14 => JX12_layBursts_89 (fun m21 => some (none, m21)) x2 FU 1 m14) x2 FU 0 m
set_option maxRecDepth 20000 in
theorem CX12_layBursts  (m : hM) : Cn mX12_layBursts 2 [.inr (.inr (40, 0))] m (JX12_layBursts  m) := by
  refine cn_of (by decide +kernel) (by simp only [List.map, vcat, List.sum_cons, List.sum_nil]; decide) ?_
  unfold JX12_layBursts
  show G mX12_layBursts 2 0 [(0, .inr (.inr (40, 0)))] [] m _
  refine g_iconst (v := 1) (kdX12_layBursts 0 rfl) (by decide) ?_
  refine g_aload_n 0 (kdX12_layBursts 1 rfl) rfl ?_
  refine g_get (v := .inr (.inr (45, 0))) (kdX12_layBursts 2 rfl) fX12_22 rfl ?_
  refine g_iconst (v := 2) (kdX12_layBursts 3 rfl) (by decide) ?_
  refine g_iald (kdX12_layBursts 4 rfl) (fun x1 => ?_)
  refine g_ishl (kdX12_layBursts 5 rfl) ?_
  refine g_lt (fun x2 => ?_)
  refine g_istore_n (L2 := [(1, .inl x2), (0, .inr (.inr (40, 0)))]) (kdX12_layBursts 6 rfl) rfl (by decide) ?_
  refine g_iconst (v := 0) (kdX12_layBursts 7 rfl) (by decide) ?_
  refine g_istore_n (L2 := [(2, .inl 0), (1, .inl x2), (0, .inr (.inr (40, 0)))]) (kdX12_layBursts 8 rfl) rfl (by decide) ?_
  refine g_fgt [2, 1, 0] rfl (BJX12_layBursts_11  _ x2 ?_ FU 0 m)
  · intro m14
    refine g_iconst (v := 1) (kdX12_layBursts 53 rfl) (by decide) ?_
    refine g_istore_n (L2 := [(2, .inl 1), (0, .inr (.inr (40, 0))), (1, .inl x2)]) (kdX12_layBursts 54 rfl) rfl (by decide) ?_
    refine g_fgt [1, 2, 0] rfl (BJX12_layBursts_89  _ x2 ?_ FU 1 m14)
    · intro m21
      exact g_vret rfl (kdX12_layBursts 87 rfl)
def JX12_burstOf (a1 : Int32) (a2 : Int32) (m : hM) : hR :=
  ald m 45 0 2 fun x1 =>
  if x1 = 0 then (some (some (.inl a2), m)) else (lt ((8 * a1) + 1) fun x2 =>
  zald m 56 0 x2 fun x3 =>
  if x3 = 0 then (some (some (.inl (-1)), m)) else (if a2 = 0 then (ald m 54 0 x2 fun x5 =>
  some (some (.inl x5), m)) else (ald m 55 0 x2 fun x4 =>
  some (some (.inl (1 + x4)), m))))
set_option maxRecDepth 20000 in
theorem CX12_burstOf (a1 : Int32) (a2 : Int32) (m : hM) : Cn mX12_burstOf 0 [.inr (.inr (40, 0)), .inl a1, .inl a2] m (JX12_burstOf a1 a2 m) := by
  refine cn_of (by decide +kernel) (by simp only [List.map, vcat, List.sum_cons, List.sum_nil]; decide) ?_
  unfold JX12_burstOf
  show G mX12_burstOf 0 0 [(0, .inr (.inr (40, 0))), (1, .inl a1), (2, .inl a2)] [] m _
  refine g_aload_n 0 (kdX12_burstOf 0 rfl) rfl ?_
  refine g_get (v := .inr (.inr (45, 0))) (kdX12_burstOf 1 rfl) fX12_22 rfl ?_
  refine g_iconst (v := 2) (kdX12_burstOf 2 rfl) (by decide) ?_
  refine g_iald (kdX12_burstOf 3 rfl) (fun x1 => ?_)
  refine g_if_ne (tgt := 11) (kdX12_burstOf 4 rfl) (by decide) (fun _ => ?_) (fun _ => ?_)
  · refine g_bipush (v := 8) (kdX12_burstOf 7 rfl) (by decide) ?_
    refine g_iload_n 1 (kdX12_burstOf 8 rfl) rfl ?_
    refine g_imul (kdX12_burstOf 9 rfl) ?_
    refine g_iconst (v := 1) (kdX12_burstOf 10 rfl) (by decide) ?_
    refine g_iadd (kdX12_burstOf 11 rfl) ?_
    refine g_lt (fun x2 => ?_)
    refine g_istore_n (L2 := [(3, .inl x2), (0, .inr (.inr (40, 0))), (1, .inl a1), (2, .inl a2)]) (kdX12_burstOf 12 rfl) rfl (by decide) ?_
    refine g_aload_n 1 (kdX12_burstOf 13 rfl) rfl ?_
    refine g_get (v := .inr (.inr (56, 0))) (kdX12_burstOf 14 rfl) fX12_66 rfl ?_
    refine g_iload_n 0 (kdX12_burstOf 15 rfl) rfl ?_
    refine g_zald (kdX12_burstOf 16 rfl) (fun x3 => ?_)
    refine g_if_ne (tgt := 31) (kdX12_burstOf 17 rfl) (by decide) (fun _ => ?_) (fun _ => ?_)
    · refine g_iload_n 3 (kdX12_burstOf 20 rfl) rfl ?_
      refine g_if_ne (tgt := 44) (kdX12_burstOf 21 rfl) (by decide) (fun _ => ?_) (fun _ => ?_)
      · refine g_iconst (v := 1) (kdX12_burstOf 27 rfl) (by decide) ?_
        refine g_aload_n 1 (kdX12_burstOf 28 rfl) rfl ?_
        refine g_get (v := .inr (.inr (55, 0))) (kdX12_burstOf 29 rfl) fX12_63 rfl ?_
        refine g_iload_n 0 (kdX12_burstOf 30 rfl) rfl ?_
        refine g_iald (kdX12_burstOf 31 rfl) (fun x4 => ?_)
        refine g_iadd (kdX12_burstOf 32 rfl) ?_
        exact g_iret rfl (kdX12_burstOf 33 rfl)
      · refine g_aload_n 1 (kdX12_burstOf 22 rfl) rfl ?_
        refine g_get (v := .inr (.inr (54, 0))) (kdX12_burstOf 23 rfl) fX12_60 rfl ?_
        refine g_iload_n 0 (kdX12_burstOf 24 rfl) rfl ?_
        refine g_iald (kdX12_burstOf 25 rfl) (fun x5 => ?_)
        refine g_goto (tgt := 52) (kdX12_burstOf 26 rfl) (by decide) ?_
        exact g_iret rfl (kdX12_burstOf 33 rfl)
    · refine g_iconst (v := (-1)) (kdX12_burstOf 18 rfl) (by decide) ?_
      refine g_goto (tgt := 52) (kdX12_burstOf 19 rfl) (by decide) ?_
      exact g_iret rfl (kdX12_burstOf 33 rfl)
  · refine g_iload_n 2 (kdX12_burstOf 5 rfl) rfl ?_
    exact g_iret rfl (kdX12_burstOf 6 rfl)
def JX12_burst (a1 : Int32) (a2 : Int32) (m : hM) : hR :=
  if (m.1 40 0 15) = 0 then (some (some (.inl (-1)), m)) else (calI (JX12_in a1 0 63 m) fun x2 m1 =>
  if x2 = 0 then (some (some (.inl (-1)), m1)) else (calI (JX12_in a2 0 1 m1) fun x4 m3 =>
  if x4 = 0 then (some (some (.inl (-1)), m3)) else (calV (JX12_layBursts m3) fun m5 =>
  calI (JX12_burstOf a1 a2 m5) fun x7 m6 =>
  if x7 = (-1) then (some (some (.inl (-1000000000)), m6)) else (some (some (.inl x7), m6)))))
set_option maxRecDepth 20000 in
theorem CX12_burst (a1 : Int32) (a2 : Int32) (m : hM) : Cn mX12_burst 3 [.inr (.inr (40, 0)), .inl a1, .inl a2] m (JX12_burst a1 a2 m) := by
  refine cn_of (by decide +kernel) (by simp only [List.map, vcat, List.sum_cons, List.sum_nil]; decide) ?_
  unfold JX12_burst
  show G mX12_burst 3 0 [(0, .inr (.inr (40, 0))), (1, .inl a1), (2, .inl a2)] [] m _
  refine g_aload_n 0 (kdX12_burst 0 rfl) rfl ?_
  refine g_get (v := .inl (m.1 40 0 15)) (kdX12_burst 1 rfl) fX12_203 rfl ?_
  refine g_if_eq (tgt := 26) (kdX12_burst 2 rfl) (by decide) (fun _ => ?_) (fun _ => ?_)
  · refine g_iconst (v := (-1)) (kdX12_burst 13 rfl) (by decide) ?_
    exact g_iret rfl (kdX12_burst 14 rfl)
  · refine g_iload_n 1 (kdX12_burst 3 rfl) rfl ?_
    refine g_iconst (v := 0) (kdX12_burst 4 rfl) (by decide) ?_
    refine g_bipush (v := 63) (kdX12_burst 5 rfl) (by decide) ?_
    refine g_calI (ck_S (As := [.inl a1, .inl 0, .inl 63]) (S := []) (kdX12_burst 6 rfl) iX12_in lX12_89 rfl rfl rfl (by decide) (by simp only [List.map, vcat, List.sum_cons, List.sum_nil]; decide)) (CX12_in a1 0 63 m) (fun x2 m1 => ?_)
    refine g_if_eq (tgt := 26) (kdX12_burst 7 rfl) (by decide) (fun _ => ?_) (fun _ => ?_)
    · refine g_iconst (v := (-1)) (kdX12_burst 13 rfl) (by decide) ?_
      exact g_iret rfl (kdX12_burst 14 rfl)
    · refine g_iload_n 2 (kdX12_burst 8 rfl) rfl ?_
      refine g_iconst (v := 0) (kdX12_burst 9 rfl) (by decide) ?_
      refine g_iconst (v := 1) (kdX12_burst 10 rfl) (by decide) ?_
      refine g_calI (ck_S (As := [.inl a2, .inl 0, .inl 1]) (S := []) (kdX12_burst 11 rfl) iX12_in lX12_89 rfl rfl rfl (by decide) (by simp only [List.map, vcat, List.sum_cons, List.sum_nil]; decide)) (CX12_in a2 0 1 m1) (fun x4 m3 => ?_)
      refine g_if_ne (tgt := 28) (kdX12_burst 12 rfl) (by decide) (fun _ => ?_) (fun _ => ?_)
      · refine g_aload_n 0 (kdX12_burst 15 rfl) rfl ?_
        refine g_calV (ck_V (As := []) (S := []) (t := 40) (o := 0) (kdX12_burst 16 rfl) iX12_layBursts lX12_380 rc_40 rfl rfl rfl (by decide) (by simp only [List.map, vcat, List.sum_cons, List.sum_nil]; decide)) (CX12_layBursts m3) (fun m5 => ?_)
        refine g_aload_n 0 (kdX12_burst 17 rfl) rfl ?_
        refine g_iload_n 1 (kdX12_burst 18 rfl) rfl ?_
        refine g_iload_n 2 (kdX12_burst 19 rfl) rfl ?_
        refine g_calI (ck_V (As := [.inl a1, .inl a2]) (S := []) (t := 40) (o := 0) (kdX12_burst 20 rfl) iX12_burstOf lX12_383 rc_40 rfl rfl rfl (by decide) (by simp only [List.map, vcat, List.sum_cons, List.sum_nil]; decide)) (CX12_burstOf a1 a2 m5) (fun x7 m6 => ?_)
        refine g_istore_n (L2 := [(3, .inl x7), (0, .inr (.inr (40, 0))), (1, .inl a1), (2, .inl a2)]) (kdX12_burst 21 rfl) rfl (by decide) ?_
        refine g_iload_n 0 (kdX12_burst 22 rfl) rfl ?_
        refine g_iconst (v := (-1)) (kdX12_burst 23 rfl) (by decide) ?_
        refine g_icmp_ne (tgt := 49) (kdX12_burst 24 rfl) (by decide) (fun _ => ?_) (fun _ => ?_)
        · refine g_iload_n 0 (kdX12_burst 27 rfl) rfl ?_
          exact g_iret rfl (kdX12_burst 28 rfl)
        · refine g_ldc (kdX12_burst 25 rfl) cX12_50 ?_
          refine g_goto (tgt := 50) (kdX12_burst 26 rfl) (by decide) ?_
          exact g_iret rfl (kdX12_burst 28 rfl)
      · refine g_iconst (v := (-1)) (kdX12_burst 13 rfl) (by decide) ?_
        exact g_iret rfl (kdX12_burst 14 rfl)
def JX12_bursts_60 (K17 : Int32 → Int32 → hM → hR) (K67 : Int32 → hM → hR) (v2 : Int32) (v100 : Int32) (m : hM) : hR :=
  K17 v100 (v2 + 1) m
set_option maxRecDepth 20000 in
theorem BX12_bursts_60 (K17 : Int32 → Int32 → hM → hR) (K67 : Int32 → hM → hR) (h17 : ∀ (v1 : Int32) (v2 : Int32) (m : hM), G mX12_bursts 3 17 [(0, .inr (.inr (40, 0))), (1, .inl v1), (2, .inl v2)] [] m (K17 v1 v2 m)) (h67 : ∀ (v1 : Int32) (m : hM), G mX12_bursts 3 67 [(1, .inl v1)] [] m (K67 v1 m)) (v2 : Int32) (v100 : Int32) (m : hM) : G mX12_bursts 3 60 [(0, .inr (.inr (40, 0))), (2, .inl v2)] [.inl v100] m (JX12_bursts_60 K17 K67 v2 v100 m) := by
  unfold JX12_bursts_60
  refine g_istore_n (L2 := [(1, .inl v100), (0, .inr (.inr (40, 0))), (2, .inl v2)]) (kdX12_bursts 36 rfl) rfl (by decide) ?_
  refine g_iinc (v := v2 + 1) (L2 := [(2, .inl (v2 + 1)), (1, .inl v100), (0, .inr (.inr (40, 0)))]) 2 (kdX12_bursts 37 rfl) rfl rfl rfl (by decide) ?_
  refine g_goto (tgt := 17) (kdX12_bursts 38 rfl) (by decide) ?_
  exact g_fgt [2, 1, 0] rfl (h17 v100 (v2 + 1) m)
def JX12_bursts_59 (K17 : Int32 → Int32 → hM → hR) (K67 : Int32 → hM → hR) (v1 : Int32) (v2 : Int32) (m : hM) : hR :=
  JX12_bursts_60 K17 K67 v2 v1 m
set_option maxRecDepth 20000 in
theorem BX12_bursts_59 (K17 : Int32 → Int32 → hM → hR) (K67 : Int32 → hM → hR) (h17 : ∀ (v1 : Int32) (v2 : Int32) (m : hM), G mX12_bursts 3 17 [(0, .inr (.inr (40, 0))), (1, .inl v1), (2, .inl v2)] [] m (K17 v1 v2 m)) (h67 : ∀ (v1 : Int32) (m : hM), G mX12_bursts 3 67 [(1, .inl v1)] [] m (K67 v1 m)) (v1 : Int32) (v2 : Int32) (m : hM) : G mX12_bursts 3 59 [(0, .inr (.inr (40, 0))), (1, .inl v1), (2, .inl v2)] [] m (JX12_bursts_59 K17 K67 v1 v2 m) := by
  unfold JX12_bursts_59
  refine g_iload_n 1 (kdX12_bursts 35 rfl) rfl ?_
  exact g_fgt [0, 2] rfl (BX12_bursts_60 _ _ h17 h67 v2 v1 m)
def JX12_bursts_55 (K17 : Int32 → Int32 → hM → hR) (K67 : Int32 → hM → hR) (v2 : Int32) (m : hM) : hR :=
  JX12_bursts_60 K17 K67 v2 v2 m
set_option maxRecDepth 20000 in
theorem BX12_bursts_55 (K17 : Int32 → Int32 → hM → hR) (K67 : Int32 → hM → hR) (h17 : ∀ (v1 : Int32) (v2 : Int32) (m : hM), G mX12_bursts 3 17 [(0, .inr (.inr (40, 0))), (1, .inl v1), (2, .inl v2)] [] m (K17 v1 v2 m)) (h67 : ∀ (v1 : Int32) (m : hM), G mX12_bursts 3 67 [(1, .inl v1)] [] m (K67 v1 m)) (v2 : Int32) (m : hM) : G mX12_bursts 3 55 [(0, .inr (.inr (40, 0))), (2, .inl v2)] [] m (JX12_bursts_55 K17 K67 v2 m) := by
  unfold JX12_bursts_55
  refine g_iload_n 1 (kdX12_bursts 33 rfl) rfl ?_
  refine g_goto (tgt := 60) (kdX12_bursts 34 rfl) (by decide) ?_
  exact g_fgt [0, 1] rfl (BX12_bursts_60 _ _ h17 h67 v2 v2 m)
def bJX12_bursts_17 (K17 : Int32 → Int32 → hM → hR) (K67 : Int32 → hM → hR) (v1 : Int32) (v2 : Int32) (m : hM) : hR :=
  if 64 ≤ v2 then (K67 v1 m) else (calI (JX12_burstOf v2 0 m) fun x3 m2 =>
  calI (JX12_burstOf v1 0 m2) fun x5 m4 =>
  if x5 = (-1) then (JX12_bursts_59 K17 K67 v1 v2 m4) else (if x3 = (-1) then (JX12_bursts_55 K17 K67 v2 m4) else (if x3 ≤ x5 then (JX12_bursts_59 K17 K67 v1 v2 m4) else (JX12_bursts_55 K17 K67 v2 m4))))
set_option maxRecDepth 20000 in
theorem BbJX12_bursts_17 (K17 : Int32 → Int32 → hM → hR) (K67 : Int32 → hM → hR) (h17 : ∀ (v1 : Int32) (v2 : Int32) (m : hM), G mX12_bursts 3 17 [(0, .inr (.inr (40, 0))), (1, .inl v1), (2, .inl v2)] [] m (K17 v1 v2 m)) (h67 : ∀ (v1 : Int32) (m : hM), G mX12_bursts 3 67 [(1, .inl v1)] [] m (K67 v1 m)) (v1 : Int32) (v2 : Int32) (m : hM) : G mX12_bursts 3 17 [(0, .inr (.inr (40, 0))), (1, .inl v1), (2, .inl v2)] [] m (bJX12_bursts_17 K17 K67 v1 v2 m) := by
  unfold bJX12_bursts_17
  refine g_iload_n 2 (kdX12_bursts 11 rfl) rfl ?_
  refine g_bipush (v := 64) (kdX12_bursts 12 rfl) (by decide) ?_
  refine g_icmp_ge (tgt := 67) (kdX12_bursts 13 rfl) (by decide) (fun _ => ?_) (fun _ => ?_)
  · exact g_fgt [1] rfl (h67 v1 m)
  · refine g_aload_n 0 (kdX12_bursts 14 rfl) rfl ?_
    refine g_iload_n 2 (kdX12_bursts 15 rfl) rfl ?_
    refine g_iconst (v := 0) (kdX12_bursts 16 rfl) (by decide) ?_
    refine g_calI (ck_V (As := [.inl v2, .inl 0]) (S := []) (t := 40) (o := 0) (kdX12_bursts 17 rfl) iX12_burstOf lX12_383 rc_40 rfl rfl rfl (by decide) (by simp only [List.map, vcat, List.sum_cons, List.sum_nil]; decide)) (CX12_burstOf v2 0 m) (fun x3 m2 => ?_)
    refine g_istore_n (L2 := [(3, .inl x3), (0, .inr (.inr (40, 0))), (1, .inl v1), (2, .inl v2)]) (kdX12_bursts 18 rfl) rfl (by decide) ?_
    refine g_aload_n 1 (kdX12_bursts 19 rfl) rfl ?_
    refine g_iload_n 2 (kdX12_bursts 20 rfl) rfl ?_
    refine g_iconst (v := 0) (kdX12_bursts 21 rfl) (by decide) ?_
    refine g_calI (ck_V (As := [.inl v1, .inl 0]) (S := []) (t := 40) (o := 0) (kdX12_bursts 22 rfl) iX12_burstOf lX12_383 rc_40 rfl rfl rfl (by decide) (by simp only [List.map, vcat, List.sum_cons, List.sum_nil]; decide)) (CX12_burstOf v1 0 m2) (fun x5 m4 => ?_)
    refine g_istore (L2 := [(4, .inl x5), (3, .inl x3), (0, .inr (.inr (40, 0))), (1, .inl v1), (2, .inl v2)]) (kdX12_bursts 23 rfl) rfl (by decide) ?_
    refine g_iload 0 (kdX12_bursts 24 rfl) rfl ?_
    refine g_iconst (v := (-1)) (kdX12_bursts 25 rfl) (by decide) ?_
    refine g_icmp_eq (tgt := 59) (kdX12_bursts 26 rfl) (by decide) (fun _ => ?_) (fun _ => ?_)
    · exact g_fgt [2, 3, 4] rfl (BX12_bursts_59 _ _ h17 h67 v1 v2 m4)
    · refine g_iload_n 1 (kdX12_bursts 27 rfl) rfl ?_
      refine g_iconst (v := (-1)) (kdX12_bursts 28 rfl) (by decide) ?_
      refine g_icmp_eq (tgt := 55) (kdX12_bursts 29 rfl) (by decide) (fun _ => ?_) (fun _ => ?_)
      · exact g_fgt [2, 4] rfl (BX12_bursts_55 _ _ h17 h67 v2 m4)
      · refine g_iload_n 1 (kdX12_bursts 30 rfl) rfl ?_
        refine g_iload 0 (kdX12_bursts 31 rfl) rfl ?_
        refine g_icmp_le (tgt := 59) (kdX12_bursts 32 rfl) (by decide) (fun _ => ?_) (fun _ => ?_)
        · exact g_fgt [2, 3, 4] rfl (BX12_bursts_59 _ _ h17 h67 v1 v2 m4)
        · exact g_fgt [2, 4] rfl (BX12_bursts_55 _ _ h17 h67 v2 m4)
def JX12_bursts_17 (K67 : Int32 → hM → hR) : Nat → Int32 → Int32 → hM → hR
  | 0, _, _, _ => none
  | f + 1, v1, v2, m => bJX12_bursts_17 (fun v1 v2 m => JX12_bursts_17 K67  f v1 v2 m) K67  v1 v2 m
theorem BJX12_bursts_17 (K67 : Int32 → hM → hR) (h67 : ∀ (v1 : Int32) (m : hM), G mX12_bursts 3 67 [(1, .inl v1)] [] m (K67 v1 m)) : ∀ (f : Nat) (v1 : Int32) (v2 : Int32) (m : hM), G mX12_bursts 3 17 [(0, .inr (.inr (40, 0))), (1, .inl v1), (2, .inl v2)] [] m (JX12_bursts_17 K67  f v1 v2 m)
  | 0, _, _, _ => g_none
  | f + 1, v1, v2, m => BbJX12_bursts_17  _ K67  (fun v1 v2 m => BJX12_bursts_17  K67  h67 f v1 v2 m) h67 v1 v2 m
def JX12_bursts  (m : hM) : hR :=
  if (m.1 40 0 15) = 0 then (some (some (.inl (-1)), m)) else (calV (JX12_layBursts m) fun m1 =>
  JX12_bursts_17 (fun v1 m6 => some (some (.inl v1), m6))  FU 0 1 m1)
set_option maxRecDepth 20000 in
theorem CX12_bursts  (m : hM) : Cn mX12_bursts 3 [.inr (.inr (40, 0))] m (JX12_bursts  m) := by
  refine cn_of (by decide +kernel) (by simp only [List.map, vcat, List.sum_cons, List.sum_nil]; decide) ?_
  unfold JX12_bursts
  show G mX12_bursts 3 0 [(0, .inr (.inr (40, 0)))] [] m _
  refine g_aload_n 0 (kdX12_bursts 0 rfl) rfl ?_
  refine g_get (v := .inl (m.1 40 0 15)) (kdX12_bursts 1 rfl) fX12_203 rfl ?_
  refine g_if_ne (tgt := 9) (kdX12_bursts 2 rfl) (by decide) (fun _ => ?_) (fun _ => ?_)
  · refine g_aload_n 0 (kdX12_bursts 5 rfl) rfl ?_
    refine g_calV (ck_V (As := []) (S := []) (t := 40) (o := 0) (kdX12_bursts 6 rfl) iX12_layBursts lX12_380 rc_40 rfl rfl rfl (by decide) (by simp only [List.map, vcat, List.sum_cons, List.sum_nil]; decide)) (CX12_layBursts m) (fun m1 => ?_)
    refine g_iconst (v := 0) (kdX12_bursts 7 rfl) (by decide) ?_
    refine g_istore_n (L2 := [(1, .inl 0), (0, .inr (.inr (40, 0)))]) (kdX12_bursts 8 rfl) rfl (by decide) ?_
    refine g_iconst (v := 1) (kdX12_bursts 9 rfl) (by decide) ?_
    refine g_istore_n (L2 := [(2, .inl 1), (1, .inl 0), (0, .inr (.inr (40, 0)))]) (kdX12_bursts 10 rfl) rfl (by decide) ?_
    refine g_fgt [2, 1, 0] rfl (BJX12_bursts_17  _  ?_ FU 0 1 m1)
    · intro v1 m6
      refine g_iload_n 0 (kdX12_bursts 39 rfl) rfl ?_
      exact g_iret rfl (kdX12_bursts 40 rfl)
  · refine g_iconst (v := (-1)) (kdX12_bursts 3 rfl) (by decide) ?_
    exact g_iret rfl (kdX12_bursts 4 rfl)
def JX12_unrolled_91 (K48 : Int32 → Int32 → hM → hR) (K100 : Int32 → hM → hR) (v1 : Int32) (v3 : Int32) (v100 : Int32) (v101 : Int32) (v102 : Int32) (m : hM) : hR :=
  lt (v102 - (v101 * v100)) fun x10 =>
  K48 x10 (v3 + 1) m
set_option maxRecDepth 20000 in
theorem BX12_unrolled_91 (v1 : Int32) (K48 : Int32 → Int32 → hM → hR) (K100 : Int32 → hM → hR) (h48 : ∀ (v2 : Int32) (v3 : Int32) (m : hM), G mX12_unrolled 1 48 [(0, .inr (.inr (40, 0))), (1, .inl v1), (2, .inl v2), (3, .inl v3)] [] m (K48 v2 v3 m)) (h100 : ∀ (v2 : Int32) (m : hM), G mX12_unrolled 1 100 [(2, .inl v2)] [] m (K100 v2 m)) (v3 : Int32) (v100 : Int32) (v101 : Int32) (v102 : Int32) (m : hM) : G mX12_unrolled 1 91 [(0, .inr (.inr (40, 0))), (1, .inl v1), (3, .inl v3)] [.inl v100, .inl v101, .inl v102] m (JX12_unrolled_91 K48 K100 v1 v3 v100 v101 v102 m) := by
  unfold JX12_unrolled_91
  refine g_imul (kdX12_unrolled 55 rfl) ?_
  refine g_isub (kdX12_unrolled 56 rfl) ?_
  refine g_lt (fun x10 => ?_)
  refine g_istore_n (L2 := [(2, .inl x10), (0, .inr (.inr (40, 0))), (1, .inl v1), (3, .inl v3)]) (kdX12_unrolled 57 rfl) rfl (by decide) ?_
  refine g_iinc (v := v3 + 1) (L2 := [(3, .inl (v3 + 1)), (2, .inl x10), (0, .inr (.inr (40, 0))), (1, .inl v1)]) 3 (kdX12_unrolled 58 rfl) rfl rfl rfl (by decide) ?_
  refine g_goto (tgt := 48) (kdX12_unrolled 59 rfl) (by decide) ?_
  exact g_fgt [2, 3, 1, 0] rfl (h48 x10 (v3 + 1) m)
def bJX12_unrolled_48 (K48 : Int32 → Int32 → hM → hR) (K100 : Int32 → hM → hR) (v1 : Int32) (v2 : Int32) (v3 : Int32) (m : hM) : hR :=
  ald m 45 0 2 fun x6 =>
  if x6 ≤ v3 then (K100 v2 m) else (calI (JX12_has v1 v3 m) fun x8 m7 =>
  if x8 = 0 then (ald m7 50 0 (46 + v3) fun x9 =>
  JX12_unrolled_91 K48 K100 v1 v3 (-x9) 64 v2 m7) else (ald m7 50 0 (46 + v3) fun x11 =>
  JX12_unrolled_91 K48 K100 v1 v3 x11 64 v2 m7))
set_option maxRecDepth 20000 in
theorem BbJX12_unrolled_48 (K48 : Int32 → Int32 → hM → hR) (K100 : Int32 → hM → hR) (v1 : Int32) (h48 : ∀ (v2 : Int32) (v3 : Int32) (m : hM), G mX12_unrolled 1 48 [(0, .inr (.inr (40, 0))), (1, .inl v1), (2, .inl v2), (3, .inl v3)] [] m (K48 v2 v3 m)) (h100 : ∀ (v2 : Int32) (m : hM), G mX12_unrolled 1 100 [(2, .inl v2)] [] m (K100 v2 m)) (v2 : Int32) (v3 : Int32) (m : hM) : G mX12_unrolled 1 48 [(0, .inr (.inr (40, 0))), (1, .inl v1), (2, .inl v2), (3, .inl v3)] [] m (bJX12_unrolled_48 K48 K100 v1 v2 v3 m) := by
  unfold bJX12_unrolled_48
  refine g_iload_n 3 (kdX12_unrolled 29 rfl) rfl ?_
  refine g_aload_n 0 (kdX12_unrolled 30 rfl) rfl ?_
  refine g_get (v := .inr (.inr (45, 0))) (kdX12_unrolled 31 rfl) fX12_22 rfl ?_
  refine g_iconst (v := 2) (kdX12_unrolled 32 rfl) (by decide) ?_
  refine g_iald (kdX12_unrolled 33 rfl) (fun x6 => ?_)
  refine g_icmp_ge (tgt := 100) (kdX12_unrolled 34 rfl) (by decide) (fun _ => ?_) (fun _ => ?_)
  · exact g_fgt [2] rfl (h100 v2 m)
  · refine g_iload_n 2 (kdX12_unrolled 35 rfl) rfl ?_
    refine g_bipush (v := 64) (kdX12_unrolled 36 rfl) (by decide) ?_
    refine g_iload_n 1 (kdX12_unrolled 37 rfl) rfl ?_
    refine g_iload_n 3 (kdX12_unrolled 38 rfl) rfl ?_
    refine g_calI (ck_S (As := [.inl v1, .inl v3]) (S := [.inl 64, .inl v2]) (kdX12_unrolled 39 rfl) iX12_has lX12_178 rfl rfl rfl (by decide) (by simp only [List.map, vcat, List.sum_cons, List.sum_nil]; decide)) (CX12_has v1 v3 m) (fun x8 m7 => ?_)
    refine g_if_eq (tgt := 81) (kdX12_unrolled 40 rfl) (by decide) (fun _ => ?_) (fun _ => ?_)
    · refine g_aload_n 0 (kdX12_unrolled 48 rfl) rfl ?_
      refine g_get (v := .inr (.inr (50, 0))) (kdX12_unrolled 49 rfl) fX12_37 rfl ?_
      refine g_bipush (v := 46) (kdX12_unrolled 50 rfl) (by decide) ?_
      refine g_iload_n 3 (kdX12_unrolled 51 rfl) rfl ?_
      refine g_iadd (kdX12_unrolled 52 rfl) ?_
      refine g_iald (kdX12_unrolled 53 rfl) (fun x9 => ?_)
      refine g_ineg (kdX12_unrolled 54 rfl) ?_
      exact g_fgt [0, 1, 3] rfl (BX12_unrolled_91 v1 _ _ h48 h100 v3 (-x9) 64 v2 m7)
    · refine g_aload_n 0 (kdX12_unrolled 41 rfl) rfl ?_
      refine g_get (v := .inr (.inr (50, 0))) (kdX12_unrolled 42 rfl) fX12_37 rfl ?_
      refine g_bipush (v := 46) (kdX12_unrolled 43 rfl) (by decide) ?_
      refine g_iload_n 3 (kdX12_unrolled 44 rfl) rfl ?_
      refine g_iadd (kdX12_unrolled 45 rfl) ?_
      refine g_iald (kdX12_unrolled 46 rfl) (fun x11 => ?_)
      refine g_goto (tgt := 91) (kdX12_unrolled 47 rfl) (by decide) ?_
      exact g_fgt [0, 1, 3] rfl (BX12_unrolled_91 v1 _ _ h48 h100 v3 x11 64 v2 m7)
def JX12_unrolled_48 (K100 : Int32 → hM → hR) (v1 : Int32) : Nat → Int32 → Int32 → hM → hR
  | 0, _, _, _ => none
  | f + 1, v2, v3, m => bJX12_unrolled_48 (fun v2 v3 m => JX12_unrolled_48 K100 v1 f v2 v3 m) K100 v1 v2 v3 m
theorem BJX12_unrolled_48 (K100 : Int32 → hM → hR) (v1 : Int32) (h100 : ∀ (v2 : Int32) (m : hM), G mX12_unrolled 1 100 [(2, .inl v2)] [] m (K100 v2 m)) : ∀ (f : Nat) (v2 : Int32) (v3 : Int32) (m : hM), G mX12_unrolled 1 48 [(0, .inr (.inr (40, 0))), (1, .inl v1), (2, .inl v2), (3, .inl v3)] [] m (JX12_unrolled_48 K100 v1 f v2 v3 m)
  | 0, _, _, _ => g_none
  | f + 1, v2, v3, m => BbJX12_unrolled_48  _ K100 v1 (fun v2 v3 m => BJX12_unrolled_48  K100 v1 h100 f v2 v3 m) h100 v2 v3 m
def JX12_unrolled (a1 : Int32) (m : hM) : hR :=
  if (m.1 40 0 15) = 0 then (some (some (.inl (-1000000000)), m)) else (ald m 50 0 18 fun x1 =>
  if x1 = 0 then (some (some (.inl (-1000000000)), m)) else (ald m 45 0 2 fun x2 =>
  calI (JX12_in a1 0 (((1 : Int32) <<< (x2 &&& 31)) - 1) m) fun x4 m3 =>
  if x4 = 0 then (some (some (.inl (-1000000000)), m3)) else (ald m3 50 0 45 fun x5 =>
  JX12_unrolled_48 (fun v2 m12 => some (some (.inl v2), m12)) a1 FU x5 0 m3)))
set_option maxRecDepth 20000 in
theorem CX12_unrolled (a1 : Int32) (m : hM) : Cn mX12_unrolled 1 [.inr (.inr (40, 0)), .inl a1] m (JX12_unrolled a1 m) := by
  refine cn_of (by decide +kernel) (by simp only [List.map, vcat, List.sum_cons, List.sum_nil]; decide) ?_
  unfold JX12_unrolled
  show G mX12_unrolled 1 0 [(0, .inr (.inr (40, 0))), (1, .inl a1)] [] m _
  refine g_aload_n 0 (kdX12_unrolled 0 rfl) rfl ?_
  refine g_get (v := .inl (m.1 40 0 15)) (kdX12_unrolled 1 rfl) fX12_203 rfl ?_
  refine g_if_eq (tgt := 35) (kdX12_unrolled 2 rfl) (by decide) (fun _ => ?_) (fun _ => ?_)
  · refine g_ldc (kdX12_unrolled 20 rfl) cX12_50 ?_
    exact g_iret rfl (kdX12_unrolled 21 rfl)
  · refine g_aload_n 0 (kdX12_unrolled 3 rfl) rfl ?_
    refine g_get (v := .inr (.inr (50, 0))) (kdX12_unrolled 4 rfl) fX12_37 rfl ?_
    refine g_bipush (v := 18) (kdX12_unrolled 5 rfl) (by decide) ?_
    refine g_iald (kdX12_unrolled 6 rfl) (fun x1 => ?_)
    refine g_if_eq (tgt := 35) (kdX12_unrolled 7 rfl) (by decide) (fun _ => ?_) (fun _ => ?_)
    · refine g_ldc (kdX12_unrolled 20 rfl) cX12_50 ?_
      exact g_iret rfl (kdX12_unrolled 21 rfl)
    · refine g_iload_n 1 (kdX12_unrolled 8 rfl) rfl ?_
      refine g_iconst (v := 0) (kdX12_unrolled 9 rfl) (by decide) ?_
      refine g_iconst (v := 1) (kdX12_unrolled 10 rfl) (by decide) ?_
      refine g_aload_n 0 (kdX12_unrolled 11 rfl) rfl ?_
      refine g_get (v := .inr (.inr (45, 0))) (kdX12_unrolled 12 rfl) fX12_22 rfl ?_
      refine g_iconst (v := 2) (kdX12_unrolled 13 rfl) (by decide) ?_
      refine g_iald (kdX12_unrolled 14 rfl) (fun x2 => ?_)
      refine g_ishl (kdX12_unrolled 15 rfl) ?_
      refine g_iconst (v := 1) (kdX12_unrolled 16 rfl) (by decide) ?_
      refine g_isub (kdX12_unrolled 17 rfl) ?_
      refine g_calI (ck_S (As := [.inl a1, .inl 0, .inl (((1 : Int32) <<< (x2 &&& 31)) - 1)]) (S := []) (kdX12_unrolled 18 rfl) iX12_in lX12_89 rfl rfl rfl (by decide) (by simp only [List.map, vcat, List.sum_cons, List.sum_nil]; decide)) (CX12_in a1 0 (((1 : Int32) <<< (x2 &&& 31)) - 1) m) (fun x4 m3 => ?_)
      refine g_if_ne (tgt := 38) (kdX12_unrolled 19 rfl) (by decide) (fun _ => ?_) (fun _ => ?_)
      · refine g_aload_n 0 (kdX12_unrolled 22 rfl) rfl ?_
        refine g_get (v := .inr (.inr (50, 0))) (kdX12_unrolled 23 rfl) fX12_37 rfl ?_
        refine g_bipush (v := 45) (kdX12_unrolled 24 rfl) (by decide) ?_
        refine g_iald (kdX12_unrolled 25 rfl) (fun x5 => ?_)
        refine g_istore_n (L2 := [(2, .inl x5), (0, .inr (.inr (40, 0))), (1, .inl a1)]) (kdX12_unrolled 26 rfl) rfl (by decide) ?_
        refine g_iconst (v := 0) (kdX12_unrolled 27 rfl) (by decide) ?_
        refine g_istore_n (L2 := [(3, .inl 0), (2, .inl x5), (0, .inr (.inr (40, 0))), (1, .inl a1)]) (kdX12_unrolled 28 rfl) rfl (by decide) ?_
        refine g_fgt [2, 3, 1, 0] rfl (BJX12_unrolled_48  _ a1 ?_ FU x5 0 m3)
        · intro v2 m12
          refine g_iload_n 0 (kdX12_unrolled 60 rfl) rfl ?_
          exact g_iret rfl (kdX12_unrolled 61 rfl)
      · refine g_ldc (kdX12_unrolled 20 rfl) cX12_50 ?_
        exact g_iret rfl (kdX12_unrolled 21 rfl)
def JX12_improved_102 (K49 : Int32 → Int32 → Int32 → hM → hR) (K108 : Int32 → Int32 → hM → hR) (v1 : Int32) (v2 : Int32) (v3 : Int32) (v4 : Int32) (v5 : Int32) (v6 : Int32) (m : hM) : hR :=
  K49 v4 v5 (v6 + 1) m
set_option maxRecDepth 20000 in
theorem BX12_improved_102 (v1 : Int32) (v2 : Int32) (v3 : Int32) (K49 : Int32 → Int32 → Int32 → hM → hR) (K108 : Int32 → Int32 → hM → hR) (h49 : ∀ (v4 : Int32) (v5 : Int32) (v6 : Int32) (m : hM), G mX12_improved 4 49 [(0, .inr (.inr (40, 0))), (1, .inl v1), (2, .inl v2), (3, .inl v3), (4, .inl v4), (5, .inl v5), (6, .inl v6)] [] m (K49 v4 v5 v6 m)) (h108 : ∀ (v4 : Int32) (v5 : Int32) (m : hM), G mX12_improved 4 108 [(0, .inr (.inr (40, 0))), (1, .inl v1), (2, .inl v2), (3, .inl v3), (4, .inl v4), (5, .inl v5)] [] m (K108 v4 v5 m)) (v4 : Int32) (v5 : Int32) (v6 : Int32) (m : hM) : G mX12_improved 4 102 [(0, .inr (.inr (40, 0))), (1, .inl v1), (2, .inl v2), (3, .inl v3), (4, .inl v4), (5, .inl v5), (6, .inl v6)] [] m (JX12_improved_102 K49 K108 v1 v2 v3 v4 v5 v6 m) := by
  unfold JX12_improved_102
  refine g_iinc (v := v6 + 1) (L2 := [(6, .inl (v6 + 1)), (0, .inr (.inr (40, 0))), (1, .inl v1), (2, .inl v2), (3, .inl v3), (4, .inl v4), (5, .inl v5)]) 6 (kdX12_improved 56 rfl) rfl rfl rfl (by decide) ?_
  refine g_goto (tgt := 49) (kdX12_improved 57 rfl) (by decide) ?_
  exact g_fgt [1, 2, 3, 4, 5, 6, 0] rfl (h49 v4 v5 (v6 + 1) m)
def bJX12_improved_49 (K49 : Int32 → Int32 → Int32 → hM → hR) (K108 : Int32 → Int32 → hM → hR) (v1 : Int32) (v2 : Int32) (v3 : Int32) (v4 : Int32) (v5 : Int32) (v6 : Int32) (m : hM) : hR :=
  calI (JJ9_min_7cf53 255 (v3 + 31) m) fun x9 m8 =>
  if x9 < v6 then (K108 v4 v5 m8) else (ast m8 50 0 (0 + v1) v6 fun m10 =>
  ald m10 50 0 14 fun x11 =>
  calI (JX12_heightOf x11 m10) fun x13 m12 =>
  if x13 ≤ v5 then (JX12_improved_102 K49 K108 v1 v2 v3 v4 v5 v6 m12) else (JX12_improved_102 K49 K108 v1 v2 v3 v6 x13 v6 m12))
set_option maxRecDepth 20000 in
theorem BbJX12_improved_49 (K49 : Int32 → Int32 → Int32 → hM → hR) (K108 : Int32 → Int32 → hM → hR) (v1 : Int32) (v2 : Int32) (v3 : Int32) (h49 : ∀ (v4 : Int32) (v5 : Int32) (v6 : Int32) (m : hM), G mX12_improved 4 49 [(0, .inr (.inr (40, 0))), (1, .inl v1), (2, .inl v2), (3, .inl v3), (4, .inl v4), (5, .inl v5), (6, .inl v6)] [] m (K49 v4 v5 v6 m)) (h108 : ∀ (v4 : Int32) (v5 : Int32) (m : hM), G mX12_improved 4 108 [(0, .inr (.inr (40, 0))), (1, .inl v1), (2, .inl v2), (3, .inl v3), (4, .inl v4), (5, .inl v5)] [] m (K108 v4 v5 m)) (v4 : Int32) (v5 : Int32) (v6 : Int32) (m : hM) : G mX12_improved 4 49 [(0, .inr (.inr (40, 0))), (1, .inl v1), (2, .inl v2), (3, .inl v3), (4, .inl v4), (5, .inl v5), (6, .inl v6)] [] m (bJX12_improved_49 K49 K108 v1 v2 v3 v4 v5 v6 m) := by
  unfold bJX12_improved_49
  refine g_iload 6 (kdX12_improved 28 rfl) rfl ?_
  refine g_sipush (v := 255) (kdX12_improved 29 rfl) (by decide) ?_
  refine g_iload_n 3 (kdX12_improved 30 rfl) rfl ?_
  refine g_bipush (v := 31) (kdX12_improved 31 rfl) (by decide) ?_
  refine g_iadd (kdX12_improved 32 rfl) ?_
  refine g_calI (ck_S (As := [.inl 255, .inl (v3 + 31)]) (S := [.inl v6]) (kdX12_improved 33 rfl) iJ9_min_7cf53 lX12_234 rfl rfl rfl (by decide) (by simp only [List.map, vcat, List.sum_cons, List.sum_nil]; decide)) (CJ9_min_7cf53 255 (v3 + 31) m) (fun x9 m8 => ?_)
  refine g_icmp_gt (tgt := 108) (kdX12_improved 34 rfl) (by decide) (fun _ => ?_) (fun _ => ?_)
  · exact g_fgt [0, 1, 2, 3, 4, 5] rfl (h108 v4 v5 m8)
  · refine g_aload_n 0 (kdX12_improved 35 rfl) rfl ?_
    refine g_get (v := .inr (.inr (50, 0))) (kdX12_improved 36 rfl) fX12_37 rfl ?_
    refine g_iconst (v := 0) (kdX12_improved 37 rfl) (by decide) ?_
    refine g_iload_n 1 (kdX12_improved 38 rfl) rfl ?_
    refine g_iadd (kdX12_improved 39 rfl) ?_
    refine g_iload 6 (kdX12_improved 40 rfl) rfl ?_
    refine g_iast (kdX12_improved 41 rfl) (fun m10 => ?_)
    refine g_aload_n 0 (kdX12_improved 42 rfl) rfl ?_
    refine g_aload_n 0 (kdX12_improved 43 rfl) rfl ?_
    refine g_get (v := .inr (.inr (50, 0))) (kdX12_improved 44 rfl) fX12_37 rfl ?_
    refine g_bipush (v := 14) (kdX12_improved 45 rfl) (by decide) ?_
    refine g_iald (kdX12_improved 46 rfl) (fun x11 => ?_)
    refine g_calI (ck_V (As := [.inl x11]) (S := []) (t := 40) (o := 0) (kdX12_improved 47 rfl) iX12_heightOf lX12_307 rc_40 rfl rfl rfl (by decide) (by simp only [List.map, vcat, List.sum_cons, List.sum_nil]; decide)) (CX12_heightOf x11 m10) (fun x13 m12 => ?_)
    refine g_istore (L2 := [(7, .inl x13), (0, .inr (.inr (40, 0))), (1, .inl v1), (2, .inl v2), (3, .inl v3), (4, .inl v4), (5, .inl v5), (6, .inl v6)]) (kdX12_improved 48 rfl) rfl (by decide) ?_
    refine g_iload 0 (kdX12_improved 49 rfl) rfl ?_
    refine g_iload 6 (kdX12_improved 50 rfl) rfl ?_
    refine g_icmp_le (tgt := 102) (kdX12_improved 51 rfl) (by decide) (fun _ => ?_) (fun _ => ?_)
    · exact g_fgt [1, 2, 3, 4, 5, 6, 7] rfl (BX12_improved_102 v1 v2 v3 _ _ h49 h108 v4 v5 v6 m12)
    · refine g_iload 7 (kdX12_improved 52 rfl) rfl ?_
      refine g_istore (L2 := [(4, .inl v6), (7, .inl x13), (0, .inr (.inr (40, 0))), (1, .inl v1), (2, .inl v2), (3, .inl v3), (5, .inl v5), (6, .inl v6)]) (kdX12_improved 53 rfl) rfl (by decide) ?_
      refine g_iload 1 (kdX12_improved 54 rfl) rfl ?_
      refine g_istore (L2 := [(5, .inl x13), (4, .inl v6), (7, .inl x13), (0, .inr (.inr (40, 0))), (1, .inl v1), (2, .inl v2), (3, .inl v3), (6, .inl v6)]) (kdX12_improved 55 rfl) rfl (by decide) ?_
      exact g_fgt [3, 4, 5, 6, 1, 0, 7] rfl (BX12_improved_102 v1 v2 v3 _ _ h49 h108 v6 x13 v6 m12)
def JX12_improved_49 (K108 : Int32 → Int32 → hM → hR) (v1 : Int32) (v2 : Int32) (v3 : Int32) : Nat → Int32 → Int32 → Int32 → hM → hR
  | 0, _, _, _, _ => none
  | f + 1, v4, v5, v6, m => bJX12_improved_49 (fun v4 v5 v6 m => JX12_improved_49 K108 v1 v2 v3 f v4 v5 v6 m) K108 v1 v2 v3 v4 v5 v6 m
theorem BJX12_improved_49 (K108 : Int32 → Int32 → hM → hR) (v1 : Int32) (v2 : Int32) (v3 : Int32) (h108 : ∀ (v4 : Int32) (v5 : Int32) (m : hM), G mX12_improved 4 108 [(0, .inr (.inr (40, 0))), (1, .inl v1), (2, .inl v2), (3, .inl v3), (4, .inl v4), (5, .inl v5)] [] m (K108 v4 v5 m)) : ∀ (f : Nat) (v4 : Int32) (v5 : Int32) (v6 : Int32) (m : hM), G mX12_improved 4 49 [(0, .inr (.inr (40, 0))), (1, .inl v1), (2, .inl v2), (3, .inl v3), (4, .inl v4), (5, .inl v5), (6, .inl v6)] [] m (JX12_improved_49 K108 v1 v2 v3 f v4 v5 v6 m)
  | 0, _, _, _, _ => g_none
  | f + 1, v4, v5, v6, m => BbJX12_improved_49  _ K108 v1 v2 v3 (fun v4 v5 v6 m => BJX12_improved_49  K108 v1 v2 v3 h108 f v4 v5 v6 m) h108 v4 v5 v6 m
def JX12_improved (a1 : Int32) (a2 : Int32) (m : hM) : hR :=
  calI (JX12_isTap a1 m) fun x2 m1 =>
  if x2 = 0 then (some (some (.inl (-1000000000)), m1)) else (calI (JX12_in a2 0 1 m1) fun x4 m3 =>
  if x4 = 0 then (some (some (.inl (-1000000000)), m3)) else (ald m3 50 0 (0 + a1) fun x5 =>
  calI (JJ9_max_7cf53 (-255) (x5 - 31) m3) fun x7 m6 =>
  JX12_improved_49 (fun v4 v5 m14 => ast m14 50 0 (0 + a1) x5 fun m15 =>
  if a2 = 0 then (some (some (.inl v4), m15)) else (some (some (.inl v5), m15))) a1 a2 x5 FU 0 (-2147483648) x7 m6))
set_option maxRecDepth 20000 in
theorem CX12_improved (a1 : Int32) (a2 : Int32) (m : hM) : Cn mX12_improved 4 [.inr (.inr (40, 0)), .inl a1, .inl a2] m (JX12_improved a1 a2 m) := by
  refine cn_of (by decide +kernel) (by simp only [List.map, vcat, List.sum_cons, List.sum_nil]; decide) ?_
  unfold JX12_improved
  show G mX12_improved 4 0 [(0, .inr (.inr (40, 0))), (1, .inl a1), (2, .inl a2)] [] m _
  refine g_aload_n 0 (kdX12_improved 0 rfl) rfl ?_
  refine g_iload_n 1 (kdX12_improved 1 rfl) rfl ?_
  refine g_calI (ck_V (As := [.inl a1]) (S := []) (t := 40) (o := 0) (kdX12_improved 2 rfl) iX12_isTap lX12_325 rc_40 rfl rfl rfl (by decide) (by simp only [List.map, vcat, List.sum_cons, List.sum_nil]; decide)) (CX12_isTap a1 m) (fun x2 m1 => ?_)
  refine g_if_eq (tgt := 17) (kdX12_improved 3 rfl) (by decide) (fun _ => ?_) (fun _ => ?_)
  · refine g_ldc (kdX12_improved 9 rfl) cX12_50 ?_
    exact g_iret rfl (kdX12_improved 10 rfl)
  · refine g_iload_n 2 (kdX12_improved 4 rfl) rfl ?_
    refine g_iconst (v := 0) (kdX12_improved 5 rfl) (by decide) ?_
    refine g_iconst (v := 1) (kdX12_improved 6 rfl) (by decide) ?_
    refine g_calI (ck_S (As := [.inl a2, .inl 0, .inl 1]) (S := []) (kdX12_improved 7 rfl) iX12_in lX12_89 rfl rfl rfl (by decide) (by simp only [List.map, vcat, List.sum_cons, List.sum_nil]; decide)) (CX12_in a2 0 1 m1) (fun x4 m3 => ?_)
    refine g_if_ne (tgt := 20) (kdX12_improved 8 rfl) (by decide) (fun _ => ?_) (fun _ => ?_)
    · refine g_aload_n 0 (kdX12_improved 11 rfl) rfl ?_
      refine g_get (v := .inr (.inr (50, 0))) (kdX12_improved 12 rfl) fX12_37 rfl ?_
      refine g_iconst (v := 0) (kdX12_improved 13 rfl) (by decide) ?_
      refine g_iload_n 1 (kdX12_improved 14 rfl) rfl ?_
      refine g_iadd (kdX12_improved 15 rfl) ?_
      refine g_iald (kdX12_improved 16 rfl) (fun x5 => ?_)
      refine g_istore_n (L2 := [(3, .inl x5), (0, .inr (.inr (40, 0))), (1, .inl a1), (2, .inl a2)]) (kdX12_improved 17 rfl) rfl (by decide) ?_
      refine g_iconst (v := 0) (kdX12_improved 18 rfl) (by decide) ?_
      refine g_istore (L2 := [(4, .inl 0), (3, .inl x5), (0, .inr (.inr (40, 0))), (1, .inl a1), (2, .inl a2)]) (kdX12_improved 19 rfl) rfl (by decide) ?_
      refine g_ldcw (kdX12_improved 20 rfl) cX12_297 ?_
      refine g_istore (L2 := [(5, .inl (-2147483648)), (4, .inl 0), (3, .inl x5), (0, .inr (.inr (40, 0))), (1, .inl a1), (2, .inl a2)]) (kdX12_improved 21 rfl) rfl (by decide) ?_
      refine g_sipush (v := (-255)) (kdX12_improved 22 rfl) (by decide) ?_
      refine g_iload_n 2 (kdX12_improved 23 rfl) rfl ?_
      refine g_bipush (v := 31) (kdX12_improved 24 rfl) (by decide) ?_
      refine g_isub (kdX12_improved 25 rfl) ?_
      refine g_calI (ck_S (As := [.inl (-255), .inl (x5 - 31)]) (S := []) (kdX12_improved 26 rfl) iJ9_max_7cf53 lX12_253 rfl rfl rfl (by decide) (by simp only [List.map, vcat, List.sum_cons, List.sum_nil]; decide)) (CJ9_max_7cf53 (-255) (x5 - 31) m3) (fun x7 m6 => ?_)
      refine g_istore (L2 := [(6, .inl x7), (5, .inl (-2147483648)), (4, .inl 0), (3, .inl x5), (0, .inr (.inr (40, 0))), (1, .inl a1), (2, .inl a2)]) (kdX12_improved 27 rfl) rfl (by decide) ?_
      refine g_fgt [4, 5, 6, 3, 2, 1, 0] rfl (BJX12_improved_49  _ a1 a2 x5 ?_ FU 0 (-2147483648) x7 m6)
      · intro v4 v5 m14
        refine g_aload_n 0 (kdX12_improved 58 rfl) rfl ?_
        refine g_get (v := .inr (.inr (50, 0))) (kdX12_improved 59 rfl) fX12_37 rfl ?_
        refine g_iconst (v := 0) (kdX12_improved 60 rfl) (by decide) ?_
        refine g_iload_n 1 (kdX12_improved 61 rfl) rfl ?_
        refine g_iadd (kdX12_improved 62 rfl) ?_
        refine g_iload_n 3 (kdX12_improved 63 rfl) rfl ?_
        refine g_iast (kdX12_improved 64 rfl) (fun m15 => ?_)
        refine g_iload_n 2 (kdX12_improved 65 rfl) rfl ?_
        refine g_if_ne (tgt := 126) (kdX12_improved 66 rfl) (by decide) (fun _ => ?_) (fun _ => ?_)
        · refine g_iload 5 (kdX12_improved 69 rfl) rfl ?_
          exact g_iret rfl (kdX12_improved 70 rfl)
        · refine g_iload 4 (kdX12_improved 67 rfl) rfl ?_
          refine g_goto (tgt := 128) (kdX12_improved 68 rfl) (by decide) ?_
          exact g_iret rfl (kdX12_improved 70 rfl)
    · refine g_ldc (kdX12_improved 9 rfl) cX12_50 ?_
      exact g_iret rfl (kdX12_improved 10 rfl)
def JX12_isKeeping_70 (K19 : Int32 → Int32 → hM → hR) (K77 : Int32 → hM → hR) (v1 : Int32) (v2 : Int32) (v4 : Int32) (v5 : Int32) (v100 : Int32) (m : hM) : hR :=
  K19 v100 (v5 + 1) m
set_option maxRecDepth 20000 in
theorem BX12_isKeeping_70 (v1 : Int32) (v2 : Int32) (v4 : Int32) (K19 : Int32 → Int32 → hM → hR) (K77 : Int32 → hM → hR) (h19 : ∀ (v3 : Int32) (v5 : Int32) (m : hM), G mX12_isKeeping 1 19 [(0, .inr (.inr (40, 0))), (1, .inl v1), (2, .inl v2), (3, .inl v3), (4, .inl v4), (5, .inl v5)] [] m (K19 v3 v5 m)) (h77 : ∀ (v3 : Int32) (m : hM), G mX12_isKeeping 1 77 [(0, .inr (.inr (40, 0))), (1, .inl v1), (2, .inl v2), (3, .inl v3), (4, .inl v4)] [] m (K77 v3 m)) (v5 : Int32) (v100 : Int32) (m : hM) : G mX12_isKeeping 1 70 [(0, .inr (.inr (40, 0))), (1, .inl v1), (2, .inl v2), (4, .inl v4), (5, .inl v5)] [.inl v100] m (JX12_isKeeping_70 K19 K77 v1 v2 v4 v5 v100 m) := by
  unfold JX12_isKeeping_70
  refine g_istore_n (L2 := [(3, .inl v100), (0, .inr (.inr (40, 0))), (1, .inl v1), (2, .inl v2), (4, .inl v4), (5, .inl v5)]) (kdX12_isKeeping 42 rfl) rfl (by decide) ?_
  refine g_iinc (v := v5 + 1) (L2 := [(5, .inl (v5 + 1)), (3, .inl v100), (0, .inr (.inr (40, 0))), (1, .inl v1), (2, .inl v2), (4, .inl v4)]) 5 (kdX12_isKeeping 43 rfl) rfl rfl rfl (by decide) ?_
  refine g_goto (tgt := 19) (kdX12_isKeeping 44 rfl) (by decide) ?_
  exact g_fgt [2, 3, 4, 1, 5, 0] rfl (h19 v100 (v5 + 1) m)
def JX12_isKeeping_69 (K19 : Int32 → Int32 → hM → hR) (K77 : Int32 → hM → hR) (v1 : Int32) (v2 : Int32) (v4 : Int32) (v5 : Int32) (m : hM) : hR :=
  JX12_isKeeping_70 K19 K77 v1 v2 v4 v5 0 m
set_option maxRecDepth 20000 in
theorem BX12_isKeeping_69 (v1 : Int32) (v2 : Int32) (v4 : Int32) (K19 : Int32 → Int32 → hM → hR) (K77 : Int32 → hM → hR) (h19 : ∀ (v3 : Int32) (v5 : Int32) (m : hM), G mX12_isKeeping 1 19 [(0, .inr (.inr (40, 0))), (1, .inl v1), (2, .inl v2), (3, .inl v3), (4, .inl v4), (5, .inl v5)] [] m (K19 v3 v5 m)) (h77 : ∀ (v3 : Int32) (m : hM), G mX12_isKeeping 1 77 [(0, .inr (.inr (40, 0))), (1, .inl v1), (2, .inl v2), (3, .inl v3), (4, .inl v4)] [] m (K77 v3 m)) (v5 : Int32) (m : hM) : G mX12_isKeeping 1 69 [(0, .inr (.inr (40, 0))), (1, .inl v1), (2, .inl v2), (4, .inl v4), (5, .inl v5)] [] m (JX12_isKeeping_69 K19 K77 v1 v2 v4 v5 m) := by
  unfold JX12_isKeeping_69
  refine g_iconst (v := 0) (kdX12_isKeeping 41 rfl) (by decide) ?_
  exact g_fgt [0, 1, 2, 3, 4] rfl (BX12_isKeeping_70 v1 v2 v4 _ _ h19 h77 v5 0 m)
def bJX12_isKeeping_19 (K19 : Int32 → Int32 → hM → hR) (K77 : Int32 → hM → hR) (v1 : Int32) (v2 : Int32) (v4 : Int32) (v3 : Int32) (v5 : Int32) (m : hM) : hR :=
  calI (JX12_taps m) fun x3 m2 =>
  if x3 ≤ v5 then (K77 v3 m2) else (if v3 = 0 then (JX12_isKeeping_69 K19 K77 v1 v2 v4 v5 m2) else (ald m2 58 0 ((6 * v4) + v5) fun x4 =>
  ald m2 58 0 ((6 * v1) + v5) fun x5 =>
  calI (JX12_size (x4 - x5) m2) fun x7 m6 =>
  if v2 < x7 then (JX12_isKeeping_69 K19 K77 v1 v2 v4 v5 m6) else (JX12_isKeeping_70 K19 K77 v1 v2 v4 v5 1 m6)))
set_option maxRecDepth 20000 in
theorem BbJX12_isKeeping_19 (K19 : Int32 → Int32 → hM → hR) (K77 : Int32 → hM → hR) (v1 : Int32) (v2 : Int32) (v4 : Int32) (h19 : ∀ (v3 : Int32) (v5 : Int32) (m : hM), G mX12_isKeeping 1 19 [(0, .inr (.inr (40, 0))), (1, .inl v1), (2, .inl v2), (3, .inl v3), (4, .inl v4), (5, .inl v5)] [] m (K19 v3 v5 m)) (h77 : ∀ (v3 : Int32) (m : hM), G mX12_isKeeping 1 77 [(0, .inr (.inr (40, 0))), (1, .inl v1), (2, .inl v2), (3, .inl v3), (4, .inl v4)] [] m (K77 v3 m)) (v3 : Int32) (v5 : Int32) (m : hM) : G mX12_isKeeping 1 19 [(0, .inr (.inr (40, 0))), (1, .inl v1), (2, .inl v2), (3, .inl v3), (4, .inl v4), (5, .inl v5)] [] m (bJX12_isKeeping_19 K19 K77 v1 v2 v4 v3 v5 m) := by
  unfold bJX12_isKeeping_19
  refine g_iload 5 (kdX12_isKeeping 13 rfl) rfl ?_
  refine g_aload_n 0 (kdX12_isKeeping 14 rfl) rfl ?_
  refine g_calI (ck_V (As := []) (S := [.inl v5]) (t := 40) (o := 0) (kdX12_isKeeping 15 rfl) iX12_taps lX12_213 rc_40 rfl rfl rfl (by decide) (by simp only [List.map, vcat, List.sum_cons, List.sum_nil]; decide)) (CX12_taps m) (fun x3 m2 => ?_)
  refine g_icmp_ge (tgt := 77) (kdX12_isKeeping 16 rfl) (by decide) (fun _ => ?_) (fun _ => ?_)
  · exact g_fgt [0, 1, 2, 3, 4] rfl (h77 v3 m2)
  · refine g_iload_n 3 (kdX12_isKeeping 17 rfl) rfl ?_
    refine g_if_eq (tgt := 69) (kdX12_isKeeping 18 rfl) (by decide) (fun _ => ?_) (fun _ => ?_)
    · exact g_fgt [0, 1, 2, 4, 5] rfl (BX12_isKeeping_69 v1 v2 v4 _ _ h19 h77 v5 m2)
    · refine g_aload_n 0 (kdX12_isKeeping 19 rfl) rfl ?_
      refine g_get (v := .inr (.inr (58, 0))) (kdX12_isKeeping 20 rfl) fX12_73 rfl ?_
      refine g_bipush (v := 6) (kdX12_isKeeping 21 rfl) (by decide) ?_
      refine g_iload 4 (kdX12_isKeeping 22 rfl) rfl ?_
      refine g_imul (kdX12_isKeeping 23 rfl) ?_
      refine g_iload 5 (kdX12_isKeeping 24 rfl) rfl ?_
      refine g_iadd (kdX12_isKeeping 25 rfl) ?_
      refine g_iald (kdX12_isKeeping 26 rfl) (fun x4 => ?_)
      refine g_aload_n 0 (kdX12_isKeeping 27 rfl) rfl ?_
      refine g_get (v := .inr (.inr (58, 0))) (kdX12_isKeeping 28 rfl) fX12_73 rfl ?_
      refine g_bipush (v := 6) (kdX12_isKeeping 29 rfl) (by decide) ?_
      refine g_iload_n 1 (kdX12_isKeeping 30 rfl) rfl ?_
      refine g_imul (kdX12_isKeeping 31 rfl) ?_
      refine g_iload 5 (kdX12_isKeeping 32 rfl) rfl ?_
      refine g_iadd (kdX12_isKeeping 33 rfl) ?_
      refine g_iald (kdX12_isKeeping 34 rfl) (fun x5 => ?_)
      refine g_isub (kdX12_isKeeping 35 rfl) ?_
      refine g_calI (ck_S (As := [.inl (x4 - x5)]) (S := []) (kdX12_isKeeping 36 rfl) iX12_size lX12_239 rfl rfl rfl (by decide) (by simp only [List.map, vcat, List.sum_cons, List.sum_nil]; decide)) (CX12_size (x4 - x5) m2) (fun x7 m6 => ?_)
      refine g_iload_n 2 (kdX12_isKeeping 37 rfl) rfl ?_
      refine g_icmp_gt (tgt := 69) (kdX12_isKeeping 38 rfl) (by decide) (fun _ => ?_) (fun _ => ?_)
      · exact g_fgt [0, 1, 2, 4, 5] rfl (BX12_isKeeping_69 v1 v2 v4 _ _ h19 h77 v5 m6)
      · refine g_iconst (v := 1) (kdX12_isKeeping 39 rfl) (by decide) ?_
        refine g_goto (tgt := 70) (kdX12_isKeeping 40 rfl) (by decide) ?_
        exact g_fgt [0, 1, 2, 4, 5] rfl (BX12_isKeeping_70 v1 v2 v4 _ _ h19 h77 v5 1 m6)
def JX12_isKeeping_19 (K77 : Int32 → hM → hR) (v1 : Int32) (v2 : Int32) (v4 : Int32) : Nat → Int32 → Int32 → hM → hR
  | 0, _, _, _ => none
  | f + 1, v3, v5, m => bJX12_isKeeping_19 (fun v3 v5 m => JX12_isKeeping_19 K77 v1 v2 v4 f v3 v5 m) K77 v1 v2 v4 v3 v5 m
theorem BJX12_isKeeping_19 (K77 : Int32 → hM → hR) (v1 : Int32) (v2 : Int32) (v4 : Int32) (h77 : ∀ (v3 : Int32) (m : hM), G mX12_isKeeping 1 77 [(0, .inr (.inr (40, 0))), (1, .inl v1), (2, .inl v2), (3, .inl v3), (4, .inl v4)] [] m (K77 v3 m)) : ∀ (f : Nat) (v3 : Int32) (v5 : Int32) (m : hM), G mX12_isKeeping 1 19 [(0, .inr (.inr (40, 0))), (1, .inl v1), (2, .inl v2), (3, .inl v3), (4, .inl v4), (5, .inl v5)] [] m (JX12_isKeeping_19 K77 v1 v2 v4 f v3 v5 m)
  | 0, _, _, _ => g_none
  | f + 1, v3, v5, m => BbJX12_isKeeping_19  _ K77 v1 v2 v4 (fun v3 v5 m => BJX12_isKeeping_19  K77 v1 v2 v4 h77 f v3 v5 m) h77 v3 v5 m
def bJX12_isKeeping_7 (K7 : Int32 → Int32 → hM → hR) (K83 : Int32 → hM → hR) (v1 : Int32) (v2 : Int32) (v3 : Int32) (v4 : Int32) (m : hM) : hR :=
  if (v1 + 32) < v4 then (K83 v3 m) else (JX12_isKeeping_19 (fun v3 m8 => K7 v3 (v4 + 1) m8) v1 v2 v4 FU v3 0 m)
set_option maxRecDepth 20000 in
theorem BbJX12_isKeeping_7 (K7 : Int32 → Int32 → hM → hR) (K83 : Int32 → hM → hR) (v1 : Int32) (v2 : Int32) (h7 : ∀ (v3 : Int32) (v4 : Int32) (m : hM), G mX12_isKeeping 1 7 [(0, .inr (.inr (40, 0))), (1, .inl v1), (2, .inl v2), (3, .inl v3), (4, .inl v4)] [] m (K7 v3 v4 m)) (h83 : ∀ (v3 : Int32) (m : hM), G mX12_isKeeping 1 83 [(3, .inl v3)] [] m (K83 v3 m)) (v3 : Int32) (v4 : Int32) (m : hM) : G mX12_isKeeping 1 7 [(0, .inr (.inr (40, 0))), (1, .inl v1), (2, .inl v2), (3, .inl v3), (4, .inl v4)] [] m (bJX12_isKeeping_7 K7 K83 v1 v2 v3 v4 m) := by
  unfold bJX12_isKeeping_7
  refine g_iload 4 (kdX12_isKeeping 6 rfl) rfl ?_
  refine g_iload_n 1 (kdX12_isKeeping 7 rfl) rfl ?_
  refine g_bipush (v := 32) (kdX12_isKeeping 8 rfl) (by decide) ?_
  refine g_iadd (kdX12_isKeeping 9 rfl) ?_
  refine g_icmp_gt (tgt := 83) (kdX12_isKeeping 10 rfl) (by decide) (fun _ => ?_) (fun _ => ?_)
  · exact g_fgt [3] rfl (h83 v3 m)
  · refine g_iconst (v := 0) (kdX12_isKeeping 11 rfl) (by decide) ?_
    refine g_istore (L2 := [(5, .inl 0), (0, .inr (.inr (40, 0))), (1, .inl v1), (2, .inl v2), (3, .inl v3), (4, .inl v4)]) (kdX12_isKeeping 12 rfl) rfl (by decide) ?_
    refine g_fgt [1, 2, 3, 4, 5, 0] rfl (BJX12_isKeeping_19  _ v1 v2 v4 ?_ FU v3 0 m)
    · intro v3 m8
      refine g_iinc (v := v4 + 1) (L2 := [(4, .inl (v4 + 1)), (0, .inr (.inr (40, 0))), (1, .inl v1), (2, .inl v2), (3, .inl v3)]) 4 (kdX12_isKeeping 45 rfl) rfl rfl rfl (by decide) ?_
      refine g_goto (tgt := 7) (kdX12_isKeeping 46 rfl) (by decide) ?_
      exact g_fgt [1, 2, 3, 4, 0] rfl (h7 v3 (v4 + 1) m8)
def JX12_isKeeping_7 (K83 : Int32 → hM → hR) (v1 : Int32) (v2 : Int32) : Nat → Int32 → Int32 → hM → hR
  | 0, _, _, _ => none
  | f + 1, v3, v4, m => bJX12_isKeeping_7 (fun v3 v4 m => JX12_isKeeping_7 K83 v1 v2 f v3 v4 m) K83 v1 v2 v3 v4 m
theorem BJX12_isKeeping_7 (K83 : Int32 → hM → hR) (v1 : Int32) (v2 : Int32) (h83 : ∀ (v3 : Int32) (m : hM), G mX12_isKeeping 1 83 [(3, .inl v3)] [] m (K83 v3 m)) : ∀ (f : Nat) (v3 : Int32) (v4 : Int32) (m : hM), G mX12_isKeeping 1 7 [(0, .inr (.inr (40, 0))), (1, .inl v1), (2, .inl v2), (3, .inl v3), (4, .inl v4)] [] m (JX12_isKeeping_7 K83 v1 v2 f v3 v4 m)
  | 0, _, _, _ => g_none
  | f + 1, v3, v4, m => BbJX12_isKeeping_7  _ K83 v1 v2 (fun v3 v4 m => BJX12_isKeeping_7  K83 v1 v2 h83 f v3 v4 m) h83 v3 v4 m
def JX12_isKeeping (a1 : Int32) (a2 : Int32) (m : hM) : hR :=
  lt (a1 + 1) fun x1 =>
  JX12_isKeeping_7 (fun v3 m9 => jretZ v3 m9) a1 a2 FU 1 x1 m
set_option maxRecDepth 20000 in
theorem CX12_isKeeping (a1 : Int32) (a2 : Int32) (m : hM) : Cn mX12_isKeeping 1 [.inr (.inr (40, 0)), .inl a1, .inl a2] m (JX12_isKeeping a1 a2 m) := by
  refine cn_of (by decide +kernel) (by simp only [List.map, vcat, List.sum_cons, List.sum_nil]; decide) ?_
  unfold JX12_isKeeping
  show G mX12_isKeeping 1 0 [(0, .inr (.inr (40, 0))), (1, .inl a1), (2, .inl a2)] [] m _
  refine g_iconst (v := 1) (kdX12_isKeeping 0 rfl) (by decide) ?_
  refine g_istore_n (L2 := [(3, .inl 1), (0, .inr (.inr (40, 0))), (1, .inl a1), (2, .inl a2)]) (kdX12_isKeeping 1 rfl) rfl (by decide) ?_
  refine g_iload_n 2 (kdX12_isKeeping 2 rfl) rfl ?_
  refine g_iconst (v := 1) (kdX12_isKeeping 3 rfl) (by decide) ?_
  refine g_iadd (kdX12_isKeeping 4 rfl) ?_
  refine g_lt (fun x1 => ?_)
  refine g_istore (L2 := [(4, .inl x1), (3, .inl 1), (0, .inr (.inr (40, 0))), (1, .inl a1), (2, .inl a2)]) (kdX12_isKeeping 5 rfl) rfl (by decide) ?_
  refine g_fgt [2, 3, 4, 1, 0] rfl (BJX12_isKeeping_7  _ a1 a2 ?_ FU 1 x1 m)
  · intro v3 m9
    refine g_iload_n 0 (kdX12_isKeeping 47 rfl) rfl ?_
    exact g_zret rfl (kdX12_isKeeping 48 rfl)
def bJX12_settledBy_16 (K16 : Int32 → hM → hR) (K49 : hM → hR) (v1 : Int32) (v2 : Int32) (v3 : Int32) (m : hM) : hR :=
  calI (JX12_taps m) fun x3 m2 =>
  if x3 ≤ v3 then (K49 m2) else (ald m2 50 0 (0 + v3) fun x4 =>
  ast m2 58 0 ((6 * v2) + v3) x4 fun m5 =>
  K16 (v3 + 1) m5)
set_option maxRecDepth 20000 in
theorem BbJX12_settledBy_16 (K16 : Int32 → hM → hR) (K49 : hM → hR) (v1 : Int32) (v2 : Int32) (h16 : ∀ (v3 : Int32) (m : hM), G mX12_settledBy 4 16 [(0, .inr (.inr (40, 0))), (1, .inl v1), (2, .inl v2), (3, .inl v3)] [] m (K16 v3 m)) (h49 : ∀ (m : hM), G mX12_settledBy 4 49 [(0, .inr (.inr (40, 0))), (1, .inl v1), (2, .inl v2)] [] m (K49 m)) (v3 : Int32) (m : hM) : G mX12_settledBy 4 16 [(0, .inr (.inr (40, 0))), (1, .inl v1), (2, .inl v2), (3, .inl v3)] [] m (bJX12_settledBy_16 K16 K49 v1 v2 v3 m) := by
  unfold bJX12_settledBy_16
  refine g_iload_n 3 (kdX12_settledBy 10 rfl) rfl ?_
  refine g_aload_n 0 (kdX12_settledBy 11 rfl) rfl ?_
  refine g_calI (ck_V (As := []) (S := [.inl v3]) (t := 40) (o := 0) (kdX12_settledBy 12 rfl) iX12_taps lX12_213 rc_40 rfl rfl rfl (by decide) (by simp only [List.map, vcat, List.sum_cons, List.sum_nil]; decide)) (CX12_taps m) (fun x3 m2 => ?_)
  refine g_icmp_ge (tgt := 49) (kdX12_settledBy 13 rfl) (by decide) (fun _ => ?_) (fun _ => ?_)
  · exact g_fgt [0, 1, 2] rfl (h49 m2)
  · refine g_aload_n 0 (kdX12_settledBy 14 rfl) rfl ?_
    refine g_get (v := .inr (.inr (58, 0))) (kdX12_settledBy 15 rfl) fX12_73 rfl ?_
    refine g_bipush (v := 6) (kdX12_settledBy 16 rfl) (by decide) ?_
    refine g_iload_n 2 (kdX12_settledBy 17 rfl) rfl ?_
    refine g_imul (kdX12_settledBy 18 rfl) ?_
    refine g_iload_n 3 (kdX12_settledBy 19 rfl) rfl ?_
    refine g_iadd (kdX12_settledBy 20 rfl) ?_
    refine g_aload_n 0 (kdX12_settledBy 21 rfl) rfl ?_
    refine g_get (v := .inr (.inr (50, 0))) (kdX12_settledBy 22 rfl) fX12_37 rfl ?_
    refine g_iconst (v := 0) (kdX12_settledBy 23 rfl) (by decide) ?_
    refine g_iload_n 3 (kdX12_settledBy 24 rfl) rfl ?_
    refine g_iadd (kdX12_settledBy 25 rfl) ?_
    refine g_iald (kdX12_settledBy 26 rfl) (fun x4 => ?_)
    refine g_iast (kdX12_settledBy 27 rfl) (fun m5 => ?_)
    refine g_iinc (v := v3 + 1) (L2 := [(3, .inl (v3 + 1)), (0, .inr (.inr (40, 0))), (1, .inl v1), (2, .inl v2)]) 3 (kdX12_settledBy 28 rfl) rfl rfl rfl (by decide) ?_
    refine g_goto (tgt := 16) (kdX12_settledBy 29 rfl) (by decide) ?_
    exact g_fgt [1, 2, 3, 0] rfl (h16 (v3 + 1) m5)
def JX12_settledBy_16 (K49 : hM → hR) (v1 : Int32) (v2 : Int32) : Nat → Int32 → hM → hR
  | 0, _, _ => none
  | f + 1, v3, m => bJX12_settledBy_16 (fun v3 m => JX12_settledBy_16 K49 v1 v2 f v3 m) K49 v1 v2 v3 m
theorem BJX12_settledBy_16 (K49 : hM → hR) (v1 : Int32) (v2 : Int32) (h49 : ∀ (m : hM), G mX12_settledBy 4 49 [(0, .inr (.inr (40, 0))), (1, .inl v1), (2, .inl v2)] [] m (K49 m)) : ∀ (f : Nat) (v3 : Int32) (m : hM), G mX12_settledBy 4 16 [(0, .inr (.inr (40, 0))), (1, .inl v1), (2, .inl v2), (3, .inl v3)] [] m (JX12_settledBy_16 K49 v1 v2 f v3 m)
  | 0, _, _ => g_none
  | f + 1, v3, m => BbJX12_settledBy_16  _ K49 v1 v2 (fun v3 m => BJX12_settledBy_16  K49 v1 v2 h49 f v3 m) h49 v3 m
def bJX12_settledBy_7 (K7 : Int32 → hM → hR) (K60 : hM → hR) (v1 : Int32) (v2 : Int32) (m : hM) : hR :=
  if 233 ≤ v2 then (K60 m) else (JX12_settledBy_16 (fun m6 => calI (JX12_symbol m6) fun x8 m7 =>
  K7 (v2 + 1) m7) v1 v2 FU 0 m)
set_option maxRecDepth 20000 in
theorem BbJX12_settledBy_7 (K7 : Int32 → hM → hR) (K60 : hM → hR) (v1 : Int32) (h7 : ∀ (v2 : Int32) (m : hM), G mX12_settledBy 4 7 [(0, .inr (.inr (40, 0))), (1, .inl v1), (2, .inl v2)] [] m (K7 v2 m)) (h60 : ∀ (m : hM), G mX12_settledBy 4 60 [(0, .inr (.inr (40, 0))), (1, .inl v1)] [] m (K60 m)) (v2 : Int32) (m : hM) : G mX12_settledBy 4 7 [(0, .inr (.inr (40, 0))), (1, .inl v1), (2, .inl v2)] [] m (bJX12_settledBy_7 K7 K60 v1 v2 m) := by
  unfold bJX12_settledBy_7
  refine g_iload_n 2 (kdX12_settledBy 5 rfl) rfl ?_
  refine g_sipush (v := 233) (kdX12_settledBy 6 rfl) (by decide) ?_
  refine g_icmp_ge (tgt := 60) (kdX12_settledBy 7 rfl) (by decide) (fun _ => ?_) (fun _ => ?_)
  · exact g_fgt [0, 1] rfl (h60 m)
  · refine g_iconst (v := 0) (kdX12_settledBy 8 rfl) (by decide) ?_
    refine g_istore_n (L2 := [(3, .inl 0), (0, .inr (.inr (40, 0))), (1, .inl v1), (2, .inl v2)]) (kdX12_settledBy 9 rfl) rfl (by decide) ?_
    refine g_fgt [1, 2, 3, 0] rfl (BJX12_settledBy_16  _ v1 v2 ?_ FU 0 m)
    · intro m6
      refine g_aload_n 0 (kdX12_settledBy 30 rfl) rfl ?_
      refine g_calI (ck_V (As := []) (S := []) (t := 40) (o := 0) (kdX12_settledBy 31 rfl) iX12_symbol lX12_287 rc_40 rfl rfl rfl (by decide) (by simp only [List.map, vcat, List.sum_cons, List.sum_nil]; decide)) (CX12_symbol m6) (fun x8 m7 => ?_)
      refine g_pop (kdX12_settledBy 32 rfl) rfl ?_
      refine g_iinc (v := v2 + 1) (L2 := [(2, .inl (v2 + 1)), (0, .inr (.inr (40, 0))), (1, .inl v1)]) 2 (kdX12_settledBy 33 rfl) rfl rfl rfl (by decide) ?_
      refine g_goto (tgt := 7) (kdX12_settledBy 34 rfl) (by decide) ?_
      exact g_fgt [1, 2, 0] rfl (h7 (v2 + 1) m7)
def JX12_settledBy_7 (K60 : hM → hR) (v1 : Int32) : Nat → Int32 → hM → hR
  | 0, _, _ => none
  | f + 1, v2, m => bJX12_settledBy_7 (fun v2 m => JX12_settledBy_7 K60 v1 f v2 m) K60 v1 v2 m
theorem BJX12_settledBy_7 (K60 : hM → hR) (v1 : Int32) (h60 : ∀ (m : hM), G mX12_settledBy 4 60 [(0, .inr (.inr (40, 0))), (1, .inl v1)] [] m (K60 m)) : ∀ (f : Nat) (v2 : Int32) (m : hM), G mX12_settledBy 4 7 [(0, .inr (.inr (40, 0))), (1, .inl v1), (2, .inl v2)] [] m (JX12_settledBy_7 K60 v1 f v2 m)
  | 0, _, _ => g_none
  | f + 1, v2, m => BbJX12_settledBy_7  _ K60 v1 (fun v2 m => BJX12_settledBy_7  K60 v1 h60 f v2 m) h60 v2 m
def bJX12_settledBy_67 (K67 : Int32 → hM → hR) (K83 : Int32 → hM → hR) (K91 : hM → hR) (v1 : Int32) (v2 : Int32) (m : hM) : hR :=
  if 200 < v2 then (K91 m) else (calI (JX12_isKeeping v2 v1 m) fun x12 m11 =>
  if x12 = 0 then (K67 (v2 + 1) m11) else (K83 v2 m11))
set_option maxRecDepth 20000 in
theorem BbJX12_settledBy_67 (K67 : Int32 → hM → hR) (K83 : Int32 → hM → hR) (K91 : hM → hR) (v1 : Int32) (h67 : ∀ (v2 : Int32) (m : hM), G mX12_settledBy 4 67 [(0, .inr (.inr (40, 0))), (1, .inl v1), (2, .inl v2)] [] m (K67 v2 m)) (h83 : ∀ (v2 : Int32) (m : hM), G mX12_settledBy 4 83 [(2, .inl v2)] [] m (K83 v2 m)) (h91 : ∀ (m : hM), G mX12_settledBy 4 91 [] [] m (K91 m)) (v2 : Int32) (m : hM) : G mX12_settledBy 4 67 [(0, .inr (.inr (40, 0))), (1, .inl v1), (2, .inl v2)] [] m (bJX12_settledBy_67 K67 K83 K91 v1 v2 m) := by
  unfold bJX12_settledBy_67
  refine g_iload_n 2 (kdX12_settledBy 40 rfl) rfl ?_
  refine g_sipush (v := 200) (kdX12_settledBy 41 rfl) (by decide) ?_
  refine g_icmp_gt (tgt := 91) (kdX12_settledBy 42 rfl) (by decide) (fun _ => ?_) (fun _ => ?_)
  · exact g_fgt [] rfl (h91 m)
  · refine g_aload_n 0 (kdX12_settledBy 43 rfl) rfl ?_
    refine g_iload_n 2 (kdX12_settledBy 44 rfl) rfl ?_
    refine g_iload_n 1 (kdX12_settledBy 45 rfl) rfl ?_
    refine g_calI (ck_V (As := [.inl v2, .inl v1]) (S := []) (t := 40) (o := 0) (kdX12_settledBy 46 rfl) iX12_isKeeping lX12_386 rc_40 rfl rfl rfl (by decide) (by simp only [List.map, vcat, List.sum_cons, List.sum_nil]; decide)) (CX12_isKeeping v2 v1 m) (fun x12 m11 => ?_)
    refine g_if_eq (tgt := 85) (kdX12_settledBy 47 rfl) (by decide) (fun _ => ?_) (fun _ => ?_)
    · refine g_iinc (v := v2 + 1) (L2 := [(2, .inl (v2 + 1)), (0, .inr (.inr (40, 0))), (1, .inl v1)]) 2 (kdX12_settledBy 50 rfl) rfl rfl rfl (by decide) ?_
      refine g_goto (tgt := 67) (kdX12_settledBy 51 rfl) (by decide) ?_
      exact g_fgt [1, 2, 0] rfl (h67 (v2 + 1) m11)
    · exact g_fgt [2] rfl (h83 v2 m11)
def JX12_settledBy_67 (K83 : Int32 → hM → hR) (K91 : hM → hR) (v1 : Int32) : Nat → Int32 → hM → hR
  | 0, _, _ => none
  | f + 1, v2, m => bJX12_settledBy_67 (fun v2 m => JX12_settledBy_67 K83 K91 v1 f v2 m) K83 K91 v1 v2 m
theorem BJX12_settledBy_67 (K83 : Int32 → hM → hR) (K91 : hM → hR) (v1 : Int32) (h83 : ∀ (v2 : Int32) (m : hM), G mX12_settledBy 4 83 [(2, .inl v2)] [] m (K83 v2 m)) (h91 : ∀ (m : hM), G mX12_settledBy 4 91 [] [] m (K91 m)) : ∀ (f : Nat) (v2 : Int32) (m : hM), G mX12_settledBy 4 67 [(0, .inr (.inr (40, 0))), (1, .inl v1), (2, .inl v2)] [] m (JX12_settledBy_67 K83 K91 v1 f v2 m)
  | 0, _, _ => g_none
  | f + 1, v2, m => BbJX12_settledBy_67  _ K83 K91 v1 (fun v2 m => BJX12_settledBy_67  K83 K91 v1 h83 h91 f v2 m) h83 h91 v2 m
def JX12_settledBy (a1 : Int32) (m : hM) : hR :=
  calV (JX12_putAside 0 m) fun m1 =>
  JX12_settledBy_7 (fun m9 => calV (JX12_bringBack 0 m9) fun m10 =>
  JX12_settledBy_67 (fun v2 m13 => some (some (.inl v2), m13)) (fun m14 => some (some (.inl (-1)), m14)) a1 FU 0 m10) a1 FU 0 m1
set_option maxRecDepth 20000 in
theorem CX12_settledBy (a1 : Int32) (m : hM) : Cn mX12_settledBy 4 [.inr (.inr (40, 0)), .inl a1] m (JX12_settledBy a1 m) := by
  refine cn_of (by decide +kernel) (by simp only [List.map, vcat, List.sum_cons, List.sum_nil]; decide) ?_
  unfold JX12_settledBy
  show G mX12_settledBy 4 0 [(0, .inr (.inr (40, 0))), (1, .inl a1)] [] m _
  refine g_aload_n 0 (kdX12_settledBy 0 rfl) rfl ?_
  refine g_iconst (v := 0) (kdX12_settledBy 1 rfl) (by decide) ?_
  refine g_calV (ck_V (As := [.inl 0]) (S := []) (t := 40) (o := 0) (kdX12_settledBy 2 rfl) iX12_putAside lX12_355 rc_40 rfl rfl rfl (by decide) (by simp only [List.map, vcat, List.sum_cons, List.sum_nil]; decide)) (CX12_putAside 0 m) (fun m1 => ?_)
  refine g_iconst (v := 0) (kdX12_settledBy 3 rfl) (by decide) ?_
  refine g_istore_n (L2 := [(2, .inl 0), (0, .inr (.inr (40, 0))), (1, .inl a1)]) (kdX12_settledBy 4 rfl) rfl (by decide) ?_
  refine g_fgt [1, 2, 0] rfl (BJX12_settledBy_7  _ a1 ?_ FU 0 m1)
  · intro m9
    refine g_aload_n 0 (kdX12_settledBy 35 rfl) rfl ?_
    refine g_iconst (v := 0) (kdX12_settledBy 36 rfl) (by decide) ?_
    refine g_calV (ck_V (As := [.inl 0]) (S := []) (t := 40) (o := 0) (kdX12_settledBy 37 rfl) iX12_bringBack lX12_362 rc_40 rfl rfl rfl (by decide) (by simp only [List.map, vcat, List.sum_cons, List.sum_nil]; decide)) (CX12_bringBack 0 m9) (fun m10 => ?_)
    refine g_iconst (v := 0) (kdX12_settledBy 38 rfl) (by decide) ?_
    refine g_istore_n (L2 := [(2, .inl 0), (0, .inr (.inr (40, 0))), (1, .inl a1)]) (kdX12_settledBy 39 rfl) rfl (by decide) ?_
    refine g_fgt [1, 2, 0] rfl (BJX12_settledBy_67  _ _ a1 ?_ ?_ FU 0 m10)
    · intro v2 m13
      refine g_iload_n 0 (kdX12_settledBy 48 rfl) rfl ?_
      exact g_iret rfl (kdX12_settledBy 49 rfl)
    · intro m14
      refine g_iconst (v := (-1)) (kdX12_settledBy 52 rfl) (by decide) ?_
      exact g_iret rfl (kdX12_settledBy 53 rfl)
def JX12_settled (a1 : Int32) (m : hM) : hR :=
  if (m.1 40 0 15) = 0 then (some (some (.inl (-1)), m)) else (calI (JX12_in a1 0 20 m) fun x2 m1 =>
  if x2 = 0 then (some (some (.inl (-1)), m1)) else (calI (JX12_settledBy a1 m1) fun x4 m3 =>
  some (some (.inl x4), m3)))
set_option maxRecDepth 20000 in
theorem CX12_settled (a1 : Int32) (m : hM) : Cn mX12_settled 5 [.inr (.inr (40, 0)), .inl a1] m (JX12_settled a1 m) := by
  refine cn_of (by decide +kernel) (by simp only [List.map, vcat, List.sum_cons, List.sum_nil]; decide) ?_
  unfold JX12_settled
  show G mX12_settled 5 0 [(0, .inr (.inr (40, 0))), (1, .inl a1)] [] m _
  refine g_aload_n 0 (kdX12_settled 0 rfl) rfl ?_
  refine g_get (v := .inl (m.1 40 0 15)) (kdX12_settled 1 rfl) fX12_203 rfl ?_
  refine g_if_eq (tgt := 25) (kdX12_settled 2 rfl) (by decide) (fun _ => ?_) (fun _ => ?_)
  · refine g_iconst (v := (-1)) (kdX12_settled 12 rfl) (by decide) ?_
    exact g_iret rfl (kdX12_settled 13 rfl)
  · refine g_iload_n 1 (kdX12_settled 3 rfl) rfl ?_
    refine g_iconst (v := 0) (kdX12_settled 4 rfl) (by decide) ?_
    refine g_bipush (v := 20) (kdX12_settled 5 rfl) (by decide) ?_
    refine g_calI (ck_S (As := [.inl a1, .inl 0, .inl 20]) (S := []) (kdX12_settled 6 rfl) iX12_in lX12_89 rfl rfl rfl (by decide) (by simp only [List.map, vcat, List.sum_cons, List.sum_nil]; decide)) (CX12_in a1 0 20 m) (fun x2 m1 => ?_)
    refine g_if_eq (tgt := 25) (kdX12_settled 7 rfl) (by decide) (fun _ => ?_) (fun _ => ?_)
    · refine g_iconst (v := (-1)) (kdX12_settled 12 rfl) (by decide) ?_
      exact g_iret rfl (kdX12_settled 13 rfl)
    · refine g_aload_n 0 (kdX12_settled 8 rfl) rfl ?_
      refine g_iload_n 1 (kdX12_settled 9 rfl) rfl ?_
      refine g_calI (ck_V (As := [.inl a1]) (S := []) (t := 40) (o := 0) (kdX12_settled 10 rfl) iX12_settledBy lX12_389 rc_40 rfl rfl rfl (by decide) (by simp only [List.map, vcat, List.sum_cons, List.sum_nil]; decide)) (CX12_settledBy a1 m1) (fun x4 m3 => ?_)
      refine g_goto (tgt := 26) (kdX12_settled 11 rfl) (by decide) ?_
      exact g_iret rfl (kdX12_settled 13 rfl)
def JX12_quickest_69 (K26 : Int32 → Int32 → Int32 → hM → hR) (K75 : Int32 → hM → hR) (v1 : Int32) (v2 : Int32) (v3 : Int32) (v4 : Int32) (m : hM) : hR :=
  K26 v2 v3 (v4 + 1) m
set_option maxRecDepth 20000 in
theorem BX12_quickest_69 (v1 : Int32) (K26 : Int32 → Int32 → Int32 → hM → hR) (K75 : Int32 → hM → hR) (h26 : ∀ (v2 : Int32) (v3 : Int32) (v4 : Int32) (m : hM), G mX12_quickest 5 26 [(0, .inr (.inr (40, 0))), (1, .inl v1), (2, .inl v2), (3, .inl v3), (4, .inl v4)] [] m (K26 v2 v3 v4 m)) (h75 : ∀ (v2 : Int32) (m : hM), G mX12_quickest 5 75 [(0, .inr (.inr (40, 0))), (2, .inl v2)] [] m (K75 v2 m)) (v2 : Int32) (v3 : Int32) (v4 : Int32) (m : hM) : G mX12_quickest 5 69 [(0, .inr (.inr (40, 0))), (1, .inl v1), (2, .inl v2), (3, .inl v3), (4, .inl v4)] [] m (JX12_quickest_69 K26 K75 v1 v2 v3 v4 m) := by
  unfold JX12_quickest_69
  refine g_iinc (v := v4 + 1) (L2 := [(4, .inl (v4 + 1)), (0, .inr (.inr (40, 0))), (1, .inl v1), (2, .inl v2), (3, .inl v3)]) 4 (kdX12_quickest 39 rfl) rfl rfl rfl (by decide) ?_
  refine g_goto (tgt := 26) (kdX12_quickest 40 rfl) (by decide) ?_
  exact g_fgt [1, 2, 3, 4, 0] rfl (h26 v2 v3 (v4 + 1) m)
def JX12_quickest_63 (K26 : Int32 → Int32 → Int32 → hM → hR) (K75 : Int32 → hM → hR) (v1 : Int32) (v4 : Int32) (v5 : Int32) (m : hM) : hR :=
  JX12_quickest_69 K26 K75 v1 v4 v5 v4 m
set_option maxRecDepth 20000 in
theorem BX12_quickest_63 (v1 : Int32) (K26 : Int32 → Int32 → Int32 → hM → hR) (K75 : Int32 → hM → hR) (h26 : ∀ (v2 : Int32) (v3 : Int32) (v4 : Int32) (m : hM), G mX12_quickest 5 26 [(0, .inr (.inr (40, 0))), (1, .inl v1), (2, .inl v2), (3, .inl v3), (4, .inl v4)] [] m (K26 v2 v3 v4 m)) (h75 : ∀ (v2 : Int32) (m : hM), G mX12_quickest 5 75 [(0, .inr (.inr (40, 0))), (2, .inl v2)] [] m (K75 v2 m)) (v4 : Int32) (v5 : Int32) (m : hM) : G mX12_quickest 5 63 [(0, .inr (.inr (40, 0))), (1, .inl v1), (4, .inl v4), (5, .inl v5)] [] m (JX12_quickest_63 K26 K75 v1 v4 v5 m) := by
  unfold JX12_quickest_63
  refine g_iload 2 (kdX12_quickest 35 rfl) rfl ?_
  refine g_istore_n (L2 := [(2, .inl v4), (0, .inr (.inr (40, 0))), (1, .inl v1), (4, .inl v4), (5, .inl v5)]) (kdX12_quickest 36 rfl) rfl (by decide) ?_
  refine g_iload 4 (kdX12_quickest 37 rfl) rfl ?_
  refine g_istore_n (L2 := [(3, .inl v5), (2, .inl v4), (0, .inr (.inr (40, 0))), (1, .inl v1), (4, .inl v4), (5, .inl v5)]) (kdX12_quickest 38 rfl) rfl (by decide) ?_
  exact g_fgt [2, 3, 1, 0, 4] rfl (BX12_quickest_69 v1 _ _ h26 h75 v4 v5 v4 m)
def bJX12_quickest_26 (K26 : Int32 → Int32 → Int32 → hM → hR) (K75 : Int32 → hM → hR) (v1 : Int32) (v2 : Int32) (v3 : Int32) (v4 : Int32) (m : hM) : hR :=
  if 10 ≤ v4 then (K75 v2 m) else (stI m 40 0 22 v4 fun m3 =>
  calI (JX12_settledBy v1 m3) fun x5 m4 =>
  if x5 = (-1) then (JX12_quickest_69 K26 K75 v1 v2 v3 v4 m4) else (if v2 = (-1) then (JX12_quickest_63 K26 K75 v1 v4 x5 m4) else (if v3 ≤ x5 then (JX12_quickest_69 K26 K75 v1 v2 v3 v4 m4) else (JX12_quickest_63 K26 K75 v1 v4 x5 m4))))
set_option maxRecDepth 20000 in
theorem BbJX12_quickest_26 (K26 : Int32 → Int32 → Int32 → hM → hR) (K75 : Int32 → hM → hR) (v1 : Int32) (h26 : ∀ (v2 : Int32) (v3 : Int32) (v4 : Int32) (m : hM), G mX12_quickest 5 26 [(0, .inr (.inr (40, 0))), (1, .inl v1), (2, .inl v2), (3, .inl v3), (4, .inl v4)] [] m (K26 v2 v3 v4 m)) (h75 : ∀ (v2 : Int32) (m : hM), G mX12_quickest 5 75 [(0, .inr (.inr (40, 0))), (2, .inl v2)] [] m (K75 v2 m)) (v2 : Int32) (v3 : Int32) (v4 : Int32) (m : hM) : G mX12_quickest 5 26 [(0, .inr (.inr (40, 0))), (1, .inl v1), (2, .inl v2), (3, .inl v3), (4, .inl v4)] [] m (bJX12_quickest_26 K26 K75 v1 v2 v3 v4 m) := by
  unfold bJX12_quickest_26
  refine g_iload 4 (kdX12_quickest 16 rfl) rfl ?_
  refine g_bipush (v := 10) (kdX12_quickest 17 rfl) (by decide) ?_
  refine g_icmp_ge (tgt := 75) (kdX12_quickest 18 rfl) (by decide) (fun _ => ?_) (fun _ => ?_)
  · exact g_fgt [0, 2] rfl (h75 v2 m)
  · refine g_aload_n 0 (kdX12_quickest 19 rfl) rfl ?_
    refine g_iload 4 (kdX12_quickest 20 rfl) rfl ?_
    refine g_putI (kdX12_quickest 21 rfl) fX12_47 rfl (fun m3 => ?_)
    refine g_aload_n 0 (kdX12_quickest 22 rfl) rfl ?_
    refine g_iload_n 1 (kdX12_quickest 23 rfl) rfl ?_
    refine g_calI (ck_V (As := [.inl v1]) (S := []) (t := 40) (o := 0) (kdX12_quickest 24 rfl) iX12_settledBy lX12_389 rc_40 rfl rfl rfl (by decide) (by simp only [List.map, vcat, List.sum_cons, List.sum_nil]; decide)) (CX12_settledBy v1 m3) (fun x5 m4 => ?_)
    refine g_istore (L2 := [(5, .inl x5), (0, .inr (.inr (40, 0))), (1, .inl v1), (2, .inl v2), (3, .inl v3), (4, .inl v4)]) (kdX12_quickest 25 rfl) rfl (by decide) ?_
    refine g_iload 0 (kdX12_quickest 26 rfl) rfl ?_
    refine g_iconst (v := (-1)) (kdX12_quickest 27 rfl) (by decide) ?_
    refine g_icmp_eq (tgt := 69) (kdX12_quickest 28 rfl) (by decide) (fun _ => ?_) (fun _ => ?_)
    · exact g_fgt [1, 2, 3, 4, 5] rfl (BX12_quickest_69 v1 _ _ h26 h75 v2 v3 v4 m4)
    · refine g_iload_n 3 (kdX12_quickest 29 rfl) rfl ?_
      refine g_iconst (v := (-1)) (kdX12_quickest 30 rfl) (by decide) ?_
      refine g_icmp_eq (tgt := 63) (kdX12_quickest 31 rfl) (by decide) (fun _ => ?_) (fun _ => ?_)
      · exact g_fgt [1, 2, 5, 0] rfl (BX12_quickest_63 v1 _ _ h26 h75 v4 x5 m4)
      · refine g_iload 0 (kdX12_quickest 32 rfl) rfl ?_
        refine g_iload_n 4 (kdX12_quickest 33 rfl) rfl ?_
        refine g_icmp_ge (tgt := 69) (kdX12_quickest 34 rfl) (by decide) (fun _ => ?_) (fun _ => ?_)
        · exact g_fgt [1, 2, 3, 4, 5] rfl (BX12_quickest_69 v1 _ _ h26 h75 v2 v3 v4 m4)
        · exact g_fgt [1, 2, 5, 0] rfl (BX12_quickest_63 v1 _ _ h26 h75 v4 x5 m4)
def JX12_quickest_26 (K75 : Int32 → hM → hR) (v1 : Int32) : Nat → Int32 → Int32 → Int32 → hM → hR
  | 0, _, _, _, _ => none
  | f + 1, v2, v3, v4, m => bJX12_quickest_26 (fun v2 v3 v4 m => JX12_quickest_26 K75 v1 f v2 v3 v4 m) K75 v1 v2 v3 v4 m
theorem BJX12_quickest_26 (K75 : Int32 → hM → hR) (v1 : Int32) (h75 : ∀ (v2 : Int32) (m : hM), G mX12_quickest 5 75 [(0, .inr (.inr (40, 0))), (2, .inl v2)] [] m (K75 v2 m)) : ∀ (f : Nat) (v2 : Int32) (v3 : Int32) (v4 : Int32) (m : hM), G mX12_quickest 5 26 [(0, .inr (.inr (40, 0))), (1, .inl v1), (2, .inl v2), (3, .inl v3), (4, .inl v4)] [] m (JX12_quickest_26 K75 v1 f v2 v3 v4 m)
  | 0, _, _, _, _ => g_none
  | f + 1, v2, v3, v4, m => BbJX12_quickest_26  _ K75 v1 (fun v2 v3 v4 m => BJX12_quickest_26  K75 v1 h75 f v2 v3 v4 m) h75 v2 v3 v4 m
def JX12_quickest (a1 : Int32) (m : hM) : hR :=
  if (m.1 40 0 15) = 0 then (some (some (.inl (-1)), m)) else (calI (JX12_in a1 0 20 m) fun x2 m1 =>
  if x2 = 0 then (some (some (.inl (-1)), m1)) else (JX12_quickest_26 (fun v2 m6 => ald m6 45 0 5 fun x7 =>
  stI m6 40 0 22 x7 fun m8 =>
  some (some (.inl v2), m8)) a1 FU (-1) 0 1 m1))
set_option maxRecDepth 20000 in
theorem CX12_quickest (a1 : Int32) (m : hM) : Cn mX12_quickest 5 [.inr (.inr (40, 0)), .inl a1] m (JX12_quickest a1 m) := by
  refine cn_of (by decide +kernel) (by simp only [List.map, vcat, List.sum_cons, List.sum_nil]; decide) ?_
  unfold JX12_quickest
  show G mX12_quickest 5 0 [(0, .inr (.inr (40, 0))), (1, .inl a1)] [] m _
  refine g_aload_n 0 (kdX12_quickest 0 rfl) rfl ?_
  refine g_get (v := .inl (m.1 40 0 15)) (kdX12_quickest 1 rfl) fX12_203 rfl ?_
  refine g_if_eq (tgt := 17) (kdX12_quickest 2 rfl) (by decide) (fun _ => ?_) (fun _ => ?_)
  · refine g_iconst (v := (-1)) (kdX12_quickest 8 rfl) (by decide) ?_
    exact g_iret rfl (kdX12_quickest 9 rfl)
  · refine g_iload_n 1 (kdX12_quickest 3 rfl) rfl ?_
    refine g_iconst (v := 0) (kdX12_quickest 4 rfl) (by decide) ?_
    refine g_bipush (v := 20) (kdX12_quickest 5 rfl) (by decide) ?_
    refine g_calI (ck_S (As := [.inl a1, .inl 0, .inl 20]) (S := []) (kdX12_quickest 6 rfl) iX12_in lX12_89 rfl rfl rfl (by decide) (by simp only [List.map, vcat, List.sum_cons, List.sum_nil]; decide)) (CX12_in a1 0 20 m) (fun x2 m1 => ?_)
    refine g_if_ne (tgt := 19) (kdX12_quickest 7 rfl) (by decide) (fun _ => ?_) (fun _ => ?_)
    · refine g_iconst (v := (-1)) (kdX12_quickest 10 rfl) (by decide) ?_
      refine g_istore_n (L2 := [(2, .inl (-1)), (0, .inr (.inr (40, 0))), (1, .inl a1)]) (kdX12_quickest 11 rfl) rfl (by decide) ?_
      refine g_iconst (v := 0) (kdX12_quickest 12 rfl) (by decide) ?_
      refine g_istore_n (L2 := [(3, .inl 0), (2, .inl (-1)), (0, .inr (.inr (40, 0))), (1, .inl a1)]) (kdX12_quickest 13 rfl) rfl (by decide) ?_
      refine g_iconst (v := 1) (kdX12_quickest 14 rfl) (by decide) ?_
      refine g_istore (L2 := [(4, .inl 1), (3, .inl 0), (2, .inl (-1)), (0, .inr (.inr (40, 0))), (1, .inl a1)]) (kdX12_quickest 15 rfl) rfl (by decide) ?_
      refine g_fgt [3, 4, 2, 1, 0] rfl (BJX12_quickest_26  _ a1 ?_ FU (-1) 0 1 m1)
      · intro v2 m6
        refine g_aload_n 0 (kdX12_quickest 41 rfl) rfl ?_
        refine g_aload_n 0 (kdX12_quickest 42 rfl) rfl ?_
        refine g_get (v := .inr (.inr (45, 0))) (kdX12_quickest 43 rfl) fX12_22 rfl ?_
        refine g_iconst (v := 5) (kdX12_quickest 44 rfl) (by decide) ?_
        refine g_iald (kdX12_quickest 45 rfl) (fun x7 => ?_)
        refine g_putI (kdX12_quickest 46 rfl) fX12_47 rfl (fun m8 => ?_)
        refine g_iload_n 1 (kdX12_quickest 47 rfl) rfl ?_
        exact g_iret rfl (kdX12_quickest 48 rfl)
    · refine g_iconst (v := (-1)) (kdX12_quickest 8 rfl) (by decide) ?_
      exact g_iret rfl (kdX12_quickest 9 rfl)
def JX12_coming_172 (v100 : Int32) (m : hM) : hR :=
  calV (JX12_bringBack 0 m) fun m9 =>
  some (some (.inl v100), m9)
set_option maxRecDepth 20000 in
theorem BX12_coming_172 (v100 : Int32) (m : hM) : G mX12_coming 5 172 [(0, .inr (.inr (40, 0)))] [.inl v100] m (JX12_coming_172 v100 m) := by
  unfold JX12_coming_172
  refine g_istore (L2 := [(4, .inl v100), (0, .inr (.inr (40, 0)))]) (kdX12_coming 89 rfl) rfl (by decide) ?_
  refine g_aload_n 1 (kdX12_coming 90 rfl) rfl ?_
  refine g_iconst (v := 0) (kdX12_coming 91 rfl) (by decide) ?_
  refine g_calV (ck_V (As := [.inl 0]) (S := []) (t := 40) (o := 0) (kdX12_coming 92 rfl) iX12_bringBack lX12_362 rc_40 rfl rfl rfl (by decide) (by simp only [List.map, vcat, List.sum_cons, List.sum_nil]; decide)) (CX12_bringBack 0 m) (fun m9 => ?_)
  refine g_iload 0 (kdX12_coming 93 rfl) rfl ?_
  exact g_iret rfl (kdX12_coming 94 rfl)
def JX12_coming_44 (v1 : Int32) (v2 : Int32) (m : hM) : hR :=
  calV (JX12_putAside 0 m) fun m5 =>
  calI (JX12_symbols v1 m5) fun x7 m6 =>
  if 6 ≤ v2 then (if v2 = 6 then (JX12_coming_172 x7 m6) else (if v2 = 7 then (ald m6 50 0 44 fun x14 =>
  calI (JX12_size x14 m6) fun x16 m15 =>
  JX12_coming_172 x16 m15) else (if v2 = 8 then (ald m6 50 0 18 fun x13 =>
  JX12_coming_172 x13 m6) else (if v2 = 9 then (ald m6 50 0 27 fun x12 =>
  JX12_coming_172 x12 m6) else (if v2 = 10 then (ald m6 50 0 17 fun x11 =>
  JX12_coming_172 x11 m6) else (if v2 = 11 then (ald m6 50 0 14 fun x10 =>
  JX12_coming_172 x10 m6) else (ald m6 50 0 12 fun x8 =>
  JX12_coming_172 x8 m6))))))) else (ald m6 50 0 (0 + v2) fun x17 =>
  JX12_coming_172 x17 m6)
set_option maxRecDepth 20000 in
theorem BX12_coming_44 (v1 : Int32) (v2 : Int32) (m : hM) : G mX12_coming 5 44 [(0, .inr (.inr (40, 0))), (1, .inl v1), (2, .inl v2)] [] m (JX12_coming_44 v1 v2 m) := by
  unfold JX12_coming_44
  refine g_aload_n 0 (kdX12_coming 22 rfl) rfl ?_
  refine g_iconst (v := 0) (kdX12_coming 23 rfl) (by decide) ?_
  refine g_calV (ck_V (As := [.inl 0]) (S := []) (t := 40) (o := 0) (kdX12_coming 24 rfl) iX12_putAside lX12_355 rc_40 rfl rfl rfl (by decide) (by simp only [List.map, vcat, List.sum_cons, List.sum_nil]; decide)) (CX12_putAside 0 m) (fun m5 => ?_)
  refine g_aload_n 0 (kdX12_coming 25 rfl) rfl ?_
  refine g_iload_n 1 (kdX12_coming 26 rfl) rfl ?_
  refine g_calI (ck_V (As := [.inl v1]) (S := []) (t := 40) (o := 0) (kdX12_coming 27 rfl) iX12_symbols lX12_319 rc_40 rfl rfl rfl (by decide) (by simp only [List.map, vcat, List.sum_cons, List.sum_nil]; decide)) (CX12_symbols v1 m5) (fun x7 m6 => ?_)
  refine g_istore_n (L2 := [(3, .inl x7), (0, .inr (.inr (40, 0))), (1, .inl v1), (2, .inl v2)]) (kdX12_coming 28 rfl) rfl (by decide) ?_
  refine g_iload_n 3 (kdX12_coming 29 rfl) rfl ?_
  refine g_bipush (v := 6) (kdX12_coming 30 rfl) (by decide) ?_
  refine g_icmp_ge (tgt := 72) (kdX12_coming 31 rfl) (by decide) (fun _ => ?_) (fun _ => ?_)
  · refine g_iload_n 3 (kdX12_coming 39 rfl) rfl ?_
    refine g_bipush (v := 6) (kdX12_coming 40 rfl) (by decide) ?_
    refine g_icmp_ne (tgt := 82) (kdX12_coming 41 rfl) (by decide) (fun _ => ?_) (fun _ => ?_)
    · refine g_iload_n 3 (kdX12_coming 44 rfl) rfl ?_
      refine g_bipush (v := 7) (kdX12_coming 45 rfl) (by decide) ?_
      refine g_icmp_ne (tgt := 101) (kdX12_coming 46 rfl) (by decide) (fun _ => ?_) (fun _ => ?_)
      · refine g_iload_n 3 (kdX12_coming 53 rfl) rfl ?_
        refine g_bipush (v := 8) (kdX12_coming 54 rfl) (by decide) ?_
        refine g_icmp_ne (tgt := 117) (kdX12_coming 55 rfl) (by decide) (fun _ => ?_) (fun _ => ?_)
        · refine g_iload_n 3 (kdX12_coming 61 rfl) rfl ?_
          refine g_bipush (v := 9) (kdX12_coming 62 rfl) (by decide) ?_
          refine g_icmp_ne (tgt := 133) (kdX12_coming 63 rfl) (by decide) (fun _ => ?_) (fun _ => ?_)
          · refine g_iload_n 3 (kdX12_coming 69 rfl) rfl ?_
            refine g_bipush (v := 10) (kdX12_coming 70 rfl) (by decide) ?_
            refine g_icmp_ne (tgt := 149) (kdX12_coming 71 rfl) (by decide) (fun _ => ?_) (fun _ => ?_)
            · refine g_iload_n 3 (kdX12_coming 77 rfl) rfl ?_
              refine g_bipush (v := 11) (kdX12_coming 78 rfl) (by decide) ?_
              refine g_icmp_ne (tgt := 165) (kdX12_coming 79 rfl) (by decide) (fun _ => ?_) (fun _ => ?_)
              · refine g_aload_n 1 (kdX12_coming 85 rfl) rfl ?_
                refine g_get (v := .inr (.inr (50, 0))) (kdX12_coming 86 rfl) fX12_37 rfl ?_
                refine g_bipush (v := 12) (kdX12_coming 87 rfl) (by decide) ?_
                refine g_iald (kdX12_coming 88 rfl) (fun x8 => ?_)
                exact g_fgt [1] rfl (BX12_coming_172 x8 m6)
              · refine g_aload_n 1 (kdX12_coming 80 rfl) rfl ?_
                refine g_get (v := .inr (.inr (50, 0))) (kdX12_coming 81 rfl) fX12_37 rfl ?_
                refine g_bipush (v := 14) (kdX12_coming 82 rfl) (by decide) ?_
                refine g_iald (kdX12_coming 83 rfl) (fun x10 => ?_)
                refine g_goto (tgt := 172) (kdX12_coming 84 rfl) (by decide) ?_
                exact g_fgt [1] rfl (BX12_coming_172 x10 m6)
            · refine g_aload_n 1 (kdX12_coming 72 rfl) rfl ?_
              refine g_get (v := .inr (.inr (50, 0))) (kdX12_coming 73 rfl) fX12_37 rfl ?_
              refine g_bipush (v := 17) (kdX12_coming 74 rfl) (by decide) ?_
              refine g_iald (kdX12_coming 75 rfl) (fun x11 => ?_)
              refine g_goto (tgt := 172) (kdX12_coming 76 rfl) (by decide) ?_
              exact g_fgt [1] rfl (BX12_coming_172 x11 m6)
          · refine g_aload_n 1 (kdX12_coming 64 rfl) rfl ?_
            refine g_get (v := .inr (.inr (50, 0))) (kdX12_coming 65 rfl) fX12_37 rfl ?_
            refine g_bipush (v := 27) (kdX12_coming 66 rfl) (by decide) ?_
            refine g_iald (kdX12_coming 67 rfl) (fun x12 => ?_)
            refine g_goto (tgt := 172) (kdX12_coming 68 rfl) (by decide) ?_
            exact g_fgt [1] rfl (BX12_coming_172 x12 m6)
        · refine g_aload_n 1 (kdX12_coming 56 rfl) rfl ?_
          refine g_get (v := .inr (.inr (50, 0))) (kdX12_coming 57 rfl) fX12_37 rfl ?_
          refine g_bipush (v := 18) (kdX12_coming 58 rfl) (by decide) ?_
          refine g_iald (kdX12_coming 59 rfl) (fun x13 => ?_)
          refine g_goto (tgt := 172) (kdX12_coming 60 rfl) (by decide) ?_
          exact g_fgt [1] rfl (BX12_coming_172 x13 m6)
      · refine g_aload_n 1 (kdX12_coming 47 rfl) rfl ?_
        refine g_get (v := .inr (.inr (50, 0))) (kdX12_coming 48 rfl) fX12_37 rfl ?_
        refine g_bipush (v := 44) (kdX12_coming 49 rfl) (by decide) ?_
        refine g_iald (kdX12_coming 50 rfl) (fun x14 => ?_)
        refine g_calI (ck_S (As := [.inl x14]) (S := []) (kdX12_coming 51 rfl) iX12_size lX12_239 rfl rfl rfl (by decide) (by simp only [List.map, vcat, List.sum_cons, List.sum_nil]; decide)) (CX12_size x14 m6) (fun x16 m15 => ?_)
        refine g_goto (tgt := 172) (kdX12_coming 52 rfl) (by decide) ?_
        exact g_fgt [1] rfl (BX12_coming_172 x16 m15)
    · refine g_iload_n 0 (kdX12_coming 42 rfl) rfl ?_
      refine g_goto (tgt := 172) (kdX12_coming 43 rfl) (by decide) ?_
      exact g_fgt [1] rfl (BX12_coming_172 x7 m6)
  · refine g_aload_n 1 (kdX12_coming 32 rfl) rfl ?_
    refine g_get (v := .inr (.inr (50, 0))) (kdX12_coming 33 rfl) fX12_37 rfl ?_
    refine g_iconst (v := 0) (kdX12_coming 34 rfl) (by decide) ?_
    refine g_iload_n 3 (kdX12_coming 35 rfl) rfl ?_
    refine g_iadd (kdX12_coming 36 rfl) ?_
    refine g_iald (kdX12_coming 37 rfl) (fun x17 => ?_)
    refine g_goto (tgt := 172) (kdX12_coming 38 rfl) (by decide) ?_
    exact g_fgt [1] rfl (BX12_coming_172 x17 m6)
def JX12_coming (a1 : Int32) (a2 : Int32) (m : hM) : hR :=
  if (m.1 40 0 15) = 0 then (some (some (.inl (-1000000000)), m)) else (calI (JX12_in a1 0 60 m) fun x2 m1 =>
  if x2 = 0 then (some (some (.inl (-1000000000)), m1)) else (calI (JX12_in a2 0 12 m1) fun x4 m3 =>
  if x4 = 0 then (some (some (.inl (-1000000000)), m3)) else (if 6 ≤ a2 then (JX12_coming_44 a1 a2 m3) else (calI (JX12_isTap a2 m3) fun x19 m18 =>
  if x19 = 0 then (some (some (.inl (-1000000000)), m18)) else (JX12_coming_44 a1 a2 m18)))))
set_option maxRecDepth 20000 in
theorem CX12_coming (a1 : Int32) (a2 : Int32) (m : hM) : Cn mX12_coming 5 [.inr (.inr (40, 0)), .inl a1, .inl a2] m (JX12_coming a1 a2 m) := by
  refine cn_of (by decide +kernel) (by simp only [List.map, vcat, List.sum_cons, List.sum_nil]; decide) ?_
  unfold JX12_coming
  show G mX12_coming 5 0 [(0, .inr (.inr (40, 0))), (1, .inl a1), (2, .inl a2)] [] m _
  refine g_aload_n 0 (kdX12_coming 0 rfl) rfl ?_
  refine g_get (v := .inl (m.1 40 0 15)) (kdX12_coming 1 rfl) fX12_203 rfl ?_
  refine g_if_eq (tgt := 41) (kdX12_coming 2 rfl) (by decide) (fun _ => ?_) (fun _ => ?_)
  · refine g_ldc (kdX12_coming 20 rfl) cX12_50 ?_
    exact g_iret rfl (kdX12_coming 21 rfl)
  · refine g_iload_n 1 (kdX12_coming 3 rfl) rfl ?_
    refine g_iconst (v := 0) (kdX12_coming 4 rfl) (by decide) ?_
    refine g_bipush (v := 60) (kdX12_coming 5 rfl) (by decide) ?_
    refine g_calI (ck_S (As := [.inl a1, .inl 0, .inl 60]) (S := []) (kdX12_coming 6 rfl) iX12_in lX12_89 rfl rfl rfl (by decide) (by simp only [List.map, vcat, List.sum_cons, List.sum_nil]; decide)) (CX12_in a1 0 60 m) (fun x2 m1 => ?_)
    refine g_if_eq (tgt := 41) (kdX12_coming 7 rfl) (by decide) (fun _ => ?_) (fun _ => ?_)
    · refine g_ldc (kdX12_coming 20 rfl) cX12_50 ?_
      exact g_iret rfl (kdX12_coming 21 rfl)
    · refine g_iload_n 2 (kdX12_coming 8 rfl) rfl ?_
      refine g_iconst (v := 0) (kdX12_coming 9 rfl) (by decide) ?_
      refine g_bipush (v := 12) (kdX12_coming 10 rfl) (by decide) ?_
      refine g_calI (ck_S (As := [.inl a2, .inl 0, .inl 12]) (S := []) (kdX12_coming 11 rfl) iX12_in lX12_89 rfl rfl rfl (by decide) (by simp only [List.map, vcat, List.sum_cons, List.sum_nil]; decide)) (CX12_in a2 0 12 m1) (fun x4 m3 => ?_)
      refine g_if_eq (tgt := 41) (kdX12_coming 12 rfl) (by decide) (fun _ => ?_) (fun _ => ?_)
      · refine g_ldc (kdX12_coming 20 rfl) cX12_50 ?_
        exact g_iret rfl (kdX12_coming 21 rfl)
      · refine g_iload_n 2 (kdX12_coming 13 rfl) rfl ?_
        refine g_bipush (v := 6) (kdX12_coming 14 rfl) (by decide) ?_
        refine g_icmp_ge (tgt := 44) (kdX12_coming 15 rfl) (by decide) (fun _ => ?_) (fun _ => ?_)
        · exact g_fgt [0, 1, 2] rfl (BX12_coming_44 a1 a2 m3)
        · refine g_aload_n 0 (kdX12_coming 16 rfl) rfl ?_
          refine g_iload_n 2 (kdX12_coming 17 rfl) rfl ?_
          refine g_calI (ck_V (As := [.inl a2]) (S := []) (t := 40) (o := 0) (kdX12_coming 18 rfl) iX12_isTap lX12_325 rc_40 rfl rfl rfl (by decide) (by simp only [List.map, vcat, List.sum_cons, List.sum_nil]; decide)) (CX12_isTap a2 m3) (fun x19 m18 => ?_)
          refine g_if_ne (tgt := 44) (kdX12_coming 19 rfl) (by decide) (fun _ => ?_) (fun _ => ?_)
          · exact g_fgt [0, 1, 2] rfl (BX12_coming_44 a1 a2 m18)
          · refine g_ldc (kdX12_coming 20 rfl) cX12_50 ?_
            exact g_iret rfl (kdX12_coming 21 rfl)
def JX12_wrongIn (a1 : Int32) (a2 : Int32) (m : hM) : hR :=
  calV (JX12_putAside 0 m) fun m1 =>
  ast m1 50 0 16 a2 fun m2 =>
  calI (JX12_symbols a1 m2) fun x4 m3 =>
  calV (JX12_bringBack 0 m3) fun m5 =>
  some (some (.inl x4), m5)
set_option maxRecDepth 20000 in
theorem CX12_wrongIn (a1 : Int32) (a2 : Int32) (m : hM) : Cn mX12_wrongIn 5 [.inr (.inr (40, 0)), .inl a1, .inl a2] m (JX12_wrongIn a1 a2 m) := by
  refine cn_of (by decide +kernel) (by simp only [List.map, vcat, List.sum_cons, List.sum_nil]; decide) ?_
  unfold JX12_wrongIn
  show G mX12_wrongIn 5 0 [(0, .inr (.inr (40, 0))), (1, .inl a1), (2, .inl a2)] [] m _
  refine g_aload_n 0 (kdX12_wrongIn 0 rfl) rfl ?_
  refine g_iconst (v := 0) (kdX12_wrongIn 1 rfl) (by decide) ?_
  refine g_calV (ck_V (As := [.inl 0]) (S := []) (t := 40) (o := 0) (kdX12_wrongIn 2 rfl) iX12_putAside lX12_355 rc_40 rfl rfl rfl (by decide) (by simp only [List.map, vcat, List.sum_cons, List.sum_nil]; decide)) (CX12_putAside 0 m) (fun m1 => ?_)
  refine g_aload_n 0 (kdX12_wrongIn 3 rfl) rfl ?_
  refine g_get (v := .inr (.inr (50, 0))) (kdX12_wrongIn 4 rfl) fX12_37 rfl ?_
  refine g_bipush (v := 16) (kdX12_wrongIn 5 rfl) (by decide) ?_
  refine g_iload_n 2 (kdX12_wrongIn 6 rfl) rfl ?_
  refine g_iast (kdX12_wrongIn 7 rfl) (fun m2 => ?_)
  refine g_aload_n 0 (kdX12_wrongIn 8 rfl) rfl ?_
  refine g_iload_n 1 (kdX12_wrongIn 9 rfl) rfl ?_
  refine g_calI (ck_V (As := [.inl a1]) (S := []) (t := 40) (o := 0) (kdX12_wrongIn 10 rfl) iX12_symbols lX12_319 rc_40 rfl rfl rfl (by decide) (by simp only [List.map, vcat, List.sum_cons, List.sum_nil]; decide)) (CX12_symbols a1 m2) (fun x4 m3 => ?_)
  refine g_istore_n (L2 := [(3, .inl x4), (0, .inr (.inr (40, 0))), (1, .inl a1), (2, .inl a2)]) (kdX12_wrongIn 11 rfl) rfl (by decide) ?_
  refine g_aload_n 1 (kdX12_wrongIn 12 rfl) rfl ?_
  refine g_iconst (v := 0) (kdX12_wrongIn 13 rfl) (by decide) ?_
  refine g_calV (ck_V (As := [.inl 0]) (S := []) (t := 40) (o := 0) (kdX12_wrongIn 14 rfl) iX12_bringBack lX12_362 rc_40 rfl rfl rfl (by decide) (by simp only [List.map, vcat, List.sum_cons, List.sum_nil]; decide)) (CX12_bringBack 0 m3) (fun m5 => ?_)
  refine g_iload_n 0 (kdX12_wrongIn 15 rfl) rfl ?_
  exact g_iret rfl (kdX12_wrongIn 16 rfl)
def JX12_gain (a1 : Int32) (m : hM) : hR :=
  if (m.1 40 0 15) = 0 then (some (some (.inl (-1000000000)), m)) else (calI (JX12_in a1 1 60 m) fun x2 m1 =>
  if x2 = 0 then (some (some (.inl (-1000000000)), m1)) else (calI (JX12_wrongIn a1 1 m1) fun x4 m3 =>
  calI (JX12_wrongIn a1 0 m3) fun x6 m5 =>
  some (some (.inl (x4 - x6)), m5)))
set_option maxRecDepth 20000 in
theorem CX12_gain (a1 : Int32) (m : hM) : Cn mX12_gain 6 [.inr (.inr (40, 0)), .inl a1] m (JX12_gain a1 m) := by
  refine cn_of (by decide +kernel) (by simp only [List.map, vcat, List.sum_cons, List.sum_nil]; decide) ?_
  unfold JX12_gain
  show G mX12_gain 6 0 [(0, .inr (.inr (40, 0))), (1, .inl a1)] [] m _
  refine g_aload_n 0 (kdX12_gain 0 rfl) rfl ?_
  refine g_get (v := .inl (m.1 40 0 15)) (kdX12_gain 1 rfl) fX12_203 rfl ?_
  refine g_if_eq (tgt := 33) (kdX12_gain 2 rfl) (by decide) (fun _ => ?_) (fun _ => ?_)
  · refine g_ldc (kdX12_gain 18 rfl) cX12_50 ?_
    exact g_iret rfl (kdX12_gain 19 rfl)
  · refine g_iload_n 1 (kdX12_gain 3 rfl) rfl ?_
    refine g_iconst (v := 1) (kdX12_gain 4 rfl) (by decide) ?_
    refine g_bipush (v := 60) (kdX12_gain 5 rfl) (by decide) ?_
    refine g_calI (ck_S (As := [.inl a1, .inl 1, .inl 60]) (S := []) (kdX12_gain 6 rfl) iX12_in lX12_89 rfl rfl rfl (by decide) (by simp only [List.map, vcat, List.sum_cons, List.sum_nil]; decide)) (CX12_in a1 1 60 m) (fun x2 m1 => ?_)
    refine g_if_eq (tgt := 33) (kdX12_gain 7 rfl) (by decide) (fun _ => ?_) (fun _ => ?_)
    · refine g_ldc (kdX12_gain 18 rfl) cX12_50 ?_
      exact g_iret rfl (kdX12_gain 19 rfl)
    · refine g_aload_n 0 (kdX12_gain 8 rfl) rfl ?_
      refine g_iload_n 1 (kdX12_gain 9 rfl) rfl ?_
      refine g_iconst (v := 1) (kdX12_gain 10 rfl) (by decide) ?_
      refine g_calI (ck_V (As := [.inl a1, .inl 1]) (S := []) (t := 40) (o := 0) (kdX12_gain 11 rfl) iX12_wrongIn lX12_392 rc_40 rfl rfl rfl (by decide) (by simp only [List.map, vcat, List.sum_cons, List.sum_nil]; decide)) (CX12_wrongIn a1 1 m1) (fun x4 m3 => ?_)
      refine g_aload_n 0 (kdX12_gain 12 rfl) rfl ?_
      refine g_iload_n 1 (kdX12_gain 13 rfl) rfl ?_
      refine g_iconst (v := 0) (kdX12_gain 14 rfl) (by decide) ?_
      refine g_calI (ck_V (As := [.inl a1, .inl 0]) (S := [.inl x4]) (t := 40) (o := 0) (kdX12_gain 15 rfl) iX12_wrongIn lX12_392 rc_40 rfl rfl rfl (by decide) (by simp only [List.map, vcat, List.sum_cons, List.sum_nil]; decide)) (CX12_wrongIn a1 0 m3) (fun x6 m5 => ?_)
      refine g_isub (kdX12_gain 16 rfl) ?_
      refine g_goto (tgt := 35) (kdX12_gain 17 rfl) (by decide) ?_
      exact g_iret rfl (kdX12_gain 19 rfl)
def JX12_wrongByDrop (a1 : Int32) (m : hM) : hR :=
  calV (JX12_putAside 0 m) fun m1 =>
  calI (JX12_symbols a1 m1) fun x3 m2 =>
  ast m2 50 0 22 1 fun m4 =>
  calI (JX12_symbols (40 - a1) m4) fun x6 m5 =>
  lt (x3 + x6) fun x7 =>
  calV (JX12_bringBack 0 m5) fun m8 =>
  some (some (.inl x7), m8)
set_option maxRecDepth 20000 in
theorem CX12_wrongByDrop (a1 : Int32) (m : hM) : Cn mX12_wrongByDrop 5 [.inr (.inr (40, 0)), .inl a1] m (JX12_wrongByDrop a1 m) := by
  refine cn_of (by decide +kernel) (by simp only [List.map, vcat, List.sum_cons, List.sum_nil]; decide) ?_
  unfold JX12_wrongByDrop
  show G mX12_wrongByDrop 5 0 [(0, .inr (.inr (40, 0))), (1, .inl a1)] [] m _
  refine g_aload_n 0 (kdX12_wrongByDrop 0 rfl) rfl ?_
  refine g_iconst (v := 0) (kdX12_wrongByDrop 1 rfl) (by decide) ?_
  refine g_calV (ck_V (As := [.inl 0]) (S := []) (t := 40) (o := 0) (kdX12_wrongByDrop 2 rfl) iX12_putAside lX12_355 rc_40 rfl rfl rfl (by decide) (by simp only [List.map, vcat, List.sum_cons, List.sum_nil]; decide)) (CX12_putAside 0 m) (fun m1 => ?_)
  refine g_aload_n 0 (kdX12_wrongByDrop 3 rfl) rfl ?_
  refine g_iload_n 1 (kdX12_wrongByDrop 4 rfl) rfl ?_
  refine g_calI (ck_V (As := [.inl a1]) (S := []) (t := 40) (o := 0) (kdX12_wrongByDrop 5 rfl) iX12_symbols lX12_319 rc_40 rfl rfl rfl (by decide) (by simp only [List.map, vcat, List.sum_cons, List.sum_nil]; decide)) (CX12_symbols a1 m1) (fun x3 m2 => ?_)
  refine g_istore_n (L2 := [(2, .inl x3), (0, .inr (.inr (40, 0))), (1, .inl a1)]) (kdX12_wrongByDrop 6 rfl) rfl (by decide) ?_
  refine g_aload_n 1 (kdX12_wrongByDrop 7 rfl) rfl ?_
  refine g_get (v := .inr (.inr (50, 0))) (kdX12_wrongByDrop 8 rfl) fX12_37 rfl ?_
  refine g_bipush (v := 22) (kdX12_wrongByDrop 9 rfl) (by decide) ?_
  refine g_iconst (v := 1) (kdX12_wrongByDrop 10 rfl) (by decide) ?_
  refine g_iast (kdX12_wrongByDrop 11 rfl) (fun m4 => ?_)
  refine g_iload_n 0 (kdX12_wrongByDrop 12 rfl) rfl ?_
  refine g_aload_n 1 (kdX12_wrongByDrop 13 rfl) rfl ?_
  refine g_bipush (v := 40) (kdX12_wrongByDrop 14 rfl) (by decide) ?_
  refine g_iload_n 2 (kdX12_wrongByDrop 15 rfl) rfl ?_
  refine g_isub (kdX12_wrongByDrop 16 rfl) ?_
  refine g_calI (ck_V (As := [.inl (40 - a1)]) (S := [.inl x3]) (t := 40) (o := 0) (kdX12_wrongByDrop 17 rfl) iX12_symbols lX12_319 rc_40 rfl rfl rfl (by decide) (by simp only [List.map, vcat, List.sum_cons, List.sum_nil]; decide)) (CX12_symbols (40 - a1) m4) (fun x6 m5 => ?_)
  refine g_iadd (kdX12_wrongByDrop 18 rfl) ?_
  refine g_lt (fun x7 => ?_)
  refine g_istore_n (L2 := [(2, .inl x7), (0, .inr (.inr (40, 0))), (1, .inl a1)]) (kdX12_wrongByDrop 19 rfl) rfl (by decide) ?_
  refine g_aload_n 1 (kdX12_wrongByDrop 20 rfl) rfl ?_
  refine g_iconst (v := 0) (kdX12_wrongByDrop 21 rfl) (by decide) ?_
  refine g_calV (ck_V (As := [.inl 0]) (S := []) (t := 40) (o := 0) (kdX12_wrongByDrop 22 rfl) iX12_bringBack lX12_362 rc_40 rfl rfl rfl (by decide) (by simp only [List.map, vcat, List.sum_cons, List.sum_nil]; decide)) (CX12_bringBack 0 m5) (fun m8 => ?_)
  refine g_iload_n 0 (kdX12_wrongByDrop 23 rfl) rfl ?_
  exact g_iret rfl (kdX12_wrongByDrop 24 rfl)
def JX12_worst_64 (K36 : Int32 → Int32 → Int32 → hM → hR) (K70 : Int32 → Int32 → hM → hR) (v1 : Int32) (v2 : Int32) (v3 : Int32) (v4 : Int32) (v5 : Int32) (m : hM) : hR :=
  K36 v3 v4 (v5 + 1) m
set_option maxRecDepth 20000 in
theorem BX12_worst_64 (v1 : Int32) (v2 : Int32) (K36 : Int32 → Int32 → Int32 → hM → hR) (K70 : Int32 → Int32 → hM → hR) (h36 : ∀ (v3 : Int32) (v4 : Int32) (v5 : Int32) (m : hM), G mX12_worst 6 36 [(0, .inr (.inr (40, 0))), (1, .inl v1), (2, .inl v2), (3, .inl v3), (4, .inl v4), (5, .inl v5)] [] m (K36 v3 v4 v5 m)) (h70 : ∀ (v3 : Int32) (v4 : Int32) (m : hM), G mX12_worst 6 70 [(2, .inl v2), (3, .inl v3), (4, .inl v4)] [] m (K70 v3 v4 m)) (v3 : Int32) (v4 : Int32) (v5 : Int32) (m : hM) : G mX12_worst 6 64 [(0, .inr (.inr (40, 0))), (1, .inl v1), (2, .inl v2), (3, .inl v3), (4, .inl v4), (5, .inl v5)] [] m (JX12_worst_64 K36 K70 v1 v2 v3 v4 v5 m) := by
  unfold JX12_worst_64
  refine g_iinc (v := v5 + 1) (L2 := [(5, .inl (v5 + 1)), (0, .inr (.inr (40, 0))), (1, .inl v1), (2, .inl v2), (3, .inl v3), (4, .inl v4)]) 5 (kdX12_worst 35 rfl) rfl rfl rfl (by decide) ?_
  refine g_goto (tgt := 36) (kdX12_worst 36 rfl) (by decide) ?_
  exact g_fgt [1, 2, 3, 4, 5, 0] rfl (h36 v3 v4 (v5 + 1) m)
def bJX12_worst_36 (K36 : Int32 → Int32 → Int32 → hM → hR) (K70 : Int32 → Int32 → hM → hR) (v1 : Int32) (v2 : Int32) (v3 : Int32) (v4 : Int32) (v5 : Int32) (m : hM) : hR :=
  if v1 ≤ v5 then (K70 v3 v4 m) else (calI (JX12_wrongByDrop v5 m) fun x6 m5 =>
  if x6 ≤ v4 then (JX12_worst_64 K36 K70 v1 v2 v3 v4 v5 m5) else (JX12_worst_64 K36 K70 v1 v2 v5 x6 v5 m5))
set_option maxRecDepth 20000 in
theorem BbJX12_worst_36 (K36 : Int32 → Int32 → Int32 → hM → hR) (K70 : Int32 → Int32 → hM → hR) (v1 : Int32) (v2 : Int32) (h36 : ∀ (v3 : Int32) (v4 : Int32) (v5 : Int32) (m : hM), G mX12_worst 6 36 [(0, .inr (.inr (40, 0))), (1, .inl v1), (2, .inl v2), (3, .inl v3), (4, .inl v4), (5, .inl v5)] [] m (K36 v3 v4 v5 m)) (h70 : ∀ (v3 : Int32) (v4 : Int32) (m : hM), G mX12_worst 6 70 [(2, .inl v2), (3, .inl v3), (4, .inl v4)] [] m (K70 v3 v4 m)) (v3 : Int32) (v4 : Int32) (v5 : Int32) (m : hM) : G mX12_worst 6 36 [(0, .inr (.inr (40, 0))), (1, .inl v1), (2, .inl v2), (3, .inl v3), (4, .inl v4), (5, .inl v5)] [] m (bJX12_worst_36 K36 K70 v1 v2 v3 v4 v5 m) := by
  unfold bJX12_worst_36
  refine g_iload 5 (kdX12_worst 21 rfl) rfl ?_
  refine g_iload_n 1 (kdX12_worst 22 rfl) rfl ?_
  refine g_icmp_ge (tgt := 70) (kdX12_worst 23 rfl) (by decide) (fun _ => ?_) (fun _ => ?_)
  · exact g_fgt [2, 3, 4] rfl (h70 v3 v4 m)
  · refine g_aload_n 0 (kdX12_worst 24 rfl) rfl ?_
    refine g_iload 5 (kdX12_worst 25 rfl) rfl ?_
    refine g_calI (ck_V (As := [.inl v5]) (S := []) (t := 40) (o := 0) (kdX12_worst 26 rfl) iX12_wrongByDrop lX12_395 rc_40 rfl rfl rfl (by decide) (by simp only [List.map, vcat, List.sum_cons, List.sum_nil]; decide)) (CX12_wrongByDrop v5 m) (fun x6 m5 => ?_)
    refine g_istore (L2 := [(6, .inl x6), (0, .inr (.inr (40, 0))), (1, .inl v1), (2, .inl v2), (3, .inl v3), (4, .inl v4), (5, .inl v5)]) (kdX12_worst 27 rfl) rfl (by decide) ?_
    refine g_iload 0 (kdX12_worst 28 rfl) rfl ?_
    refine g_iload 5 (kdX12_worst 29 rfl) rfl ?_
    refine g_icmp_le (tgt := 64) (kdX12_worst 30 rfl) (by decide) (fun _ => ?_) (fun _ => ?_)
    · exact g_fgt [1, 2, 3, 4, 5, 6] rfl (BX12_worst_64 v1 v2 _ _ h36 h70 v3 v4 v5 m5)
    · refine g_iload 6 (kdX12_worst 31 rfl) rfl ?_
      refine g_istore_n (L2 := [(3, .inl v5), (6, .inl x6), (0, .inr (.inr (40, 0))), (1, .inl v1), (2, .inl v2), (4, .inl v4), (5, .inl v5)]) (kdX12_worst 32 rfl) rfl (by decide) ?_
      refine g_iload 1 (kdX12_worst 33 rfl) rfl ?_
      refine g_istore (L2 := [(4, .inl x6), (3, .inl v5), (6, .inl x6), (0, .inr (.inr (40, 0))), (1, .inl v1), (2, .inl v2), (5, .inl v5)]) (kdX12_worst 34 rfl) rfl (by decide) ?_
      exact g_fgt [3, 4, 5, 1, 0, 6] rfl (BX12_worst_64 v1 v2 _ _ h36 h70 v5 x6 v5 m5)
def JX12_worst_36 (K70 : Int32 → Int32 → hM → hR) (v1 : Int32) (v2 : Int32) : Nat → Int32 → Int32 → Int32 → hM → hR
  | 0, _, _, _, _ => none
  | f + 1, v3, v4, v5, m => bJX12_worst_36 (fun v3 v4 v5 m => JX12_worst_36 K70 v1 v2 f v3 v4 v5 m) K70 v1 v2 v3 v4 v5 m
theorem BJX12_worst_36 (K70 : Int32 → Int32 → hM → hR) (v1 : Int32) (v2 : Int32) (h70 : ∀ (v3 : Int32) (v4 : Int32) (m : hM), G mX12_worst 6 70 [(2, .inl v2), (3, .inl v3), (4, .inl v4)] [] m (K70 v3 v4 m)) : ∀ (f : Nat) (v3 : Int32) (v4 : Int32) (v5 : Int32) (m : hM), G mX12_worst 6 36 [(0, .inr (.inr (40, 0))), (1, .inl v1), (2, .inl v2), (3, .inl v3), (4, .inl v4), (5, .inl v5)] [] m (JX12_worst_36 K70 v1 v2 f v3 v4 v5 m)
  | 0, _, _, _, _ => g_none
  | f + 1, v3, v4, v5, m => BbJX12_worst_36  _ K70 v1 v2 (fun v3 v4 v5 m => BJX12_worst_36  K70 v1 v2 h70 f v3 v4 v5 m) h70 v3 v4 v5 m
def JX12_worst (a1 : Int32) (a2 : Int32) (m : hM) : hR :=
  if (m.1 40 0 15) = 0 then (some (some (.inl (-1)), m)) else (calI (JX12_in a1 1 6 m) fun x2 m1 =>
  if x2 = 0 then (some (some (.inl (-1)), m1)) else (calI (JX12_in a2 0 1 m1) fun x4 m3 =>
  if x4 = 0 then (some (some (.inl (-1)), m3)) else (JX12_worst_36 (fun v3 v4 m7 => if a2 = 0 then (some (some (.inl v3), m7)) else (some (some (.inl v4), m7))) a1 a2 FU 0 (-1) 0 m3)))
set_option maxRecDepth 20000 in
theorem CX12_worst (a1 : Int32) (a2 : Int32) (m : hM) : Cn mX12_worst 6 [.inr (.inr (40, 0)), .inl a1, .inl a2] m (JX12_worst a1 a2 m) := by
  refine cn_of (by decide +kernel) (by simp only [List.map, vcat, List.sum_cons, List.sum_nil]; decide) ?_
  unfold JX12_worst
  show G mX12_worst 6 0 [(0, .inr (.inr (40, 0))), (1, .inl a1), (2, .inl a2)] [] m _
  refine g_aload_n 0 (kdX12_worst 0 rfl) rfl ?_
  refine g_get (v := .inl (m.1 40 0 15)) (kdX12_worst 1 rfl) fX12_203 rfl ?_
  refine g_if_eq (tgt := 26) (kdX12_worst 2 rfl) (by decide) (fun _ => ?_) (fun _ => ?_)
  · refine g_iconst (v := (-1)) (kdX12_worst 13 rfl) (by decide) ?_
    exact g_iret rfl (kdX12_worst 14 rfl)
  · refine g_iload_n 1 (kdX12_worst 3 rfl) rfl ?_
    refine g_iconst (v := 1) (kdX12_worst 4 rfl) (by decide) ?_
    refine g_bipush (v := 6) (kdX12_worst 5 rfl) (by decide) ?_
    refine g_calI (ck_S (As := [.inl a1, .inl 1, .inl 6]) (S := []) (kdX12_worst 6 rfl) iX12_in lX12_89 rfl rfl rfl (by decide) (by simp only [List.map, vcat, List.sum_cons, List.sum_nil]; decide)) (CX12_in a1 1 6 m) (fun x2 m1 => ?_)
    refine g_if_eq (tgt := 26) (kdX12_worst 7 rfl) (by decide) (fun _ => ?_) (fun _ => ?_)
    · refine g_iconst (v := (-1)) (kdX12_worst 13 rfl) (by decide) ?_
      exact g_iret rfl (kdX12_worst 14 rfl)
    · refine g_iload_n 2 (kdX12_worst 8 rfl) rfl ?_
      refine g_iconst (v := 0) (kdX12_worst 9 rfl) (by decide) ?_
      refine g_iconst (v := 1) (kdX12_worst 10 rfl) (by decide) ?_
      refine g_calI (ck_S (As := [.inl a2, .inl 0, .inl 1]) (S := []) (kdX12_worst 11 rfl) iX12_in lX12_89 rfl rfl rfl (by decide) (by simp only [List.map, vcat, List.sum_cons, List.sum_nil]; decide)) (CX12_in a2 0 1 m1) (fun x4 m3 => ?_)
      refine g_if_ne (tgt := 28) (kdX12_worst 12 rfl) (by decide) (fun _ => ?_) (fun _ => ?_)
      · refine g_iconst (v := 0) (kdX12_worst 15 rfl) (by decide) ?_
        refine g_istore_n (L2 := [(3, .inl 0), (0, .inr (.inr (40, 0))), (1, .inl a1), (2, .inl a2)]) (kdX12_worst 16 rfl) rfl (by decide) ?_
        refine g_iconst (v := (-1)) (kdX12_worst 17 rfl) (by decide) ?_
        refine g_istore (L2 := [(4, .inl (-1)), (3, .inl 0), (0, .inr (.inr (40, 0))), (1, .inl a1), (2, .inl a2)]) (kdX12_worst 18 rfl) rfl (by decide) ?_
        refine g_iconst (v := 0) (kdX12_worst 19 rfl) (by decide) ?_
        refine g_istore (L2 := [(5, .inl 0), (4, .inl (-1)), (3, .inl 0), (0, .inr (.inr (40, 0))), (1, .inl a1), (2, .inl a2)]) (kdX12_worst 20 rfl) rfl (by decide) ?_
        refine g_fgt [3, 4, 5, 2, 1, 0] rfl (BJX12_worst_36  _ a1 a2 ?_ FU 0 (-1) 0 m3)
        · intro v3 v4 m7
          refine g_iload_n 0 (kdX12_worst 37 rfl) rfl ?_
          refine g_if_ne (tgt := 78) (kdX12_worst 38 rfl) (by decide) (fun _ => ?_) (fun _ => ?_)
          · refine g_iload 2 (kdX12_worst 41 rfl) rfl ?_
            exact g_iret rfl (kdX12_worst 42 rfl)
          · refine g_iload_n 1 (kdX12_worst 39 rfl) rfl ?_
            refine g_goto (tgt := 80) (kdX12_worst 40 rfl) (by decide) ?_
            exact g_iret rfl (kdX12_worst 42 rfl)
      · refine g_iconst (v := (-1)) (kdX12_worst 13 rfl) (by decide) ?_
        exact g_iret rfl (kdX12_worst 14 rfl)
