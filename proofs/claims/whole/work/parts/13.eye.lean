abbrev mX3_share : hMt := (yX3_share, cX3_share, 7, some .int)
def tX3_share : hTb := [(0, .aload_n 0, 1, 1), (1, .invokevirtual 21, 3, 4), (4, .istore 4, 2, 6), (6, .iload_n 3, 1, 7), (7, .iload 4, 2, 9), (9, .if_icmp .lt 22, 3, 12), (12, .bipush (-64), 2, 14), (14, .iload_n 1, 1, 15), (15, .aload_n 0, 1, 16), (16, .invokevirtual 27, 3, 19), (19, .iload_n 3, 1, 20), (20, .iadd, 1, 21), (21, .iload 4, 2, 23), (23, .isub, 1, 24), (24, .iconst 1, 1, 25), (25, .iadd, 1, 26), (26, .invokestatic 30, 3, 29), (29, .imul, 1, 30), (30, .ireturn, 1, 31), (31, .iconst 0, 1, 32), (32, .istore 5, 2, 34), (34, .iconst 0, 1, 35), (35, .istore 6, 2, 37), (37, .iconst 4, 1, 38), (38, .iload 6, 2, 40), (40, .imul, 1, 41), (41, .iload_n 2, 1, 42), (42, .iadd, 1, 43), (43, .aload_n 0, 1, 44), (44, .invokevirtual 34, 3, 47), (47, .if_icmp .ge 40, 3, 50), (50, .iload 6, 2, 52), (52, .bipush 6, 2, 54), (54, .if_icmp .ge 33, 3, 57), (57, .iload 5, 2, 59), (59, .aload_n 0, 1, 60), (60, .iconst 4, 1, 61), (61, .iload 6, 2, 63), (63, .imul, 1, 64), (64, .iload_n 2, 1, 65), (65, .iadd, 1, 66), (66, .invokevirtual 37, 3, 69), (69, .iload_n 1, 1, 70), (70, .iload_n 3, 1, 71), (71, .iload 6, 2, 73), (73, .iadd, 1, 74), (74, .invokestatic 30, 3, 77), (77, .imul, 1, 78), (78, .iadd, 1, 79), (79, .istore 5, 2, 81), (81, .iinc 6 1, 3, 84), (84, .goto (-47), 3, 87), (87, .iload 5, 2, 89), (89, .ireturn, 1, 90)]
theorem ktX3_share : TbOK mX3_share tX3_share := by
  unfold TbOK
  decide +kernel
theorem kdX3_share (k : Nat) {pc : Nat} {i : Instr} {len nx : Nat} (hk : tX3_share[k]? = some (pc, i, len, nx)) : Dc mX3_share pc i len nx := dc_of ktX3_share k hk
theorem iX3_share : MiS mX3_share := ⟨⟨gdw_of (i := 858) (by decide +kernel) (by decide +kernel), gdw_of (i := 121) (by decide +kernel) (by decide +kernel), by decide, by decide, by decide⟩, gdw_of (i := 857) (by decide +kernel) (by decide +kernel)⟩
abbrev mX3_rowZ : hMt := (yX3_rowZ, cX3_rowZ, 7, some .int)
def tX3_rowZ : hTb := [(0, .iconst 0, 1, 1), (1, .istore 5, 2, 3), (3, .iconst 0, 1, 4), (4, .istore 6, 2, 6), (6, .iload 6, 2, 8), (8, .aload_n 1, 1, 9), (9, .invokevirtual 41, 3, 12), (12, .if_icmp .ge 38, 3, 15), (15, .iload 6, 2, 17), (17, .bipush 6, 2, 19), (19, .if_icmp .ge 31, 3, 22), (22, .iload 5, 2, 24), (24, .aload_n 2, 1, 25), (25, .getfield 44, 3, 28), (28, .iload 6, 2, 30), (30, .iaload, 1, 31), (31, .aload_n 1, 1, 32), (32, .iload_n 3, 1, 33), (33, .iload 4, 2, 35), (35, .iload 6, 2, 37), (37, .invokestatic 49, 3, 40), (40, .imul, 1, 41), (41, .iadd, 1, 42), (42, .istore 5, 2, 44), (44, .iinc 6 1, 3, 47), (47, .goto (-41), 3, 50), (50, .iload 5, 2, 52), (52, .ireturn, 1, 53)]
theorem ktX3_rowZ : TbOK mX3_rowZ tX3_rowZ := by
  unfold TbOK
  decide +kernel
theorem kdX3_rowZ (k : Nat) {pc : Nat} {i : Instr} {len nx : Nat} (hk : tX3_rowZ[k]? = some (pc, i, len, nx)) : Dc mX3_rowZ pc i len nx := dc_of ktX3_rowZ k hk
theorem iX3_rowZ : MiV mX3_rowZ := ⟨⟨gdw_of (i := 854) (by decide +kernel) (by decide +kernel), gdw_of (i := 121) (by decide +kernel) (by decide +kernel), by decide, by decide, by decide⟩, gdw_of (i := 852) (by decide +kernel) (by decide +kernel), gdw_of (i := 853) (by decide +kernel) (by decide +kernel)⟩
abbrev mX3_look : hMt := (yX3_look, cX3_look, 5, none)
def tX3_look : hTb := [(0, .iconst 0, 1, 1), (1, .istore 4, 2, 3), (3, .iload 4, 2, 5), (5, .bipush 64, 2, 7), (7, .if_icmp .ge 25, 3, 10), (10, .aload_n 0, 1, 11), (11, .getfield 9, 3, 14), (14, .iload 4, 2, 16), (16, .aload_n 0, 1, 17), (17, .aload_n 1, 1, 18), (18, .aload_n 2, 1, 19), (19, .iload 4, 2, 21), (21, .iload_n 3, 1, 22), (22, .invokevirtual 53, 3, 25), (25, .iastore, 1, 26), (26, .iinc 4 1, 3, 29), (29, .goto (-26), 3, 32), (32, .return_, 1, 33)]
theorem ktX3_look : TbOK mX3_look tX3_look := by
  unfold TbOK
  decide +kernel
theorem kdX3_look (k : Nat) {pc : Nat} {i : Instr} {len nx : Nat} (hk : tX3_look[k]? = some (pc, i, len, nx)) : Dc mX3_look pc i len nx := dc_of ktX3_look k hk
theorem iX3_look : MiV mX3_look := ⟨⟨gdw_of (i := 850) (by decide +kernel) (by decide +kernel), gdw_of (i := 121) (by decide +kernel) (by decide +kernel), by decide, by decide, by decide⟩, gdw_of (i := 848) (by decide +kernel) (by decide +kernel), gdw_of (i := 849) (by decide +kernel) (by decide +kernel)⟩
abbrev mX11_truthOf : hMt := (yX11_truthOf, cX11_truthOf, 2, some .int)
def tX11_truthOf : hTb := [(0, .iload_n 1, 1, 1), (1, .aload_n 0, 1, 2), (2, .invokevirtual 440, 3, 5), (5, .invokestatic 443, 3, 8), (8, .ireturn, 1, 9)]
theorem ktX11_truthOf : TbOK mX11_truthOf tX11_truthOf := by
  unfold TbOK
  decide +kernel
theorem kdX11_truthOf (k : Nat) {pc : Nat} {i : Instr} {len nx : Nat} (hk : tX11_truthOf[k]? = some (pc, i, len, nx)) : Dc mX11_truthOf pc i len nx := dc_of ktX11_truthOf k hk
theorem iX11_truthOf : MiS mX11_truthOf := ⟨⟨gdw_of (i := 883) (by decide +kernel) (by decide +kernel), gdw_of (i := 113) (by decide +kernel) (by decide +kernel), by decide, by decide, by decide⟩, gdw_of (i := 882) (by decide +kernel) (by decide +kernel)⟩
abbrev mX3_right : hMt := (yX3_right, cX3_right, 5, some .int)
def tX3_right : hTb := [(0, .iconst 0, 1, 1), (1, .istore_n 3, 1, 2), (2, .iconst 0, 1, 3), (3, .istore 4, 2, 5), (5, .iload 4, 2, 7), (7, .bipush 64, 2, 9), (9, .if_icmp .ge 37, 3, 12), (12, .aload_n 1, 1, 13), (13, .iload 4, 2, 15), (15, .invokestatic 57, 3, 18), (18, .aload_n 0, 1, 19), (19, .getfield 9, 3, 22), (22, .iload 4, 2, 24), (24, .iaload, 1, 25), (25, .iload_n 2, 1, 26), (26, .if_icmp .lt 7, 3, 29), (29, .iconst 1, 1, 30), (30, .goto 4, 3, 33), (33, .iconst (-1), 1, 34), (34, .if_icmp .ne 6, 3, 37), (37, .iinc 3 1, 3, 40), (40, .iinc 4 1, 3, 43), (43, .goto (-38), 3, 46), (46, .iload_n 3, 1, 47), (47, .ireturn, 1, 48)]
theorem ktX3_right : TbOK mX3_right tX3_right := by
  unfold TbOK
  decide +kernel
theorem kdX3_right (k : Nat) {pc : Nat} {i : Instr} {len nx : Nat} (hk : tX3_right[k]? = some (pc, i, len, nx)) : Dc mX3_right pc i len nx := dc_of ktX3_right k hk
theorem iX3_right : MiV mX3_right := ⟨⟨gdw_of (i := 1166) (by decide +kernel) (by decide +kernel), gdw_of (i := 121) (by decide +kernel) (by decide +kernel), by decide, by decide, by decide⟩, gdw_of (i := 1164) (by decide +kernel) (by decide +kernel), gdw_of (i := 1165) (by decide +kernel) (by decide +kernel)⟩
abbrev mX3_high : hMt := (yX3_high, cX3_high, 4, some .int)
def tX3_high : hTb := [(0, .ldc 61, 2, 2), (2, .istore_n 2, 1, 3), (3, .iconst 0, 1, 4), (4, .istore_n 3, 1, 5), (5, .iload_n 3, 1, 6), (6, .bipush 64, 2, 8), (8, .if_icmp .ge 29, 3, 11), (11, .aload_n 1, 1, 12), (12, .iload_n 3, 1, 13), (13, .invokestatic 57, 3, 16), (16, .iconst 1, 1, 17), (17, .if_icmp .ne 14, 3, 20), (20, .iload_n 2, 1, 21), (21, .aload_n 0, 1, 22), (22, .getfield 9, 3, 25), (25, .iload_n 3, 1, 26), (26, .iaload, 1, 27), (27, .invokestatic 62, 3, 30), (30, .istore_n 2, 1, 31), (31, .iinc 3 1, 3, 34), (34, .goto (-29), 3, 37), (37, .iload_n 2, 1, 38), (38, .ireturn, 1, 39)]
theorem ktX3_high : TbOK mX3_high tX3_high := by
  unfold TbOK
  decide +kernel
theorem kdX3_high (k : Nat) {pc : Nat} {i : Instr} {len nx : Nat} (hk : tX3_high[k]? = some (pc, i, len, nx)) : Dc mX3_high pc i len nx := dc_of ktX3_high k hk
theorem iX3_high : MiV mX3_high := ⟨⟨gdw_of (i := 879) (by decide +kernel) (by decide +kernel), gdw_of (i := 121) (by decide +kernel) (by decide +kernel), by decide, by decide, by decide⟩, gdw_of (i := 877) (by decide +kernel) (by decide +kernel), gdw_of (i := 878) (by decide +kernel) (by decide +kernel)⟩
abbrev mX3_low : hMt := (yX3_low, cX3_low, 4, some .int)
def tX3_low : hTb := [(0, .ldc 67, 2, 2), (2, .istore_n 2, 1, 3), (3, .iconst 0, 1, 4), (4, .istore_n 3, 1, 5), (5, .iload_n 3, 1, 6), (6, .bipush 64, 2, 8), (8, .if_icmp .ge 29, 3, 11), (11, .aload_n 1, 1, 12), (12, .iload_n 3, 1, 13), (13, .invokestatic 57, 3, 16), (16, .iconst (-1), 1, 17), (17, .if_icmp .ne 14, 3, 20), (20, .iload_n 2, 1, 21), (21, .aload_n 0, 1, 22), (22, .getfield 9, 3, 25), (25, .iload_n 3, 1, 26), (26, .iaload, 1, 27), (27, .invokestatic 68, 3, 30), (30, .istore_n 2, 1, 31), (31, .iinc 3 1, 3, 34), (34, .goto (-29), 3, 37), (37, .iload_n 2, 1, 38), (38, .ireturn, 1, 39)]
theorem ktX3_low : TbOK mX3_low tX3_low := by
  unfold TbOK
  decide +kernel
theorem kdX3_low (k : Nat) {pc : Nat} {i : Instr} {len nx : Nat} (hk : tX3_low[k]? = some (pc, i, len, nx)) : Dc mX3_low pc i len nx := dc_of ktX3_low k hk
theorem iX3_low : MiV mX3_low := ⟨⟨gdw_of (i := 890) (by decide +kernel) (by decide +kernel), gdw_of (i := 121) (by decide +kernel) (by decide +kernel), by decide, by decide, by decide⟩, gdw_of (i := 888) (by decide +kernel) (by decide +kernel), gdw_of (i := 889) (by decide +kernel) (by decide +kernel)⟩
abbrev mX3_height : hMt := (yX3_height, cX3_height, 2, some .int)
def tX3_height : hTb := [(0, .aload_n 0, 1, 1), (1, .aload_n 1, 1, 2), (2, .invokevirtual 71, 3, 5), (5, .aload_n 0, 1, 6), (6, .aload_n 1, 1, 7), (7, .invokevirtual 75, 3, 10), (10, .isub, 1, 11), (11, .ireturn, 1, 12)]
theorem ktX3_height : TbOK mX3_height tX3_height := by
  unfold TbOK
  decide +kernel
theorem kdX3_height (k : Nat) {pc : Nat} {i : Instr} {len nx : Nat} (hk : tX3_height[k]? = some (pc, i, len, nx)) : Dc mX3_height pc i len nx := dc_of ktX3_height k hk
theorem iX3_height : MiV mX3_height := ⟨⟨gdw_of (i := 875) (by decide +kernel) (by decide +kernel), gdw_of (i := 121) (by decide +kernel) (by decide +kernel), by decide, by decide, by decide⟩, gdw_of (i := 874) (by decide +kernel) (by decide +kernel), gdw_of (i := 21) (by decide +kernel) (by decide +kernel)⟩
abbrev mX3_higherNeighbour : hMt := (yX3_higherNeighbour, cX3_higherNeighbour, 3, some .int)
def tX3_higherNeighbour : hTb := [(0, .iload_n 1, 1, 1), (1, .iconst 0, 1, 2), (2, .iconst 3, 1, 3), (3, .invokestatic 92, 3, 6), (6, .ifCond .ne 5, 3, 9), (9, .iload_n 1, 1, 10), (10, .ireturn, 1, 11), (11, .iload_n 1, 1, 12), (12, .istore_n 2, 1, 13), (13, .iload_n 1, 1, 14), (14, .ifCond .le 24, 3, 17), (17, .aload_n 0, 1, 18), (18, .getfield 18, 3, 21), (21, .iload_n 1, 1, 22), (22, .iconst 1, 1, 23), (23, .isub, 1, 24), (24, .iaload, 1, 25), (25, .aload_n 0, 1, 26), (26, .getfield 18, 3, 29), (29, .iload_n 2, 1, 30), (30, .iaload, 1, 31), (31, .if_icmp .le 7, 3, 34), (34, .iload_n 1, 1, 35), (35, .iconst 1, 1, 36), (36, .isub, 1, 37), (37, .istore_n 2, 1, 38), (38, .iload_n 1, 1, 39), (39, .iconst 3, 1, 40), (40, .if_icmp .ge 24, 3, 43), (43, .aload_n 0, 1, 44), (44, .getfield 18, 3, 47), (47, .iload_n 1, 1, 48), (48, .iconst 1, 1, 49), (49, .iadd, 1, 50), (50, .iaload, 1, 51), (51, .aload_n 0, 1, 52), (52, .getfield 18, 3, 55), (55, .iload_n 2, 1, 56), (56, .iaload, 1, 57), (57, .if_icmp .le 7, 3, 60), (60, .iload_n 1, 1, 61), (61, .iconst 1, 1, 62), (62, .iadd, 1, 63), (63, .istore_n 2, 1, 64), (64, .iload_n 2, 1, 65), (65, .ireturn, 1, 66)]
theorem ktX3_higherNeighbour : TbOK mX3_higherNeighbour tX3_higherNeighbour := by
  unfold TbOK
  decide +kernel
theorem kdX3_higherNeighbour (k : Nat) {pc : Nat} {i : Instr} {len nx : Nat} (hk : tX3_higherNeighbour[k]? = some (pc, i, len, nx)) : Dc mX3_higherNeighbour pc i len nx := dc_of ktX3_higherNeighbour k hk
theorem iX3_higherNeighbour : MiV mX3_higherNeighbour := ⟨⟨gdw_of (i := 896) (by decide +kernel) (by decide +kernel), gdw_of (i := 121) (by decide +kernel) (by decide +kernel), by decide, by decide, by decide⟩, gdw_of (i := 895) (by decide +kernel) (by decide +kernel), gdw_of (i := 22) (by decide +kernel) (by decide +kernel)⟩
abbrev mX3_hunted : hMt := (yX3_hunted, cX3_hunted, 5, some .int)
def tX3_hunted : hTb := [(0, .iconst 0, 1, 1), (1, .istore_n 3, 1, 2), (2, .iload_n 3, 1, 3), (3, .iconst 4, 1, 4), (4, .if_icmp .ge 27, 3, 7), (7, .aload_n 0, 1, 8), (8, .aload_n 1, 1, 9), (9, .aload_n 2, 1, 10), (10, .iload_n 3, 1, 11), (11, .invokevirtual 78, 3, 14), (14, .aload_n 0, 1, 15), (15, .getfield 18, 3, 18), (18, .iload_n 3, 1, 19), (19, .aload_n 0, 1, 20), (20, .aload_n 1, 1, 21), (21, .invokevirtual 82, 3, 24), (24, .iastore, 1, 25), (25, .iinc 3 1, 3, 28), (28, .goto (-26), 3, 31), (31, .aload_n 2, 1, 32), (32, .getfield 85, 3, 35), (35, .istore_n 3, 1, 36), (36, .iconst 0, 1, 37), (37, .istore 4, 2, 39), (39, .iload 4, 2, 41), (41, .iconst 4, 1, 42), (42, .if_icmp .ge 15, 3, 45), (45, .aload_n 0, 1, 46), (46, .iload_n 3, 1, 47), (47, .invokevirtual 89, 3, 50), (50, .istore_n 3, 1, 51), (51, .iinc 4 1, 3, 54), (54, .goto (-15), 3, 57), (57, .iload_n 3, 1, 58), (58, .ireturn, 1, 59)]
theorem ktX3_hunted : TbOK mX3_hunted tX3_hunted := by
  unfold TbOK
  decide +kernel
theorem kdX3_hunted (k : Nat) {pc : Nat} {i : Instr} {len nx : Nat} (hk : tX3_hunted[k]? = some (pc, i, len, nx)) : Dc mX3_hunted pc i len nx := dc_of ktX3_hunted k hk
theorem iX3_hunted : MiV mX3_hunted := ⟨⟨gdw_of (i := 846) (by decide +kernel) (by decide +kernel), gdw_of (i := 121) (by decide +kernel) (by decide +kernel), by decide, by decide, by decide⟩, gdw_of (i := 844) (by decide +kernel) (by decide +kernel), gdw_of (i := 845) (by decide +kernel) (by decide +kernel)⟩
abbrev mX3_openLevels : hMt := (yX3_openLevels, cX3_openLevels, 6, some .int)
def tX3_openLevels : hTb := [(0, .aload_n 0, 1, 1), (1, .aload_n 1, 1, 2), (2, .aload_n 2, 1, 3), (3, .iload_n 3, 1, 4), (4, .invokevirtual 78, 3, 7), (7, .aload_n 2, 1, 8), (8, .getfield 96, 3, 11), (11, .aload_n 0, 1, 12), (12, .aload_n 1, 1, 13), (13, .invokevirtual 71, 3, 16), (16, .bipush 64, 2, 18), (18, .invokestatic 99, 3, 21), (21, .invokestatic 62, 3, 24), (24, .istore 4, 2, 26), (26, .aload_n 2, 1, 27), (27, .getfield 96, 3, 30), (30, .ineg, 1, 31), (31, .aload_n 0, 1, 32), (32, .aload_n 1, 1, 33), (33, .invokevirtual 75, 3, 36), (36, .bipush 64, 2, 38), (38, .invokestatic 99, 3, 41), (41, .iconst 1, 1, 42), (42, .iadd, 1, 43), (43, .invokestatic 68, 3, 46), (46, .istore 5, 2, 48), (48, .iload 4, 2, 50), (50, .iload 5, 2, 52), (52, .isub, 1, 53), (53, .iconst 1, 1, 54), (54, .iadd, 1, 55), (55, .iconst 0, 1, 56), (56, .invokestatic 68, 3, 59), (59, .ireturn, 1, 60)]
theorem ktX3_openLevels : TbOK mX3_openLevels tX3_openLevels := by
  unfold TbOK
  decide +kernel
theorem kdX3_openLevels (k : Nat) {pc : Nat} {i : Instr} {len nx : Nat} (hk : tX3_openLevels[k]? = some (pc, i, len, nx)) : Dc mX3_openLevels pc i len nx := dc_of ktX3_openLevels k hk
theorem iX3_openLevels : MiV mX3_openLevels := ⟨⟨gdw_of (i := 1189) (by decide +kernel) (by decide +kernel), gdw_of (i := 121) (by decide +kernel) (by decide +kernel), by decide, by decide, by decide⟩, gdw_of (i := 1187) (by decide +kernel) (by decide +kernel), gdw_of (i := 1188) (by decide +kernel) (by decide +kernel)⟩
abbrev mX3_bearable : hMt := (yX3_bearable, cX3_bearable, 8, some .int)
def tX3_bearable : hTb := [(0, .aload_n 0, 1, 1), (1, .aload_n 1, 1, 2), (2, .aload_n 2, 1, 3), (3, .iload_n 3, 1, 4), (4, .invokevirtual 78, 3, 7), (7, .aload_n 0, 1, 8), (8, .aload_n 1, 1, 9), (9, .invokevirtual 71, 3, 12), (12, .istore 4, 2, 14), (14, .aload_n 0, 1, 15), (15, .aload_n 1, 1, 16), (16, .invokevirtual 75, 3, 19), (19, .istore 5, 2, 21), (21, .iconst 0, 1, 22), (22, .istore 6, 2, 24), (24, .iconst 0, 1, 25), (25, .istore 7, 2, 27), (27, .iload 7, 2, 29), (29, .aload_n 1, 1, 30), (30, .invokevirtual 21, 3, 33), (33, .if_icmp .ge 30, 3, 36), (36, .iload 7, 2, 38), (38, .iconst 3, 1, 39), (39, .if_icmp .ge 24, 3, 42), (42, .iload 6, 2, 44), (44, .aload_n 2, 1, 45), (45, .getfield 44, 3, 48), (48, .iload 7, 2, 50), (50, .iaload, 1, 51), (51, .invokestatic 102, 3, 54), (54, .iadd, 1, 55), (55, .istore 6, 2, 57), (57, .iinc 7 1, 3, 60), (60, .goto (-33), 3, 63), (63, .bipush 99, 2, 65), (65, .istore 7, 2, 67), (67, .iload 7, 2, 69), (69, .ifCond .lt 34, 3, 72), (72, .iload 4, 2, 74), (74, .iload 7, 2, 76), (76, .iload 6, 2, 78), (78, .imul, 1, 79), (79, .isub, 1, 80), (80, .ifCond .lt 17, 3, 83), (83, .iload 5, 2, 85), (85, .iload 7, 2, 87), (87, .iload 6, 2, 89), (89, .imul, 1, 90), (90, .iadd, 1, 91), (91, .ifCond .ge 6, 3, 94), (94, .iload 7, 2, 96), (96, .ireturn, 1, 97), (97, .iinc 7 (-1), 3, 100), (100, .goto (-33), 3, 103), (103, .iconst (-1), 1, 104), (104, .ireturn, 1, 105)]
theorem ktX3_bearable : TbOK mX3_bearable tX3_bearable := by
  unfold TbOK
  decide +kernel
theorem kdX3_bearable (k : Nat) {pc : Nat} {i : Instr} {len nx : Nat} (hk : tX3_bearable[k]? = some (pc, i, len, nx)) : Dc mX3_bearable pc i len nx := dc_of ktX3_bearable k hk
theorem iX3_bearable : MiV mX3_bearable := ⟨⟨gdw_of (i := 1198) (by decide +kernel) (by decide +kernel), gdw_of (i := 121) (by decide +kernel) (by decide +kernel), by decide, by decide, by decide⟩, gdw_of (i := 1196) (by decide +kernel) (by decide +kernel), gdw_of (i := 1197) (by decide +kernel) (by decide +kernel)⟩
abbrev mX3_improve : hMt := (yX3_improve, cX3_improve, 9, none)
def tX3_improve : hTb := [(0, .iload_n 3, 1, 1), (1, .iconst 0, 1, 2), (2, .iconst 5, 1, 3), (3, .invokestatic 92, 3, 6), (6, .ifCond .ne 4, 3, 9), (9, .return_, 1, 10), (10, .aload_n 2, 1, 11), (11, .getfield 44, 3, 14), (14, .iload_n 3, 1, 15), (15, .iaload, 1, 16), (16, .istore 4, 2, 18), (18, .iload 4, 2, 20), (20, .bipush 31, 2, 22), (22, .isub, 1, 23), (23, .sipush (-255), 3, 26), (26, .invokestatic 68, 3, 29), (29, .istore 5, 2, 31), (31, .iload 4, 2, 33), (33, .bipush 31, 2, 35), (35, .iadd, 1, 36), (36, .sipush 255, 3, 39), (39, .invokestatic 62, 3, 42), (42, .istore 6, 2, 44), (44, .iconst 0, 1, 45), (45, .istore 7, 2, 47), (47, .iload 7, 2, 49), (49, .bipush 64, 2, 51), (51, .if_icmp .ge 60, 3, 54), (54, .aload_n 0, 1, 55), (55, .getfield 15, 3, 58), (58, .iload 7, 2, 60), (60, .aload_n 1, 1, 61), (61, .iload 7, 2, 63), (63, .aload_n 2, 1, 64), (64, .getfield 85, 3, 67), (67, .iload_n 3, 1, 68), (68, .invokestatic 49, 3, 71), (71, .iastore, 1, 72), (72, .aload_n 0, 1, 73), (73, .getfield 9, 3, 76), (76, .iload 7, 2, 78), (78, .aload_n 0, 1, 79), (79, .aload_n 1, 1, 80), (80, .aload_n 2, 1, 81), (81, .iload 7, 2, 83), (83, .aload_n 2, 1, 84), (84, .getfield 85, 3, 87), (87, .invokevirtual 53, 3, 90), (90, .iload 5, 2, 92), (92, .iload 4, 2, 94), (94, .isub, 1, 95), (95, .aload_n 0, 1, 96), (96, .getfield 15, 3, 99), (99, .iload 7, 2, 101), (101, .iaload, 1, 102), (102, .imul, 1, 103), (103, .iadd, 1, 104), (104, .iastore, 1, 105), (105, .iinc 7 1, 3, 108), (108, .goto (-61), 3, 111), (111, .aload_n 0, 1, 112), (112, .iload 5, 2, 114), (114, .putfield 105, 3, 117), (117, .aload_n 0, 1, 118), (118, .aload_n 0, 1, 119), (119, .aload_n 1, 1, 120), (120, .invokevirtual 82, 3, 123), (123, .putfield 108, 3, 126), (126, .iload 5, 2, 128), (128, .iconst 1, 1, 129), (129, .iadd, 1, 130), (130, .istore 7, 2, 132), (132, .iload 7, 2, 134), (134, .iload 6, 2, 136), (136, .if_icmp .gt 70, 3, 139), (139, .iconst 0, 1, 140), (140, .istore 8, 2, 142), (142, .iload 8, 2, 144), (144, .bipush 64, 2, 146), (146, .if_icmp .ge 26, 3, 149), (149, .aload_n 0, 1, 150), (150, .getfield 9, 3, 153), (153, .iload 8, 2, 155), (155, .dup2, 1, 156), (156, .iaload, 1, 157), (157, .aload_n 0, 1, 158), (158, .getfield 15, 3, 161), (161, .iload 8, 2, 163), (163, .iaload, 1, 164), (164, .iadd, 1, 165), (165, .iastore, 1, 166), (166, .iinc 8 1, 3, 169), (169, .goto (-27), 3, 172), (172, .aload_n 0, 1, 173), (173, .aload_n 1, 1, 174), (174, .invokevirtual 82, 3, 177), (177, .istore 8, 2, 179), (179, .iload 8, 2, 181), (181, .aload_n 0, 1, 182), (182, .getfield 108, 3, 185), (185, .if_icmp .le 15, 3, 188), (188, .aload_n 0, 1, 189), (189, .iload 8, 2, 191), (191, .putfield 108, 3, 194), (194, .aload_n 0, 1, 195), (195, .iload 7, 2, 197), (197, .putfield 105, 3, 200), (200, .iinc 7 1, 3, 203), (203, .goto (-71), 3, 206), (206, .return_, 1, 207)]
theorem ktX3_improve : TbOK mX3_improve tX3_improve := by
  unfold TbOK
  decide +kernel
theorem kdX3_improve (k : Nat) {pc : Nat} {i : Instr} {len nx : Nat} (hk : tX3_improve[k]? = some (pc, i, len, nx)) : Dc mX3_improve pc i len nx := dc_of ktX3_improve k hk
theorem iX3_improve : MiV mX3_improve := ⟨⟨gdw_of (i := 1271) (by decide +kernel) (by decide +kernel), gdw_of (i := 121) (by decide +kernel) (by decide +kernel), by decide, by decide, by decide⟩, gdw_of (i := 1269) (by decide +kernel) (by decide +kernel), gdw_of (i := 1270) (by decide +kernel) (by decide +kernel)⟩
abbrev mX1_placeBehind : hMt := (yX1_placeBehind, cX1_placeBehind, 9, some .int)
def tX1_placeBehind : hTb := [(0, .iload_n 2, 1, 1), (1, .iconst 1, 1, 2), (2, .ishl, 1, 3), (3, .iload 4, 2, 5), (5, .ior, 1, 6), (6, .bipush 63, 2, 8), (8, .iand, 1, 9), (9, .istore 5, 2, 11), (11, .iload 5, 2, 13), (13, .aload_n 1, 1, 14), (14, .invokevirtual 69, 3, 17), (17, .iconst 1, 1, 18), (18, .iadd, 1, 19), (19, .ishr, 1, 20), (20, .iload_n 3, 1, 21), (21, .ixor, 1, 22), (22, .aload_n 0, 1, 23), (23, .getfield 33, 3, 26), (26, .iand, 1, 27), (27, .istore 6, 2, 29), (29, .aload_n 0, 1, 30), (30, .getfield 11, 3, 33), (33, .iload 5, 2, 35), (35, .iaload, 1, 36), (36, .aload_n 0, 1, 37), (37, .getfield 15, 3, 40), (40, .iload 6, 2, 42), (42, .iaload, 1, 43), (43, .isub, 1, 44), (44, .ifCond .lt 7, 3, 47), (47, .iconst 1, 1, 48), (48, .goto 4, 3, 51), (51, .iconst (-1), 1, 52), (52, .istore 7, 2, 54), (54, .iload 7, 2, 56), (56, .aload_n 1, 1, 57), (57, .iload 5, 2, 59), (59, .invokestatic 72, 3, 62), (62, .if_icmp .ne 7, 3, 65), (65, .iconst 0, 1, 66), (66, .goto 4, 3, 69), (69, .iconst 1, 1, 70), (70, .istore 8, 2, 72), (72, .iload 5, 2, 74), (74, .bipush 8, 2, 76), (76, .imul, 1, 77), (77, .iload_n 3, 1, 78), (78, .iconst 1, 1, 79), (79, .ishl, 1, 80), (80, .iload 8, 2, 82), (82, .ior, 1, 83), (83, .aload_n 0, 1, 84), (84, .getfield 33, 3, 87), (87, .iand, 1, 88), (88, .iadd, 1, 89), (89, .ireturn, 1, 90)]
theorem ktX1_placeBehind : TbOK mX1_placeBehind tX1_placeBehind := by
  unfold TbOK
  decide +kernel
theorem kdX1_placeBehind (k : Nat) {pc : Nat} {i : Instr} {len nx : Nat} (hk : tX1_placeBehind[k]? = some (pc, i, len, nx)) : Dc mX1_placeBehind pc i len nx := dc_of ktX1_placeBehind k hk
theorem iX1_placeBehind : MiV mX1_placeBehind := ⟨⟨gdw_of (i := 1219) (by decide +kernel) (by decide +kernel), gdw_of (i := 122) (by decide +kernel) (by decide +kernel), by decide, by decide, by decide⟩, gdw_of (i := 1218) (by decide +kernel) (by decide +kernel), gdw_of (i := 47) (by decide +kernel) (by decide +kernel)⟩
abbrev mX1_isKnown : hMt := (yX1_isKnown, cX1_isKnown, 2, some .boolean)
def tX1_isKnown : hTb := [(0, .iload_n 1, 1, 1), (1, .iconst 0, 1, 2), (2, .sipush 511, 3, 5), (5, .invokestatic 85, 3, 8), (8, .ifCond .eq 17, 3, 11), (11, .aload_n 0, 1, 12), (12, .getfield 21, 3, 15), (15, .iload_n 1, 1, 16), (16, .iaload, 1, 17), (17, .iconst (-1), 1, 18), (18, .if_icmp .eq 7, 3, 21), (21, .iconst 1, 1, 22), (22, .goto 4, 3, 25), (25, .iconst 0, 1, 26), (26, .ireturn, 1, 27)]
theorem ktX1_isKnown : TbOK mX1_isKnown tX1_isKnown := by
  unfold TbOK
  decide +kernel
theorem kdX1_isKnown (k : Nat) {pc : Nat} {i : Instr} {len nx : Nat} (hk : tX1_isKnown[k]? = some (pc, i, len, nx)) : Dc mX1_isKnown pc i len nx := dc_of ktX1_isKnown k hk
theorem iX1_isKnown : MiV mX1_isKnown := ⟨⟨gdw_of (i := 1229) (by decide +kernel) (by decide +kernel), gdw_of (i := 122) (by decide +kernel) (by decide +kernel), by decide, by decide, by decide⟩, gdw_of (i := 1228) (by decide +kernel) (by decide +kernel), gdw_of (i := 49) (by decide +kernel) (by decide +kernel)⟩
abbrev mX1_spreadBack : hMt := (yX1_spreadBack, cX1_spreadBack, 5, some .boolean)
def tX1_spreadBack : hTb := [(0, .iconst 0, 1, 1), (1, .istore_n 1, 1, 2), (2, .iconst 0, 1, 3), (3, .istore_n 2, 1, 4), (4, .iload_n 2, 1, 5), (5, .sipush 512, 3, 8), (8, .if_icmp .ge 125, 3, 11), (11, .iload_n 2, 1, 12), (12, .bipush 7, 2, 14), (14, .iand, 1, 15), (15, .aload_n 0, 1, 16), (16, .getfield 33, 3, 19), (19, .if_icmp .gt 108, 3, 22), (22, .aload_n 0, 1, 23), (23, .getfield 21, 3, 26), (26, .iload_n 2, 1, 27), (27, .iaload, 1, 28), (28, .iconst (-1), 1, 29), (29, .if_icmp .ne 98, 3, 32), (32, .aload_n 0, 1, 33), (33, .getfield 18, 3, 36), (36, .iload_n 2, 1, 37), (37, .iconst 2, 1, 38), (38, .imul, 1, 39), (39, .iaload, 1, 40), (40, .istore_n 3, 1, 41), (41, .aload_n 0, 1, 42), (42, .getfield 18, 3, 45), (45, .iload_n 2, 1, 46), (46, .iconst 2, 1, 47), (47, .imul, 1, 48), (48, .iconst 1, 1, 49), (49, .iadd, 1, 50), (50, .iaload, 1, 51), (51, .istore 4, 2, 53), (53, .aload_n 0, 1, 54), (54, .iload_n 3, 1, 55), (55, .invokevirtual 76, 3, 58), (58, .ifCond .eq 69, 3, 61), (61, .aload_n 0, 1, 62), (62, .iload 4, 2, 64), (64, .invokevirtual 76, 3, 67), (67, .ifCond .eq 60, 3, 70), (70, .aload_n 0, 1, 71), (71, .getfield 21, 3, 74), (74, .iload_n 2, 1, 75), (75, .iconst 1, 1, 76), (76, .aload_n 0, 1, 77), (77, .getfield 21, 3, 80), (80, .iload_n 3, 1, 81), (81, .iaload, 1, 82), (82, .aload_n 0, 1, 83), (83, .getfield 21, 3, 86), (86, .iload 4, 2, 88), (88, .iaload, 1, 89), (89, .invokestatic 80, 3, 92), (92, .iadd, 1, 93), (93, .iastore, 1, 94), (94, .aload_n 0, 1, 95), (95, .getfield 24, 3, 98), (98, .iload_n 2, 1, 99), (99, .aload_n 0, 1, 100), (100, .getfield 24, 3, 103), (103, .iload_n 3, 1, 104), (104, .iaload, 1, 105), (105, .iload_n 3, 1, 106), (106, .iconst 1, 1, 107), (107, .iand, 1, 108), (108, .iadd, 1, 109), (109, .aload_n 0, 1, 110), (110, .getfield 24, 3, 113), (113, .iload 4, 2, 115), (115, .iaload, 1, 116), (116, .iload 4, 2, 118), (118, .iconst 1, 1, 119), (119, .iand, 1, 120), (120, .iadd, 1, 121), (121, .invokestatic 80, 3, 124), (124, .iastore, 1, 125), (125, .iconst 1, 1, 126), (126, .istore_n 1, 1, 127), (127, .iinc 2 1, 3, 130), (130, .goto (-126), 3, 133), (133, .iload_n 1, 1, 134), (134, .ireturn, 1, 135)]
theorem ktX1_spreadBack : TbOK mX1_spreadBack tX1_spreadBack := by
  unfold TbOK
  decide +kernel
theorem kdX1_spreadBack (k : Nat) {pc : Nat} {i : Instr} {len nx : Nat} (hk : tX1_spreadBack[k]? = some (pc, i, len, nx)) : Dc mX1_spreadBack pc i len nx := dc_of ktX1_spreadBack k hk
theorem iX1_spreadBack : MiV mX1_spreadBack := ⟨⟨gdw_of (i := 1225) (by decide +kernel) (by decide +kernel), gdw_of (i := 122) (by decide +kernel) (by decide +kernel), by decide, by decide, by decide⟩, gdw_of (i := 1224) (by decide +kernel) (by decide +kernel), gdw_of (i := 48) (by decide +kernel) (by decide +kernel)⟩
abbrev mX1_weighParts : hMt := (yX1_weighParts, cX1_weighParts, 6, none)
def tX1_weighParts : hTb := [(0, .aload_n 1, 1, 1), (1, .invokevirtual 49, 3, 4), (4, .istore_n 3, 1, 5), (5, .iconst 0, 1, 6), (6, .istore 4, 2, 8), (8, .iload 4, 2, 10), (10, .bipush 64, 2, 12), (12, .if_icmp .ge 69, 3, 15), (15, .aload_n 0, 1, 16), (16, .getfield 11, 3, 19), (19, .iload 4, 2, 21), (21, .iconst 0, 1, 22), (22, .iastore, 1, 23), (23, .iconst 0, 1, 24), (24, .istore 5, 2, 26), (26, .iload 5, 2, 28), (28, .iload_n 3, 1, 29), (29, .if_icmp .ge 46, 3, 32), (32, .iload 5, 2, 34), (34, .bipush 6, 2, 36), (36, .if_icmp .ge 39, 3, 39), (39, .aload_n 0, 1, 40), (40, .getfield 11, 3, 43), (43, .iload 4, 2, 45), (45, .dup2, 1, 46), (46, .iaload, 1, 47), (47, .aload_n 2, 1, 48), (48, .getfield 52, 3, 51), (51, .iload 5, 2, 53), (53, .iaload, 1, 54), (54, .aload_n 1, 1, 55), (55, .iload 4, 2, 57), (57, .aload_n 2, 1, 58), (58, .getfield 57, 3, 61), (61, .iload 5, 2, 63), (63, .invokestatic 60, 3, 66), (66, .imul, 1, 67), (67, .iadd, 1, 68), (68, .iastore, 1, 69), (69, .iinc 5 1, 3, 72), (72, .goto (-46), 3, 75), (75, .iinc 4 1, 3, 78), (78, .goto (-70), 3, 81), (81, .iconst 0, 1, 82), (82, .istore 4, 2, 84), (84, .iload 4, 2, 86), (86, .bipush 8, 2, 88), (88, .if_icmp .ge 74, 3, 91), (91, .aload_n 0, 1, 92), (92, .getfield 15, 3, 95), (95, .iload 4, 2, 97), (97, .iconst 0, 1, 98), (98, .iastore, 1, 99), (99, .iconst 0, 1, 100), (100, .istore 5, 2, 102), (102, .iload 5, 2, 104), (104, .aload_n 1, 1, 105), (105, .invokevirtual 27, 3, 108), (108, .if_icmp .ge 48, 3, 111), (111, .iload_n 3, 1, 112), (112, .iload 5, 2, 114), (114, .iadd, 1, 115), (115, .bipush 6, 2, 117), (117, .if_icmp .ge 39, 3, 120), (120, .aload_n 0, 1, 121), (121, .getfield 15, 3, 124), (124, .iload 4, 2, 126), (126, .dup2, 1, 127), (127, .iaload, 1, 128), (128, .bipush 64, 2, 130), (130, .aload_n 2, 1, 131), (131, .getfield 52, 3, 134), (134, .iload_n 3, 1, 135), (135, .iload 5, 2, 137), (137, .iadd, 1, 138), (138, .iaload, 1, 139), (139, .imul, 1, 140), (140, .iload 4, 2, 142), (142, .iload 5, 2, 144), (144, .invokestatic 65, 3, 147), (147, .imul, 1, 148), (148, .iadd, 1, 149), (149, .iastore, 1, 150), (150, .iinc 5 1, 3, 153), (153, .goto (-51), 3, 156), (156, .iinc 4 1, 3, 159), (159, .goto (-75), 3, 162), (162, .return_, 1, 163)]
theorem ktX1_weighParts : TbOK mX1_weighParts tX1_weighParts := by
  unfold TbOK
  decide +kernel
theorem kdX1_weighParts (k : Nat) {pc : Nat} {i : Instr} {len nx : Nat} (hk : tX1_weighParts[k]? = some (pc, i, len, nx)) : Dc mX1_weighParts pc i len nx := dc_of ktX1_weighParts k hk
theorem iX1_weighParts : MiV mX1_weighParts := ⟨⟨gdw_of (i := 1212) (by decide +kernel) (by decide +kernel), gdw_of (i := 122) (by decide +kernel) (by decide +kernel), by decide, by decide, by decide⟩, gdw_of (i := 1211) (by decide +kernel) (by decide +kernel), gdw_of (i := 46) (by decide +kernel) (by decide +kernel)⟩
abbrev mX1_explore : hMt := (yX1_explore, cX1_explore, 6, none)
def tX1_explore : hTb := [(0, .aload_n 0, 1, 1), (1, .iconst 1, 1, 2), (2, .aload_n 1, 1, 3), (3, .invokevirtual 27, 3, 6), (6, .ishl, 1, 7), (7, .iconst 1, 1, 8), (8, .isub, 1, 9), (9, .bipush 7, 2, 11), (11, .iand, 1, 12), (12, .putfield 33, 3, 15), (15, .aload_n 0, 1, 16), (16, .aload_n 1, 1, 17), (17, .aload_n 2, 1, 18), (18, .invokevirtual 37, 3, 21), (21, .iconst 0, 1, 22), (22, .istore_n 3, 1, 23), (23, .iload_n 3, 1, 24), (24, .bipush 64, 2, 26), (26, .if_icmp .ge 99, 3, 29), (29, .iconst 0, 1, 30), (30, .istore 4, 2, 32), (32, .iload 4, 2, 34), (34, .aload_n 0, 1, 35), (35, .getfield 33, 3, 38), (38, .if_icmp .gt 81, 3, 41), (41, .iload_n 3, 1, 42), (42, .bipush 8, 2, 44), (44, .imul, 1, 45), (45, .iload 4, 2, 47), (47, .iadd, 1, 48), (48, .istore 5, 2, 50), (50, .aload_n 0, 1, 51), (51, .getfield 18, 3, 54), (54, .iload 5, 2, 56), (56, .iconst 2, 1, 57), (57, .imul, 1, 58), (58, .aload_n 0, 1, 59), (59, .aload_n 1, 1, 60), (60, .iload_n 3, 1, 61), (61, .iload 4, 2, 63), (63, .iconst 0, 1, 64), (64, .invokevirtual 41, 3, 67), (67, .iastore, 1, 68), (68, .aload_n 0, 1, 69), (69, .getfield 18, 3, 72), (72, .iload 5, 2, 74), (74, .iconst 2, 1, 75), (75, .imul, 1, 76), (76, .iconst 1, 1, 77), (77, .iadd, 1, 78), (78, .aload_n 0, 1, 79), (79, .aload_n 1, 1, 80), (80, .iload_n 3, 1, 81), (81, .iload 4, 2, 83), (83, .iconst 1, 1, 84), (84, .invokevirtual 41, 3, 87), (87, .iastore, 1, 88), (88, .aload_n 0, 1, 89), (89, .getfield 21, 3, 92), (92, .iload 5, 2, 94), (94, .iload 4, 2, 96), (96, .ifCond .ne 7, 3, 99), (99, .iconst 0, 1, 100), (100, .goto 4, 3, 103), (103, .iconst (-1), 1, 104), (104, .iastore, 1, 105), (105, .aload_n 0, 1, 106), (106, .getfield 24, 3, 109), (109, .iload 5, 2, 111), (111, .iconst 0, 1, 112), (112, .iastore, 1, 113), (113, .iinc 4 1, 3, 116), (116, .goto (-84), 3, 119), (119, .iinc 3 1, 3, 122), (122, .goto (-99), 3, 125), (125, .iconst 1, 1, 126), (126, .istore_n 3, 1, 127), (127, .iconst 0, 1, 128), (128, .istore 4, 2, 130), (130, .iload 4, 2, 132), (132, .sipush 512, 3, 135), (135, .if_icmp .ge 18, 3, 138), (138, .iload_n 3, 1, 139), (139, .ifCond .eq 14, 3, 142), (142, .aload_n 0, 1, 143), (143, .invokevirtual 45, 3, 146), (146, .istore_n 3, 1, 147), (147, .iinc 4 1, 3, 150), (150, .goto (-20), 3, 153), (153, .return_, 1, 154)]
theorem ktX1_explore : TbOK mX1_explore tX1_explore := by
  unfold TbOK
  decide +kernel
theorem kdX1_explore (k : Nat) {pc : Nat} {i : Instr} {len nx : Nat} (hk : tX1_explore[k]? = some (pc, i, len, nx)) : Dc mX1_explore pc i len nx := dc_of ktX1_explore k hk
theorem iX1_explore : MiV mX1_explore := ⟨⟨gdw_of (i := 1207) (by decide +kernel) (by decide +kernel), gdw_of (i := 122) (by decide +kernel) (by decide +kernel), by decide, by decide, by decide⟩, gdw_of (i := 1205) (by decide +kernel) (by decide +kernel), gdw_of (i := 1206) (by decide +kernel) (by decide +kernel)⟩
abbrev mX1_startOf : hMt := (yX1_startOf, cX1_startOf, 2, some .int)
def tX1_startOf : hTb := [(0, .iload_n 1, 1, 1), (1, .bipush 63, 2, 3), (3, .iand, 1, 4), (4, .bipush 8, 2, 6), (6, .imul, 1, 7), (7, .iconst 1, 1, 8), (8, .aload_n 0, 1, 9), (9, .getfield 33, 3, 12), (12, .iand, 1, 13), (13, .iadd, 1, 14), (14, .ireturn, 1, 15)]
theorem ktX1_startOf : TbOK mX1_startOf tX1_startOf := by
  unfold TbOK
  decide +kernel
theorem kdX1_startOf (k : Nat) {pc : Nat} {i : Instr} {len nx : Nat} (hk : tX1_startOf[k]? = some (pc, i, len, nx)) : Dc mX1_startOf pc i len nx := dc_of ktX1_startOf k hk
theorem iX1_startOf : MiV mX1_startOf := ⟨⟨gdw_of (i := 1239) (by decide +kernel) (by decide +kernel), gdw_of (i := 122) (by decide +kernel) (by decide +kernel), by decide, by decide, by decide⟩, gdw_of (i := 1238) (by decide +kernel) (by decide +kernel), gdw_of (i := 50) (by decide +kernel) (by decide +kernel)⟩
abbrev mX1_followers : hMt := (yX1_followers, cX1_followers, 3, some .int)
def tX1_followers : hTb := [(0, .aload_n 0, 1, 1), (1, .getfield 21, 3, 4), (4, .aload_n 0, 1, 5), (5, .iload_n 1, 1, 6), (6, .invokevirtual 89, 3, 9), (9, .iaload, 1, 10), (10, .istore_n 2, 1, 11), (11, .iload_n 2, 1, 12), (12, .iconst (-1), 1, 13), (13, .if_icmp .ne 8, 3, 16), (16, .ldc 93, 2, 18), (18, .goto 4, 3, 21), (21, .iload_n 2, 1, 22), (22, .ireturn, 1, 23)]
theorem ktX1_followers : TbOK mX1_followers tX1_followers := by
  unfold TbOK
  decide +kernel
theorem kdX1_followers (k : Nat) {pc : Nat} {i : Instr} {len nx : Nat} (hk : tX1_followers[k]? = some (pc, i, len, nx)) : Dc mX1_followers pc i len nx := dc_of ktX1_followers k hk
theorem iX1_followers : MiV mX1_followers := ⟨⟨gdw_of (i := 1235) (by decide +kernel) (by decide +kernel), gdw_of (i := 122) (by decide +kernel) (by decide +kernel), by decide, by decide, by decide⟩, gdw_of (i := 1233) (by decide +kernel) (by decide +kernel), gdw_of (i := 1234) (by decide +kernel) (by decide +kernel)⟩
abbrev mX1_errors : hMt := (yX1_errors, cX1_errors, 3, some .int)
def tX1_errors : hTb := [(0, .aload_n 0, 1, 1), (1, .iload_n 1, 1, 2), (2, .invokevirtual 89, 3, 5), (5, .istore_n 2, 1, 6), (6, .aload_n 0, 1, 7), (7, .getfield 21, 3, 10), (10, .iload_n 2, 1, 11), (11, .iaload, 1, 12), (12, .iconst (-1), 1, 13), (13, .if_icmp .ne 8, 3, 16), (16, .ldc 93, 2, 18), (18, .goto 11, 3, 21), (21, .iconst 1, 1, 22), (22, .aload_n 0, 1, 23), (23, .getfield 24, 3, 26), (26, .iload_n 2, 1, 27), (27, .iaload, 1, 28), (28, .iadd, 1, 29), (29, .ireturn, 1, 30)]
theorem ktX1_errors : TbOK mX1_errors tX1_errors := by
  unfold TbOK
  decide +kernel
theorem kdX1_errors (k : Nat) {pc : Nat} {i : Instr} {len nx : Nat} (hk : tX1_errors[k]? = some (pc, i, len, nx)) : Dc mX1_errors pc i len nx := dc_of ktX1_errors k hk
theorem iX1_errors : MiV mX1_errors := ⟨⟨gdw_of (i := 1244) (by decide +kernel) (by decide +kernel), gdw_of (i := 122) (by decide +kernel) (by decide +kernel), by decide, by decide, by decide⟩, gdw_of (i := 1242) (by decide +kernel) (by decide +kernel), gdw_of (i := 1243) (by decide +kernel) (by decide +kernel)⟩
abbrev mX1_longestRow : hMt := (yX1_longestRow, cX1_longestRow, 4, some .int)
def tX1_longestRow : hTb := [(0, .iconst 0, 1, 1), (1, .istore_n 1, 1, 2), (2, .iconst 0, 1, 3), (3, .istore_n 2, 1, 4), (4, .iload_n 2, 1, 5), (5, .bipush 64, 2, 7), (7, .if_icmp .ge 34, 3, 10), (10, .aload_n 0, 1, 11), (11, .iload_n 2, 1, 12), (12, .invokevirtual 94, 3, 15), (15, .istore_n 3, 1, 16), (16, .iload_n 3, 1, 17), (17, .ldc 93, 2, 19), (19, .if_icmp .ne 5, 3, 22), (22, .iload_n 2, 1, 23), (23, .ireturn, 1, 24), (24, .iload_n 3, 1, 25), (25, .aload_n 0, 1, 26), (26, .iload_n 1, 1, 27), (27, .invokevirtual 94, 3, 30), (30, .if_icmp .le 5, 3, 33), (33, .iload_n 2, 1, 34), (34, .istore_n 1, 1, 35), (35, .iinc 2 1, 3, 38), (38, .goto (-34), 3, 41), (41, .iload_n 1, 1, 42), (42, .ireturn, 1, 43)]
theorem ktX1_longestRow : TbOK mX1_longestRow tX1_longestRow := by
  unfold TbOK
  decide +kernel
theorem kdX1_longestRow (k : Nat) {pc : Nat} {i : Instr} {len nx : Nat} (hk : tX1_longestRow[k]? = some (pc, i, len, nx)) : Dc mX1_longestRow pc i len nx := dc_of ktX1_longestRow k hk
theorem iX1_longestRow : MiV mX1_longestRow := ⟨⟨gdw_of (i := 1252) (by decide +kernel) (by decide +kernel), gdw_of (i := 122) (by decide +kernel) (by decide +kernel), by decide, by decide, by decide⟩, gdw_of (i := 1250) (by decide +kernel) (by decide +kernel), gdw_of (i := 1251) (by decide +kernel) (by decide +kernel)⟩
theorem lX11_245 : Lk RX11 245 mX3_look := Or.inl (gdw_of (i := 1162) (by decide +kernel) (by decide +kernel))
theorem lX11_249 : Lk RX11 249 mX3_right := Or.inl (gdw_of (i := 1163) (by decide +kernel) (by decide +kernel))
theorem lX11_253 : Lk RX11 253 mX3_high := Or.inl (gdw_of (i := 1171) (by decide +kernel) (by decide +kernel))
theorem lX11_257 : Lk RX11 257 mX3_low := Or.inl (gdw_of (i := 1172) (by decide +kernel) (by decide +kernel))
theorem lX11_265 : Lk RX11 265 mX3_rowZ := Or.inl (gdw_of (i := 1180) (by decide +kernel) (by decide +kernel))
theorem lX11_269 : Lk RX11 269 mX11_truthOf := Or.inl (gdw_of (i := 1181) (by decide +kernel) (by decide +kernel))
theorem lX11_272 : Lk RX11 272 mX3_openLevels := Or.inl (gdw_of (i := 1186) (by decide +kernel) (by decide +kernel))
theorem lX11_276 : Lk RX11 276 mX3_bearable := Or.inl (gdw_of (i := 1195) (by decide +kernel) (by decide +kernel))
theorem lX11_279 : Lk RX11 279 mX1_explore := Or.inl (gdw_of (i := 1204) (by decide +kernel) (by decide +kernel))
theorem lX11_283 : Lk RX11 283 mX1_followers := Or.inl (gdw_of (i := 1232) (by decide +kernel) (by decide +kernel))
theorem lX11_286 : Lk RX11 286 mX1_errors := Or.inl (gdw_of (i := 1241) (by decide +kernel) (by decide +kernel))
theorem lX11_289 : Lk RX11 289 mX1_longestRow := Or.inl (gdw_of (i := 1249) (by decide +kernel) (by decide +kernel))
theorem lX11_298 : Lk RX11 298 mX3_improve := Or.inl (gdw_of (i := 1268) (by decide +kernel) (by decide +kernel))
theorem lX11_384 : Lk RX11 384 mX3_hunted := Or.inl (gdw_of (i := 843) (by decide +kernel) (by decide +kernel))
theorem lX1_37 : Lk RX1 37 mX1_weighParts := Or.inl (gdw_of (i := 1209) (by decide +kernel) (by decide +kernel))
theorem lX1_41 : Lk RX1 41 mX1_placeBehind := Or.inl (gdw_of (i := 1216) (by decide +kernel) (by decide +kernel))
theorem lX1_45 : Lk RX1 45 mX1_spreadBack := Or.inl (gdw_of (i := 1222) (by decide +kernel) (by decide +kernel))
theorem lX1_60 : Lk RX1 60 mX3_share := Or.inl (gdw_of (i := 1214) (by decide +kernel) (by decide +kernel))
theorem lX1_72 : Lk RX1 72 mX11_truthOf := Or.inr (by decide +kernel)
theorem lX1_76 : Lk RX1 76 mX1_isKnown := Or.inl (gdw_of (i := 1226) (by decide +kernel) (by decide +kernel))
theorem lX1_89 : Lk RX1 89 mX1_startOf := Or.inl (gdw_of (i := 1236) (by decide +kernel) (by decide +kernel))
theorem lX1_94 : Lk RX1 94 mX1_followers := Or.inl (gdw_of (i := 1253) (by decide +kernel) (by decide +kernel))
theorem lX3_49 : Lk RX3 49 mX3_share := Or.inl (gdw_of (i := 856) (by decide +kernel) (by decide +kernel))
theorem lX3_53 : Lk RX3 53 mX3_rowZ := Or.inl (gdw_of (i := 851) (by decide +kernel) (by decide +kernel))
theorem lX3_57 : Lk RX3 57 mX11_truthOf := Or.inr (by decide +kernel)
theorem lX3_71 : Lk RX3 71 mX3_high := Or.inl (gdw_of (i := 876) (by decide +kernel) (by decide +kernel))
theorem lX3_75 : Lk RX3 75 mX3_low := Or.inl (gdw_of (i := 887) (by decide +kernel) (by decide +kernel))
theorem lX3_78 : Lk RX3 78 mX3_look := Or.inl (gdw_of (i := 847) (by decide +kernel) (by decide +kernel))
theorem lX3_82 : Lk RX3 82 mX3_height := Or.inl (gdw_of (i := 872) (by decide +kernel) (by decide +kernel))
theorem lX3_89 : Lk RX3 89 mX3_higherNeighbour := Or.inl (gdw_of (i := 893) (by decide +kernel) (by decide +kernel))
def bJX3_share_37 (K37 : Int32 → Int32 → hM → hR) (K87 : Int32 → hM → hR) (w0 : Nat) (v1 : Int32) (v2 : Int32) (v3 : Int32) (v5 : Int32) (v6 : Int32) (m : hM) : hR :=
  calI (JX4_pulseLength w0 m) fun x4 m3 =>
  if x4 ≤ ((4 * v6) + v2) then (K87 v5 m3) else (if 6 ≤ v6 then (K87 v5 m3) else (calI (JX4_pulseAt w0 ((4 * v6) + v2) m3) fun x6 m5 =>
  calI (JX11_bitSign v1 (v3 + v6) m5) fun x8 m7 =>
  lt (v5 + (x6 * x8)) fun x9 =>
  K37 x9 (v6 + 1) m7))
set_option maxRecDepth 20000 in
theorem BbJX3_share_37 (K37 : Int32 → Int32 → hM → hR) (K87 : Int32 → hM → hR) (w0 : Nat) (v1 : Int32) (v2 : Int32) (v3 : Int32) (h37 : ∀ (v5 : Int32) (v6 : Int32) (m : hM), G mX3_share 1 37 [(0, .inr (.inr (4, w0))), (1, .inl v1), (2, .inl v2), (3, .inl v3), (5, .inl v5), (6, .inl v6)] [] m (K37 v5 v6 m)) (h87 : ∀ (v5 : Int32) (m : hM), G mX3_share 1 87 [(5, .inl v5)] [] m (K87 v5 m)) (v5 : Int32) (v6 : Int32) (m : hM) : G mX3_share 1 37 [(0, .inr (.inr (4, w0))), (1, .inl v1), (2, .inl v2), (3, .inl v3), (5, .inl v5), (6, .inl v6)] [] m (bJX3_share_37 K37 K87 w0 v1 v2 v3 v5 v6 m) := by
  unfold bJX3_share_37
  refine g_iconst (v := 4) (kdX3_share 23 rfl) (by decide) ?_
  refine g_iload 5 (kdX3_share 24 rfl) rfl ?_
  refine g_imul (kdX3_share 25 rfl) ?_
  refine g_iload_n 2 (kdX3_share 26 rfl) rfl ?_
  refine g_iadd (kdX3_share 27 rfl) ?_
  refine g_aload_n 0 (kdX3_share 28 rfl) rfl ?_
  refine g_calI (ck_V (As := []) (S := [.inl ((4 * v6) + v2)]) (t := 4) (o := w0) (kdX3_share 29 rfl) iX4_pulseLength lX3_34 rc_4 rfl rfl rfl (by decide) (by simp only [List.map, vcat, List.sum_cons, List.sum_nil]; decide)) (CX4_pulseLength w0 m) (fun x4 m3 => ?_)
  refine g_icmp_ge (tgt := 87) (kdX3_share 30 rfl) (by decide) (fun _ => ?_) (fun _ => ?_)
  · exact g_fgt [4] rfl (h87 v5 m3)
  · refine g_iload 5 (kdX3_share 31 rfl) rfl ?_
    refine g_bipush (v := 6) (kdX3_share 32 rfl) (by decide) ?_
    refine g_icmp_ge (tgt := 87) (kdX3_share 33 rfl) (by decide) (fun _ => ?_) (fun _ => ?_)
    · exact g_fgt [4] rfl (h87 v5 m3)
    · refine g_iload 4 (kdX3_share 34 rfl) rfl ?_
      refine g_aload_n 0 (kdX3_share 35 rfl) rfl ?_
      refine g_iconst (v := 4) (kdX3_share 36 rfl) (by decide) ?_
      refine g_iload 5 (kdX3_share 37 rfl) rfl ?_
      refine g_imul (kdX3_share 38 rfl) ?_
      refine g_iload_n 2 (kdX3_share 39 rfl) rfl ?_
      refine g_iadd (kdX3_share 40 rfl) ?_
      refine g_calI (ck_V (As := [.inl ((4 * v6) + v2)]) (S := [.inl v5]) (t := 4) (o := w0) (kdX3_share 41 rfl) iX4_pulseAt lX3_37 rc_4 rfl rfl rfl (by decide) (by simp only [List.map, vcat, List.sum_cons, List.sum_nil]; decide)) (CX4_pulseAt w0 ((4 * v6) + v2) m3) (fun x6 m5 => ?_)
      refine g_iload_n 1 (kdX3_share 42 rfl) rfl ?_
      refine g_iload_n 3 (kdX3_share 43 rfl) rfl ?_
      refine g_iload 5 (kdX3_share 44 rfl) rfl ?_
      refine g_iadd (kdX3_share 45 rfl) ?_
      refine g_calI (ck_S (As := [.inl v1, .inl (v3 + v6)]) (S := [.inl x6, .inl v5]) (kdX3_share 46 rfl) iX11_bitSign lX3_30 rfl rfl rfl (by decide) (by simp only [List.map, vcat, List.sum_cons, List.sum_nil]; decide)) (CX11_bitSign v1 (v3 + v6) m5) (fun x8 m7 => ?_)
      refine g_imul (kdX3_share 47 rfl) ?_
      refine g_iadd (kdX3_share 48 rfl) ?_
      refine g_lt (fun x9 => ?_)
      refine g_istore (L2 := [(5, .inl x9), (0, .inr (.inr (4, w0))), (1, .inl v1), (2, .inl v2), (3, .inl v3), (6, .inl v6)]) (kdX3_share 49 rfl) rfl (by decide) ?_
      refine g_iinc (v := v6 + 1) (L2 := [(6, .inl (v6 + 1)), (5, .inl x9), (0, .inr (.inr (4, w0))), (1, .inl v1), (2, .inl v2), (3, .inl v3)]) 5 (kdX3_share 50 rfl) rfl rfl rfl (by decide) ?_
      refine g_goto (tgt := 37) (kdX3_share 51 rfl) (by decide) ?_
      exact g_fgt [2, 3, 4, 5, 1, 0] rfl (h37 x9 (v6 + 1) m7)
def JX3_share_37 (K87 : Int32 → hM → hR) (w0 : Nat) (v1 : Int32) (v2 : Int32) (v3 : Int32) : Nat → Int32 → Int32 → hM → hR
  | 0, _, _, _ => none
  | f + 1, v5, v6, m => bJX3_share_37 (fun v5 v6 m => JX3_share_37 K87 w0 v1 v2 v3 f v5 v6 m) K87 w0 v1 v2 v3 v5 v6 m
theorem BJX3_share_37 (K87 : Int32 → hM → hR) (w0 : Nat) (v1 : Int32) (v2 : Int32) (v3 : Int32) (h87 : ∀ (v5 : Int32) (m : hM), G mX3_share 1 87 [(5, .inl v5)] [] m (K87 v5 m)) : ∀ (f : Nat) (v5 : Int32) (v6 : Int32) (m : hM), G mX3_share 1 37 [(0, .inr (.inr (4, w0))), (1, .inl v1), (2, .inl v2), (3, .inl v3), (5, .inl v5), (6, .inl v6)] [] m (JX3_share_37 K87 w0 v1 v2 v3 f v5 v6 m)
  | 0, _, _, _ => g_none
  | f + 1, v5, v6, m => BbJX3_share_37  _ K87 w0 v1 v2 v3 (fun v5 v6 m => BJX3_share_37  K87 w0 v1 v2 v3 h87 f v5 v6 m) h87 v5 v6 m
def JX3_share (n1 : Nat) (a2 : Int32) (a3 : Int32) (a4 : Int32) (m : hM) : hR :=
  calI (JX4_foreTaps n1 m) fun x2 m1 =>
  if a4 < x2 then (JX3_share_37 (fun v5 m10 => some (some (.inl v5), m10)) n1 a2 a3 a4 FU 0 0 m1) else (calI (JX4_delay n1 m1) fun x12 m11 =>
  calI (JX11_bitSign a2 (((x12 + a4) - x2) + 1) m11) fun x14 m13 =>
  some (some (.inl ((-64) * x14)), m13))
set_option maxRecDepth 20000 in
theorem CX3_share (n1 : Nat) (a2 : Int32) (a3 : Int32) (a4 : Int32) (m : hM) : Cn mX3_share 1 [.inr (.inr (4, n1)), .inl a2, .inl a3, .inl a4] m (JX3_share n1 a2 a3 a4 m) := by
  refine cn_of (by decide +kernel) (by simp only [List.map, vcat, List.sum_cons, List.sum_nil]; decide) ?_
  unfold JX3_share
  show G mX3_share 1 0 [(0, .inr (.inr (4, n1))), (1, .inl a2), (2, .inl a3), (3, .inl a4)] [] m _
  refine g_aload_n 0 (kdX3_share 0 rfl) rfl ?_
  refine g_calI (ck_V (As := []) (S := []) (t := 4) (o := n1) (kdX3_share 1 rfl) iX4_foreTaps lX3_21 rc_4 rfl rfl rfl (by decide) (by simp only [List.map, vcat, List.sum_cons, List.sum_nil]; decide)) (CX4_foreTaps n1 m) (fun x2 m1 => ?_)
  refine g_istore (L2 := [(4, .inl x2), (0, .inr (.inr (4, n1))), (1, .inl a2), (2, .inl a3), (3, .inl a4)]) (kdX3_share 2 rfl) rfl (by decide) ?_
  refine g_iload_n 4 (kdX3_share 3 rfl) rfl ?_
  refine g_iload 0 (kdX3_share 4 rfl) rfl ?_
  refine g_icmp_lt (tgt := 31) (kdX3_share 5 rfl) (by decide) (fun _ => ?_) (fun _ => ?_)
  · refine g_iconst (v := 0) (kdX3_share 19 rfl) (by decide) ?_
    refine g_istore (L2 := [(5, .inl 0), (4, .inl x2), (0, .inr (.inr (4, n1))), (1, .inl a2), (2, .inl a3), (3, .inl a4)]) (kdX3_share 20 rfl) rfl (by decide) ?_
    refine g_iconst (v := 0) (kdX3_share 21 rfl) (by decide) ?_
    refine g_istore (L2 := [(6, .inl 0), (5, .inl 0), (4, .inl x2), (0, .inr (.inr (4, n1))), (1, .inl a2), (2, .inl a3), (3, .inl a4)]) (kdX3_share 22 rfl) rfl (by decide) ?_
    refine g_fgt [3, 4, 5, 6, 1, 0] rfl (BJX3_share_37  _ n1 a2 a3 a4 ?_ FU 0 0 m1)
    · intro v5 m10
      refine g_iload 0 (kdX3_share 52 rfl) rfl ?_
      exact g_iret rfl (kdX3_share 53 rfl)
  · refine g_bipush (v := (-64)) (kdX3_share 6 rfl) (by decide) ?_
    refine g_iload_n 2 (kdX3_share 7 rfl) rfl ?_
    refine g_aload_n 1 (kdX3_share 8 rfl) rfl ?_
    refine g_calI (ck_V (As := []) (S := [.inl a2, .inl (-64)]) (t := 4) (o := n1) (kdX3_share 9 rfl) iX4_delay lX3_27 rc_4 rfl rfl rfl (by decide) (by simp only [List.map, vcat, List.sum_cons, List.sum_nil]; decide)) (CX4_delay n1 m1) (fun x12 m11 => ?_)
    refine g_iload_n 4 (kdX3_share 10 rfl) rfl ?_
    refine g_iadd (kdX3_share 11 rfl) ?_
    refine g_iload 0 (kdX3_share 12 rfl) rfl ?_
    refine g_isub (kdX3_share 13 rfl) ?_
    refine g_iconst (v := 1) (kdX3_share 14 rfl) (by decide) ?_
    refine g_iadd (kdX3_share 15 rfl) ?_
    refine g_calI (ck_S (As := [.inl a2, .inl (((x12 + a4) - x2) + 1)]) (S := [.inl (-64)]) (kdX3_share 16 rfl) iX11_bitSign lX3_30 rfl rfl rfl (by decide) (by simp only [List.map, vcat, List.sum_cons, List.sum_nil]; decide)) (CX11_bitSign a2 (((x12 + a4) - x2) + 1) m11) (fun x14 m13 => ?_)
    refine g_imul (kdX3_share 17 rfl) ?_
    exact g_iret rfl (kdX3_share 18 rfl)
def bJX3_rowZ_6 (K6 : Int32 → Int32 → hM → hR) (K50 : Int32 → hM → hR) (w1 : Nat) (w2 : Nat) (v3 : Int32) (v4 : Int32) (v5 : Int32) (v6 : Int32) (m : hM) : hR :=
  calI (JX4_allTaps w1 m) fun x2 m1 =>
  if x2 ≤ v6 then (K50 v5 m1) else (if 6 ≤ v6 then (K50 v5 m1) else (ald m1 13 w2 v6 fun x3 =>
  calI (JX3_share w1 v3 v4 v6 m1) fun x5 m4 =>
  lt (v5 + (x3 * x5)) fun x6 =>
  K6 x6 (v6 + 1) m4))
set_option maxRecDepth 20000 in
theorem BbJX3_rowZ_6 (K6 : Int32 → Int32 → hM → hR) (K50 : Int32 → hM → hR) (w1 : Nat) (w2 : Nat) (v3 : Int32) (v4 : Int32) (h6 : ∀ (v5 : Int32) (v6 : Int32) (m : hM), G mX3_rowZ 2 6 [(1, .inr (.inr (4, w1))), (2, .inr (.inr (12, w2))), (3, .inl v3), (4, .inl v4), (5, .inl v5), (6, .inl v6)] [] m (K6 v5 v6 m)) (h50 : ∀ (v5 : Int32) (m : hM), G mX3_rowZ 2 50 [(5, .inl v5)] [] m (K50 v5 m)) (v5 : Int32) (v6 : Int32) (m : hM) : G mX3_rowZ 2 6 [(1, .inr (.inr (4, w1))), (2, .inr (.inr (12, w2))), (3, .inl v3), (4, .inl v4), (5, .inl v5), (6, .inl v6)] [] m (bJX3_rowZ_6 K6 K50 w1 w2 v3 v4 v5 v6 m) := by
  unfold bJX3_rowZ_6
  refine g_iload 5 (kdX3_rowZ 4 rfl) rfl ?_
  refine g_aload_n 0 (kdX3_rowZ 5 rfl) rfl ?_
  refine g_calI (ck_V (As := []) (S := [.inl v6]) (t := 4) (o := w1) (kdX3_rowZ 6 rfl) iX4_allTaps lX3_41 rc_4 rfl rfl rfl (by decide) (by simp only [List.map, vcat, List.sum_cons, List.sum_nil]; decide)) (CX4_allTaps w1 m) (fun x2 m1 => ?_)
  refine g_icmp_ge (tgt := 50) (kdX3_rowZ 7 rfl) (by decide) (fun _ => ?_) (fun _ => ?_)
  · exact g_fgt [4] rfl (h50 v5 m1)
  · refine g_iload 5 (kdX3_rowZ 8 rfl) rfl ?_
    refine g_bipush (v := 6) (kdX3_rowZ 9 rfl) (by decide) ?_
    refine g_icmp_ge (tgt := 50) (kdX3_rowZ 10 rfl) (by decide) (fun _ => ?_) (fun _ => ?_)
    · exact g_fgt [4] rfl (h50 v5 m1)
    · refine g_iload 4 (kdX3_rowZ 11 rfl) rfl ?_
      refine g_aload_n 1 (kdX3_rowZ 12 rfl) rfl ?_
      refine g_get (v := .inr (.inr (13, w2))) (kdX3_rowZ 13 rfl) fX3_44 rfl ?_
      refine g_iload 5 (kdX3_rowZ 14 rfl) rfl ?_
      refine g_iald (kdX3_rowZ 15 rfl) (fun x3 => ?_)
      refine g_aload_n 0 (kdX3_rowZ 16 rfl) rfl ?_
      refine g_iload_n 2 (kdX3_rowZ 17 rfl) rfl ?_
      refine g_iload 3 (kdX3_rowZ 18 rfl) rfl ?_
      refine g_iload 5 (kdX3_rowZ 19 rfl) rfl ?_
      refine g_calI (ck_S (As := [.inr (.inr (4, w1)), .inl v3, .inl v4, .inl v6]) (S := [.inl x3, .inl v5]) (kdX3_rowZ 20 rfl) iX3_share lX3_49 rfl rfl rfl (by decide) (by simp only [List.map, vcat, List.sum_cons, List.sum_nil]; decide)) (CX3_share w1 v3 v4 v6 m1) (fun x5 m4 => ?_)
      refine g_imul (kdX3_rowZ 21 rfl) ?_
      refine g_iadd (kdX3_rowZ 22 rfl) ?_
      refine g_lt (fun x6 => ?_)
      refine g_istore (L2 := [(5, .inl x6), (1, .inr (.inr (4, w1))), (2, .inr (.inr (12, w2))), (3, .inl v3), (4, .inl v4), (6, .inl v6)]) (kdX3_rowZ 23 rfl) rfl (by decide) ?_
      refine g_iinc (v := v6 + 1) (L2 := [(6, .inl (v6 + 1)), (5, .inl x6), (1, .inr (.inr (4, w1))), (2, .inr (.inr (12, w2))), (3, .inl v3), (4, .inl v4)]) 5 (kdX3_rowZ 24 rfl) rfl rfl rfl (by decide) ?_
      refine g_goto (tgt := 6) (kdX3_rowZ 25 rfl) (by decide) ?_
      exact g_fgt [2, 3, 4, 5, 1, 0] rfl (h6 x6 (v6 + 1) m4)
def JX3_rowZ_6 (K50 : Int32 → hM → hR) (w1 : Nat) (w2 : Nat) (v3 : Int32) (v4 : Int32) : Nat → Int32 → Int32 → hM → hR
  | 0, _, _, _ => none
  | f + 1, v5, v6, m => bJX3_rowZ_6 (fun v5 v6 m => JX3_rowZ_6 K50 w1 w2 v3 v4 f v5 v6 m) K50 w1 w2 v3 v4 v5 v6 m
theorem BJX3_rowZ_6 (K50 : Int32 → hM → hR) (w1 : Nat) (w2 : Nat) (v3 : Int32) (v4 : Int32) (h50 : ∀ (v5 : Int32) (m : hM), G mX3_rowZ 2 50 [(5, .inl v5)] [] m (K50 v5 m)) : ∀ (f : Nat) (v5 : Int32) (v6 : Int32) (m : hM), G mX3_rowZ 2 6 [(1, .inr (.inr (4, w1))), (2, .inr (.inr (12, w2))), (3, .inl v3), (4, .inl v4), (5, .inl v5), (6, .inl v6)] [] m (JX3_rowZ_6 K50 w1 w2 v3 v4 f v5 v6 m)
  | 0, _, _, _ => g_none
  | f + 1, v5, v6, m => BbJX3_rowZ_6  _ K50 w1 w2 v3 v4 (fun v5 v6 m => BJX3_rowZ_6  K50 w1 w2 v3 v4 h50 f v5 v6 m) h50 v5 v6 m
def JX3_rowZ (n1 : Nat) (n2 : Nat) (a3 : Int32) (a4 : Int32) (m : hM) : hR :=
  JX3_rowZ_6 (fun v5 m7 => some (some (.inl v5), m7)) n1 n2 a3 a4 FU 0 0 m
set_option maxRecDepth 20000 in
theorem CX3_rowZ (n1 : Nat) (n2 : Nat) (a3 : Int32) (a4 : Int32) (m : hM) : Cn mX3_rowZ 2 [.inr (.inr (24, 0)), .inr (.inr (4, n1)), .inr (.inr (12, n2)), .inl a3, .inl a4] m (JX3_rowZ n1 n2 a3 a4 m) := by
  refine cn_of (by decide +kernel) (by simp only [List.map, vcat, List.sum_cons, List.sum_nil]; decide) ?_
  unfold JX3_rowZ
  show G mX3_rowZ 2 0 [(0, .inr (.inr (24, 0))), (1, .inr (.inr (4, n1))), (2, .inr (.inr (12, n2))), (3, .inl a3), (4, .inl a4)] [] m _
  refine g_iconst (v := 0) (kdX3_rowZ 0 rfl) (by decide) ?_
  refine g_istore (L2 := [(5, .inl 0), (0, .inr (.inr (24, 0))), (1, .inr (.inr (4, n1))), (2, .inr (.inr (12, n2))), (3, .inl a3), (4, .inl a4)]) (kdX3_rowZ 1 rfl) rfl (by decide) ?_
  refine g_iconst (v := 0) (kdX3_rowZ 2 rfl) (by decide) ?_
  refine g_istore (L2 := [(6, .inl 0), (5, .inl 0), (0, .inr (.inr (24, 0))), (1, .inr (.inr (4, n1))), (2, .inr (.inr (12, n2))), (3, .inl a3), (4, .inl a4)]) (kdX3_rowZ 3 rfl) rfl (by decide) ?_
  refine g_fgt [3, 4, 5, 6, 1, 0] rfl (BJX3_rowZ_6  _ n1 n2 a3 a4 ?_ FU 0 0 m)
  · intro v5 m7
    refine g_iload 0 (kdX3_rowZ 26 rfl) rfl ?_
    exact g_iret rfl (kdX3_rowZ 27 rfl)
def bJX3_look_3 (K3 : Int32 → hM → hR) (K32 : hM → hR) (w1 : Nat) (w2 : Nat) (v3 : Int32) (v4 : Int32) (m : hM) : hR :=
  if 64 ≤ v4 then (K32 m) else (calI (JX3_rowZ w1 w2 v4 v3 m) fun x2 m1 =>
  ast m1 25 0 v4 x2 fun m3 =>
  K3 (v4 + 1) m3)
set_option maxRecDepth 20000 in
theorem BbJX3_look_3 (K3 : Int32 → hM → hR) (K32 : hM → hR) (w1 : Nat) (w2 : Nat) (v3 : Int32) (h3 : ∀ (v4 : Int32) (m : hM), G mX3_look 3 3 [(0, .inr (.inr (24, 0))), (1, .inr (.inr (4, w1))), (2, .inr (.inr (12, w2))), (3, .inl v3), (4, .inl v4)] [] m (K3 v4 m)) (h32 : ∀ (m : hM), G mX3_look 3 32 [] [] m (K32 m)) (v4 : Int32) (m : hM) : G mX3_look 3 3 [(0, .inr (.inr (24, 0))), (1, .inr (.inr (4, w1))), (2, .inr (.inr (12, w2))), (3, .inl v3), (4, .inl v4)] [] m (bJX3_look_3 K3 K32 w1 w2 v3 v4 m) := by
  unfold bJX3_look_3
  refine g_iload 4 (kdX3_look 2 rfl) rfl ?_
  refine g_bipush (v := 64) (kdX3_look 3 rfl) (by decide) ?_
  refine g_icmp_ge (tgt := 32) (kdX3_look 4 rfl) (by decide) (fun _ => ?_) (fun _ => ?_)
  · exact g_fgt [] rfl (h32 m)
  · refine g_aload_n 0 (kdX3_look 5 rfl) rfl ?_
    refine g_get (v := .inr (.inr (25, 0))) (kdX3_look 6 rfl) fX3_9 rfl ?_
    refine g_iload 4 (kdX3_look 7 rfl) rfl ?_
    refine g_aload_n 0 (kdX3_look 8 rfl) rfl ?_
    refine g_aload_n 1 (kdX3_look 9 rfl) rfl ?_
    refine g_aload_n 2 (kdX3_look 10 rfl) rfl ?_
    refine g_iload 4 (kdX3_look 11 rfl) rfl ?_
    refine g_iload_n 3 (kdX3_look 12 rfl) rfl ?_
    refine g_calI (ck_V (As := [.inr (.inr (4, w1)), .inr (.inr (12, w2)), .inl v4, .inl v3]) (S := [.inl v4, .inr (.inr (25, 0))]) (t := 24) (o := 0) (kdX3_look 13 rfl) iX3_rowZ lX3_53 rc_24 rfl rfl rfl (by decide) (by simp only [List.map, vcat, List.sum_cons, List.sum_nil]; decide)) (CX3_rowZ w1 w2 v4 v3 m) (fun x2 m1 => ?_)
    refine g_iast (kdX3_look 14 rfl) (fun m3 => ?_)
    refine g_iinc (v := v4 + 1) (L2 := [(4, .inl (v4 + 1)), (0, .inr (.inr (24, 0))), (1, .inr (.inr (4, w1))), (2, .inr (.inr (12, w2))), (3, .inl v3)]) 4 (kdX3_look 15 rfl) rfl rfl rfl (by decide) ?_
    refine g_goto (tgt := 3) (kdX3_look 16 rfl) (by decide) ?_
    exact g_fgt [1, 2, 3, 4, 0] rfl (h3 (v4 + 1) m3)
def JX3_look_3 (K32 : hM → hR) (w1 : Nat) (w2 : Nat) (v3 : Int32) : Nat → Int32 → hM → hR
  | 0, _, _ => none
  | f + 1, v4, m => bJX3_look_3 (fun v4 m => JX3_look_3 K32 w1 w2 v3 f v4 m) K32 w1 w2 v3 v4 m
theorem BJX3_look_3 (K32 : hM → hR) (w1 : Nat) (w2 : Nat) (v3 : Int32) (h32 : ∀ (m : hM), G mX3_look 3 32 [] [] m (K32 m)) : ∀ (f : Nat) (v4 : Int32) (m : hM), G mX3_look 3 3 [(0, .inr (.inr (24, 0))), (1, .inr (.inr (4, w1))), (2, .inr (.inr (12, w2))), (3, .inl v3), (4, .inl v4)] [] m (JX3_look_3 K32 w1 w2 v3 f v4 m)
  | 0, _, _ => g_none
  | f + 1, v4, m => BbJX3_look_3  _ K32 w1 w2 v3 (fun v4 m => BJX3_look_3  K32 w1 w2 v3 h32 f v4 m) h32 v4 m
def JX3_look (n1 : Nat) (n2 : Nat) (a3 : Int32) (m : hM) : hR :=
  JX3_look_3 (fun m4 => some (none, m4)) n1 n2 a3 FU 0 m
set_option maxRecDepth 20000 in
theorem CX3_look (n1 : Nat) (n2 : Nat) (a3 : Int32) (m : hM) : Cn mX3_look 3 [.inr (.inr (24, 0)), .inr (.inr (4, n1)), .inr (.inr (12, n2)), .inl a3] m (JX3_look n1 n2 a3 m) := by
  refine cn_of (by decide +kernel) (by simp only [List.map, vcat, List.sum_cons, List.sum_nil]; decide) ?_
  unfold JX3_look
  show G mX3_look 3 0 [(0, .inr (.inr (24, 0))), (1, .inr (.inr (4, n1))), (2, .inr (.inr (12, n2))), (3, .inl a3)] [] m _
  refine g_iconst (v := 0) (kdX3_look 0 rfl) (by decide) ?_
  refine g_istore (L2 := [(4, .inl 0), (0, .inr (.inr (24, 0))), (1, .inr (.inr (4, n1))), (2, .inr (.inr (12, n2))), (3, .inl a3)]) (kdX3_look 1 rfl) rfl (by decide) ?_
  refine g_fgt [1, 2, 3, 4, 0] rfl (BJX3_look_3  _ n1 n2 a3 ?_ FU 0 m)
  · intro m4
    exact g_vret rfl (kdX3_look 17 rfl)
def JX11_truthOf (n1 : Nat) (a2 : Int32) (m : hM) : hR :=
  calI (JX4_delay n1 m) fun x2 m1 =>
  calI (JX11_bitSign a2 x2 m1) fun x4 m3 =>
  some (some (.inl x4), m3)
set_option maxRecDepth 20000 in
theorem CX11_truthOf (n1 : Nat) (a2 : Int32) (m : hM) : Cn mX11_truthOf 1 [.inr (.inr (4, n1)), .inl a2] m (JX11_truthOf n1 a2 m) := by
  refine cn_of (by decide +kernel) (by simp only [List.map, vcat, List.sum_cons, List.sum_nil]; decide) ?_
  unfold JX11_truthOf
  show G mX11_truthOf 1 0 [(0, .inr (.inr (4, n1))), (1, .inl a2)] [] m _
  refine g_iload_n 1 (kdX11_truthOf 0 rfl) rfl ?_
  refine g_aload_n 0 (kdX11_truthOf 1 rfl) rfl ?_
  refine g_calI (ck_V (As := []) (S := [.inl a2]) (t := 4) (o := n1) (kdX11_truthOf 2 rfl) iX4_delay lX11_440 rc_4 rfl rfl rfl (by decide) (by simp only [List.map, vcat, List.sum_cons, List.sum_nil]; decide)) (CX4_delay n1 m) (fun x2 m1 => ?_)
  refine g_calI (ck_S (As := [.inl a2, .inl x2]) (S := []) (kdX11_truthOf 3 rfl) iX11_bitSign lX11_443 rfl rfl rfl (by decide) (by simp only [List.map, vcat, List.sum_cons, List.sum_nil]; decide)) (CX11_bitSign a2 x2 m1) (fun x4 m3 => ?_)
  exact g_iret rfl (kdX11_truthOf 4 rfl)
def JX3_right_40 (K5 : Int32 → Int32 → hM → hR) (K46 : Int32 → hM → hR) (w1 : Nat) (v2 : Int32) (v3 : Int32) (v4 : Int32) (m : hM) : hR :=
  K5 v3 (v4 + 1) m
set_option maxRecDepth 20000 in
theorem BX3_right_40 (w1 : Nat) (v2 : Int32) (K5 : Int32 → Int32 → hM → hR) (K46 : Int32 → hM → hR) (h5 : ∀ (v3 : Int32) (v4 : Int32) (m : hM), G mX3_right 2 5 [(0, .inr (.inr (24, 0))), (1, .inr (.inr (4, w1))), (2, .inl v2), (3, .inl v3), (4, .inl v4)] [] m (K5 v3 v4 m)) (h46 : ∀ (v3 : Int32) (m : hM), G mX3_right 2 46 [(3, .inl v3)] [] m (K46 v3 m)) (v3 : Int32) (v4 : Int32) (m : hM) : G mX3_right 2 40 [(0, .inr (.inr (24, 0))), (1, .inr (.inr (4, w1))), (2, .inl v2), (3, .inl v3), (4, .inl v4)] [] m (JX3_right_40 K5 K46 w1 v2 v3 v4 m) := by
  unfold JX3_right_40
  refine g_iinc (v := v4 + 1) (L2 := [(4, .inl (v4 + 1)), (0, .inr (.inr (24, 0))), (1, .inr (.inr (4, w1))), (2, .inl v2), (3, .inl v3)]) 4 (kdX3_right 21 rfl) rfl rfl rfl (by decide) ?_
  refine g_goto (tgt := 5) (kdX3_right 22 rfl) (by decide) ?_
  exact g_fgt [1, 2, 3, 4, 0] rfl (h5 v3 (v4 + 1) m)
def JX3_right_34 (K5 : Int32 → Int32 → hM → hR) (K46 : Int32 → hM → hR) (w1 : Nat) (v2 : Int32) (v3 : Int32) (v4 : Int32) (v100 : Int32) (v101 : Int32) (m : hM) : hR :=
  if v101 = v100 then (JX3_right_40 K5 K46 w1 v2 (v3 + 1) v4 m) else (JX3_right_40 K5 K46 w1 v2 v3 v4 m)
set_option maxRecDepth 20000 in
theorem BX3_right_34 (w1 : Nat) (v2 : Int32) (K5 : Int32 → Int32 → hM → hR) (K46 : Int32 → hM → hR) (h5 : ∀ (v3 : Int32) (v4 : Int32) (m : hM), G mX3_right 2 5 [(0, .inr (.inr (24, 0))), (1, .inr (.inr (4, w1))), (2, .inl v2), (3, .inl v3), (4, .inl v4)] [] m (K5 v3 v4 m)) (h46 : ∀ (v3 : Int32) (m : hM), G mX3_right 2 46 [(3, .inl v3)] [] m (K46 v3 m)) (v3 : Int32) (v4 : Int32) (v100 : Int32) (v101 : Int32) (m : hM) : G mX3_right 2 34 [(0, .inr (.inr (24, 0))), (1, .inr (.inr (4, w1))), (2, .inl v2), (3, .inl v3), (4, .inl v4)] [.inl v100, .inl v101] m (JX3_right_34 K5 K46 w1 v2 v3 v4 v100 v101 m) := by
  unfold JX3_right_34
  refine g_icmp_ne (tgt := 40) (kdX3_right 19 rfl) (by decide) (fun _ => ?_) (fun _ => ?_)
  · exact g_fgt [0, 1, 2, 3, 4] rfl (BX3_right_40 w1 v2 _ _ h5 h46 v3 v4 m)
  · refine g_iinc (v := v3 + 1) (L2 := [(3, .inl (v3 + 1)), (0, .inr (.inr (24, 0))), (1, .inr (.inr (4, w1))), (2, .inl v2), (4, .inl v4)]) 3 (kdX3_right 20 rfl) rfl rfl rfl (by decide) ?_
    exact g_fgt [1, 2, 3, 0, 4] rfl (BX3_right_40 w1 v2 _ _ h5 h46 (v3 + 1) v4 m)
def bJX3_right_5 (K5 : Int32 → Int32 → hM → hR) (K46 : Int32 → hM → hR) (w1 : Nat) (v2 : Int32) (v3 : Int32) (v4 : Int32) (m : hM) : hR :=
  if 64 ≤ v4 then (K46 v3 m) else (calI (JX11_truthOf w1 v4 m) fun x2 m1 =>
  ald m1 25 0 v4 fun x3 =>
  if x3 < v2 then (JX3_right_34 K5 K46 w1 v2 v3 v4 (-1) x2 m1) else (JX3_right_34 K5 K46 w1 v2 v3 v4 1 x2 m1))
set_option maxRecDepth 20000 in
theorem BbJX3_right_5 (K5 : Int32 → Int32 → hM → hR) (K46 : Int32 → hM → hR) (w1 : Nat) (v2 : Int32) (h5 : ∀ (v3 : Int32) (v4 : Int32) (m : hM), G mX3_right 2 5 [(0, .inr (.inr (24, 0))), (1, .inr (.inr (4, w1))), (2, .inl v2), (3, .inl v3), (4, .inl v4)] [] m (K5 v3 v4 m)) (h46 : ∀ (v3 : Int32) (m : hM), G mX3_right 2 46 [(3, .inl v3)] [] m (K46 v3 m)) (v3 : Int32) (v4 : Int32) (m : hM) : G mX3_right 2 5 [(0, .inr (.inr (24, 0))), (1, .inr (.inr (4, w1))), (2, .inl v2), (3, .inl v3), (4, .inl v4)] [] m (bJX3_right_5 K5 K46 w1 v2 v3 v4 m) := by
  unfold bJX3_right_5
  refine g_iload 4 (kdX3_right 4 rfl) rfl ?_
  refine g_bipush (v := 64) (kdX3_right 5 rfl) (by decide) ?_
  refine g_icmp_ge (tgt := 46) (kdX3_right 6 rfl) (by decide) (fun _ => ?_) (fun _ => ?_)
  · exact g_fgt [3] rfl (h46 v3 m)
  · refine g_aload_n 1 (kdX3_right 7 rfl) rfl ?_
    refine g_iload 4 (kdX3_right 8 rfl) rfl ?_
    refine g_calI (ck_S (As := [.inr (.inr (4, w1)), .inl v4]) (S := []) (kdX3_right 9 rfl) iX11_truthOf lX3_57 rfl rfl rfl (by decide) (by simp only [List.map, vcat, List.sum_cons, List.sum_nil]; decide)) (CX11_truthOf w1 v4 m) (fun x2 m1 => ?_)
    refine g_aload_n 0 (kdX3_right 10 rfl) rfl ?_
    refine g_get (v := .inr (.inr (25, 0))) (kdX3_right 11 rfl) fX3_9 rfl ?_
    refine g_iload 4 (kdX3_right 12 rfl) rfl ?_
    refine g_iald (kdX3_right 13 rfl) (fun x3 => ?_)
    refine g_iload_n 2 (kdX3_right 14 rfl) rfl ?_
    refine g_icmp_lt (tgt := 33) (kdX3_right 15 rfl) (by decide) (fun _ => ?_) (fun _ => ?_)
    · refine g_iconst (v := (-1)) (kdX3_right 18 rfl) (by decide) ?_
      exact g_fgt [0, 1, 2, 3, 4] rfl (BX3_right_34 w1 v2 _ _ h5 h46 v3 v4 (-1) x2 m1)
    · refine g_iconst (v := 1) (kdX3_right 16 rfl) (by decide) ?_
      refine g_goto (tgt := 34) (kdX3_right 17 rfl) (by decide) ?_
      exact g_fgt [0, 1, 2, 3, 4] rfl (BX3_right_34 w1 v2 _ _ h5 h46 v3 v4 1 x2 m1)
def JX3_right_5 (K46 : Int32 → hM → hR) (w1 : Nat) (v2 : Int32) : Nat → Int32 → Int32 → hM → hR
  | 0, _, _, _ => none
  | f + 1, v3, v4, m => bJX3_right_5 (fun v3 v4 m => JX3_right_5 K46 w1 v2 f v3 v4 m) K46 w1 v2 v3 v4 m
theorem BJX3_right_5 (K46 : Int32 → hM → hR) (w1 : Nat) (v2 : Int32) (h46 : ∀ (v3 : Int32) (m : hM), G mX3_right 2 46 [(3, .inl v3)] [] m (K46 v3 m)) : ∀ (f : Nat) (v3 : Int32) (v4 : Int32) (m : hM), G mX3_right 2 5 [(0, .inr (.inr (24, 0))), (1, .inr (.inr (4, w1))), (2, .inl v2), (3, .inl v3), (4, .inl v4)] [] m (JX3_right_5 K46 w1 v2 f v3 v4 m)
  | 0, _, _, _ => g_none
  | f + 1, v3, v4, m => BbJX3_right_5  _ K46 w1 v2 (fun v3 v4 m => BJX3_right_5  K46 w1 v2 h46 f v3 v4 m) h46 v3 v4 m
def JX3_right (n1 : Nat) (a2 : Int32) (m : hM) : hR :=
  JX3_right_5 (fun v3 m4 => some (some (.inl v3), m4)) n1 a2 FU 0 0 m
set_option maxRecDepth 20000 in
theorem CX3_right (n1 : Nat) (a2 : Int32) (m : hM) : Cn mX3_right 2 [.inr (.inr (24, 0)), .inr (.inr (4, n1)), .inl a2] m (JX3_right n1 a2 m) := by
  refine cn_of (by decide +kernel) (by simp only [List.map, vcat, List.sum_cons, List.sum_nil]; decide) ?_
  unfold JX3_right
  show G mX3_right 2 0 [(0, .inr (.inr (24, 0))), (1, .inr (.inr (4, n1))), (2, .inl a2)] [] m _
  refine g_iconst (v := 0) (kdX3_right 0 rfl) (by decide) ?_
  refine g_istore_n (L2 := [(3, .inl 0), (0, .inr (.inr (24, 0))), (1, .inr (.inr (4, n1))), (2, .inl a2)]) (kdX3_right 1 rfl) rfl (by decide) ?_
  refine g_iconst (v := 0) (kdX3_right 2 rfl) (by decide) ?_
  refine g_istore (L2 := [(4, .inl 0), (3, .inl 0), (0, .inr (.inr (24, 0))), (1, .inr (.inr (4, n1))), (2, .inl a2)]) (kdX3_right 3 rfl) rfl (by decide) ?_
  refine g_fgt [2, 3, 4, 1, 0] rfl (BJX3_right_5  _ n1 a2 ?_ FU 0 0 m)
  · intro v3 m4
    refine g_iload_n 0 (kdX3_right 23 rfl) rfl ?_
    exact g_iret rfl (kdX3_right 24 rfl)
def JX3_high_31 (K5 : Int32 → Int32 → hM → hR) (K37 : Int32 → hM → hR) (w1 : Nat) (v2 : Int32) (v3 : Int32) (m : hM) : hR :=
  K5 v2 (v3 + 1) m
set_option maxRecDepth 20000 in
theorem BX3_high_31 (w1 : Nat) (K5 : Int32 → Int32 → hM → hR) (K37 : Int32 → hM → hR) (h5 : ∀ (v2 : Int32) (v3 : Int32) (m : hM), G mX3_high 2 5 [(0, .inr (.inr (24, 0))), (1, .inr (.inr (4, w1))), (2, .inl v2), (3, .inl v3)] [] m (K5 v2 v3 m)) (h37 : ∀ (v2 : Int32) (m : hM), G mX3_high 2 37 [(2, .inl v2)] [] m (K37 v2 m)) (v2 : Int32) (v3 : Int32) (m : hM) : G mX3_high 2 31 [(0, .inr (.inr (24, 0))), (1, .inr (.inr (4, w1))), (2, .inl v2), (3, .inl v3)] [] m (JX3_high_31 K5 K37 w1 v2 v3 m) := by
  unfold JX3_high_31
  refine g_iinc (v := v3 + 1) (L2 := [(3, .inl (v3 + 1)), (0, .inr (.inr (24, 0))), (1, .inr (.inr (4, w1))), (2, .inl v2)]) 3 (kdX3_high 19 rfl) rfl rfl rfl (by decide) ?_
  refine g_goto (tgt := 5) (kdX3_high 20 rfl) (by decide) ?_
  exact g_fgt [1, 2, 3, 0] rfl (h5 v2 (v3 + 1) m)
def bJX3_high_5 (K5 : Int32 → Int32 → hM → hR) (K37 : Int32 → hM → hR) (w1 : Nat) (v2 : Int32) (v3 : Int32) (m : hM) : hR :=
  if 64 ≤ v3 then (K37 v2 m) else (calI (JX11_truthOf w1 v3 m) fun x2 m1 =>
  if x2 = 1 then (ald m1 25 0 v3 fun x3 =>
  calI (JJ9_min_7cf53 v2 x3 m1) fun x5 m4 =>
  JX3_high_31 K5 K37 w1 x5 v3 m4) else (JX3_high_31 K5 K37 w1 v2 v3 m1))
set_option maxRecDepth 20000 in
theorem BbJX3_high_5 (K5 : Int32 → Int32 → hM → hR) (K37 : Int32 → hM → hR) (w1 : Nat) (h5 : ∀ (v2 : Int32) (v3 : Int32) (m : hM), G mX3_high 2 5 [(0, .inr (.inr (24, 0))), (1, .inr (.inr (4, w1))), (2, .inl v2), (3, .inl v3)] [] m (K5 v2 v3 m)) (h37 : ∀ (v2 : Int32) (m : hM), G mX3_high 2 37 [(2, .inl v2)] [] m (K37 v2 m)) (v2 : Int32) (v3 : Int32) (m : hM) : G mX3_high 2 5 [(0, .inr (.inr (24, 0))), (1, .inr (.inr (4, w1))), (2, .inl v2), (3, .inl v3)] [] m (bJX3_high_5 K5 K37 w1 v2 v3 m) := by
  unfold bJX3_high_5
  refine g_iload_n 3 (kdX3_high 4 rfl) rfl ?_
  refine g_bipush (v := 64) (kdX3_high 5 rfl) (by decide) ?_
  refine g_icmp_ge (tgt := 37) (kdX3_high 6 rfl) (by decide) (fun _ => ?_) (fun _ => ?_)
  · exact g_fgt [2] rfl (h37 v2 m)
  · refine g_aload_n 1 (kdX3_high 7 rfl) rfl ?_
    refine g_iload_n 3 (kdX3_high 8 rfl) rfl ?_
    refine g_calI (ck_S (As := [.inr (.inr (4, w1)), .inl v3]) (S := []) (kdX3_high 9 rfl) iX11_truthOf lX3_57 rfl rfl rfl (by decide) (by simp only [List.map, vcat, List.sum_cons, List.sum_nil]; decide)) (CX11_truthOf w1 v3 m) (fun x2 m1 => ?_)
    refine g_iconst (v := 1) (kdX3_high 10 rfl) (by decide) ?_
    refine g_icmp_ne (tgt := 31) (kdX3_high 11 rfl) (by decide) (fun _ => ?_) (fun _ => ?_)
    · exact g_fgt [0, 1, 2, 3] rfl (BX3_high_31 w1 _ _ h5 h37 v2 v3 m1)
    · refine g_iload_n 2 (kdX3_high 12 rfl) rfl ?_
      refine g_aload_n 0 (kdX3_high 13 rfl) rfl ?_
      refine g_get (v := .inr (.inr (25, 0))) (kdX3_high 14 rfl) fX3_9 rfl ?_
      refine g_iload_n 3 (kdX3_high 15 rfl) rfl ?_
      refine g_iald (kdX3_high 16 rfl) (fun x3 => ?_)
      refine g_calI (ck_S (As := [.inl v2, .inl x3]) (S := []) (kdX3_high 17 rfl) iJ9_min_7cf53 lX3_62 rfl rfl rfl (by decide) (by simp only [List.map, vcat, List.sum_cons, List.sum_nil]; decide)) (CJ9_min_7cf53 v2 x3 m1) (fun x5 m4 => ?_)
      refine g_istore_n (L2 := [(2, .inl x5), (0, .inr (.inr (24, 0))), (1, .inr (.inr (4, w1))), (3, .inl v3)]) (kdX3_high 18 rfl) rfl (by decide) ?_
      exact g_fgt [1, 2, 0, 3] rfl (BX3_high_31 w1 _ _ h5 h37 x5 v3 m4)
def JX3_high_5 (K37 : Int32 → hM → hR) (w1 : Nat) : Nat → Int32 → Int32 → hM → hR
  | 0, _, _, _ => none
  | f + 1, v2, v3, m => bJX3_high_5 (fun v2 v3 m => JX3_high_5 K37 w1 f v2 v3 m) K37 w1 v2 v3 m
theorem BJX3_high_5 (K37 : Int32 → hM → hR) (w1 : Nat) (h37 : ∀ (v2 : Int32) (m : hM), G mX3_high 2 37 [(2, .inl v2)] [] m (K37 v2 m)) : ∀ (f : Nat) (v2 : Int32) (v3 : Int32) (m : hM), G mX3_high 2 5 [(0, .inr (.inr (24, 0))), (1, .inr (.inr (4, w1))), (2, .inl v2), (3, .inl v3)] [] m (JX3_high_5 K37 w1 f v2 v3 m)
  | 0, _, _, _ => g_none
  | f + 1, v2, v3, m => BbJX3_high_5  _ K37 w1 (fun v2 v3 m => BJX3_high_5  K37 w1 h37 f v2 v3 m) h37 v2 v3 m
def JX3_high (n1 : Nat) (m : hM) : hR :=
  JX3_high_5 (fun v2 m6 => some (some (.inl v2), m6)) n1 FU 1000000000 0 m
set_option maxRecDepth 20000 in
theorem CX3_high (n1 : Nat) (m : hM) : Cn mX3_high 2 [.inr (.inr (24, 0)), .inr (.inr (4, n1))] m (JX3_high n1 m) := by
  refine cn_of (by decide +kernel) (by simp only [List.map, vcat, List.sum_cons, List.sum_nil]; decide) ?_
  unfold JX3_high
  show G mX3_high 2 0 [(0, .inr (.inr (24, 0))), (1, .inr (.inr (4, n1)))] [] m _
  refine g_ldc (kdX3_high 0 rfl) cX3_61 ?_
  refine g_istore_n (L2 := [(2, .inl 1000000000), (0, .inr (.inr (24, 0))), (1, .inr (.inr (4, n1)))]) (kdX3_high 1 rfl) rfl (by decide) ?_
  refine g_iconst (v := 0) (kdX3_high 2 rfl) (by decide) ?_
  refine g_istore_n (L2 := [(3, .inl 0), (2, .inl 1000000000), (0, .inr (.inr (24, 0))), (1, .inr (.inr (4, n1)))]) (kdX3_high 3 rfl) rfl (by decide) ?_
  refine g_fgt [2, 3, 1, 0] rfl (BJX3_high_5  _ n1 ?_ FU 1000000000 0 m)
  · intro v2 m6
    refine g_iload_n 0 (kdX3_high 21 rfl) rfl ?_
    exact g_iret rfl (kdX3_high 22 rfl)
def JX3_low_31 (K5 : Int32 → Int32 → hM → hR) (K37 : Int32 → hM → hR) (w1 : Nat) (v2 : Int32) (v3 : Int32) (m : hM) : hR :=
  K5 v2 (v3 + 1) m
set_option maxRecDepth 20000 in
theorem BX3_low_31 (w1 : Nat) (K5 : Int32 → Int32 → hM → hR) (K37 : Int32 → hM → hR) (h5 : ∀ (v2 : Int32) (v3 : Int32) (m : hM), G mX3_low 2 5 [(0, .inr (.inr (24, 0))), (1, .inr (.inr (4, w1))), (2, .inl v2), (3, .inl v3)] [] m (K5 v2 v3 m)) (h37 : ∀ (v2 : Int32) (m : hM), G mX3_low 2 37 [(2, .inl v2)] [] m (K37 v2 m)) (v2 : Int32) (v3 : Int32) (m : hM) : G mX3_low 2 31 [(0, .inr (.inr (24, 0))), (1, .inr (.inr (4, w1))), (2, .inl v2), (3, .inl v3)] [] m (JX3_low_31 K5 K37 w1 v2 v3 m) := by
  unfold JX3_low_31
  refine g_iinc (v := v3 + 1) (L2 := [(3, .inl (v3 + 1)), (0, .inr (.inr (24, 0))), (1, .inr (.inr (4, w1))), (2, .inl v2)]) 3 (kdX3_low 19 rfl) rfl rfl rfl (by decide) ?_
  refine g_goto (tgt := 5) (kdX3_low 20 rfl) (by decide) ?_
  exact g_fgt [1, 2, 3, 0] rfl (h5 v2 (v3 + 1) m)
def bJX3_low_5 (K5 : Int32 → Int32 → hM → hR) (K37 : Int32 → hM → hR) (w1 : Nat) (v2 : Int32) (v3 : Int32) (m : hM) : hR :=
  if 64 ≤ v3 then (K37 v2 m) else (calI (JX11_truthOf w1 v3 m) fun x2 m1 =>
  if x2 = (-1) then (ald m1 25 0 v3 fun x3 =>
  calI (JJ9_max_7cf53 v2 x3 m1) fun x5 m4 =>
  JX3_low_31 K5 K37 w1 x5 v3 m4) else (JX3_low_31 K5 K37 w1 v2 v3 m1))
set_option maxRecDepth 20000 in
theorem BbJX3_low_5 (K5 : Int32 → Int32 → hM → hR) (K37 : Int32 → hM → hR) (w1 : Nat) (h5 : ∀ (v2 : Int32) (v3 : Int32) (m : hM), G mX3_low 2 5 [(0, .inr (.inr (24, 0))), (1, .inr (.inr (4, w1))), (2, .inl v2), (3, .inl v3)] [] m (K5 v2 v3 m)) (h37 : ∀ (v2 : Int32) (m : hM), G mX3_low 2 37 [(2, .inl v2)] [] m (K37 v2 m)) (v2 : Int32) (v3 : Int32) (m : hM) : G mX3_low 2 5 [(0, .inr (.inr (24, 0))), (1, .inr (.inr (4, w1))), (2, .inl v2), (3, .inl v3)] [] m (bJX3_low_5 K5 K37 w1 v2 v3 m) := by
  unfold bJX3_low_5
  refine g_iload_n 3 (kdX3_low 4 rfl) rfl ?_
  refine g_bipush (v := 64) (kdX3_low 5 rfl) (by decide) ?_
  refine g_icmp_ge (tgt := 37) (kdX3_low 6 rfl) (by decide) (fun _ => ?_) (fun _ => ?_)
  · exact g_fgt [2] rfl (h37 v2 m)
  · refine g_aload_n 1 (kdX3_low 7 rfl) rfl ?_
    refine g_iload_n 3 (kdX3_low 8 rfl) rfl ?_
    refine g_calI (ck_S (As := [.inr (.inr (4, w1)), .inl v3]) (S := []) (kdX3_low 9 rfl) iX11_truthOf lX3_57 rfl rfl rfl (by decide) (by simp only [List.map, vcat, List.sum_cons, List.sum_nil]; decide)) (CX11_truthOf w1 v3 m) (fun x2 m1 => ?_)
    refine g_iconst (v := (-1)) (kdX3_low 10 rfl) (by decide) ?_
    refine g_icmp_ne (tgt := 31) (kdX3_low 11 rfl) (by decide) (fun _ => ?_) (fun _ => ?_)
    · exact g_fgt [0, 1, 2, 3] rfl (BX3_low_31 w1 _ _ h5 h37 v2 v3 m1)
    · refine g_iload_n 2 (kdX3_low 12 rfl) rfl ?_
      refine g_aload_n 0 (kdX3_low 13 rfl) rfl ?_
      refine g_get (v := .inr (.inr (25, 0))) (kdX3_low 14 rfl) fX3_9 rfl ?_
      refine g_iload_n 3 (kdX3_low 15 rfl) rfl ?_
      refine g_iald (kdX3_low 16 rfl) (fun x3 => ?_)
      refine g_calI (ck_S (As := [.inl v2, .inl x3]) (S := []) (kdX3_low 17 rfl) iJ9_max_7cf53 lX3_68 rfl rfl rfl (by decide) (by simp only [List.map, vcat, List.sum_cons, List.sum_nil]; decide)) (CJ9_max_7cf53 v2 x3 m1) (fun x5 m4 => ?_)
      refine g_istore_n (L2 := [(2, .inl x5), (0, .inr (.inr (24, 0))), (1, .inr (.inr (4, w1))), (3, .inl v3)]) (kdX3_low 18 rfl) rfl (by decide) ?_
      exact g_fgt [1, 2, 0, 3] rfl (BX3_low_31 w1 _ _ h5 h37 x5 v3 m4)
def JX3_low_5 (K37 : Int32 → hM → hR) (w1 : Nat) : Nat → Int32 → Int32 → hM → hR
  | 0, _, _, _ => none
  | f + 1, v2, v3, m => bJX3_low_5 (fun v2 v3 m => JX3_low_5 K37 w1 f v2 v3 m) K37 w1 v2 v3 m
theorem BJX3_low_5 (K37 : Int32 → hM → hR) (w1 : Nat) (h37 : ∀ (v2 : Int32) (m : hM), G mX3_low 2 37 [(2, .inl v2)] [] m (K37 v2 m)) : ∀ (f : Nat) (v2 : Int32) (v3 : Int32) (m : hM), G mX3_low 2 5 [(0, .inr (.inr (24, 0))), (1, .inr (.inr (4, w1))), (2, .inl v2), (3, .inl v3)] [] m (JX3_low_5 K37 w1 f v2 v3 m)
  | 0, _, _, _ => g_none
  | f + 1, v2, v3, m => BbJX3_low_5  _ K37 w1 (fun v2 v3 m => BJX3_low_5  K37 w1 h37 f v2 v3 m) h37 v2 v3 m
def JX3_low (n1 : Nat) (m : hM) : hR :=
  JX3_low_5 (fun v2 m6 => some (some (.inl v2), m6)) n1 FU (-1000000000) 0 m
set_option maxRecDepth 20000 in
theorem CX3_low (n1 : Nat) (m : hM) : Cn mX3_low 2 [.inr (.inr (24, 0)), .inr (.inr (4, n1))] m (JX3_low n1 m) := by
  refine cn_of (by decide +kernel) (by simp only [List.map, vcat, List.sum_cons, List.sum_nil]; decide) ?_
  unfold JX3_low
  show G mX3_low 2 0 [(0, .inr (.inr (24, 0))), (1, .inr (.inr (4, n1)))] [] m _
  refine g_ldc (kdX3_low 0 rfl) cX3_67 ?_
  refine g_istore_n (L2 := [(2, .inl (-1000000000)), (0, .inr (.inr (24, 0))), (1, .inr (.inr (4, n1)))]) (kdX3_low 1 rfl) rfl (by decide) ?_
  refine g_iconst (v := 0) (kdX3_low 2 rfl) (by decide) ?_
  refine g_istore_n (L2 := [(3, .inl 0), (2, .inl (-1000000000)), (0, .inr (.inr (24, 0))), (1, .inr (.inr (4, n1)))]) (kdX3_low 3 rfl) rfl (by decide) ?_
  refine g_fgt [2, 3, 1, 0] rfl (BJX3_low_5  _ n1 ?_ FU (-1000000000) 0 m)
  · intro v2 m6
    refine g_iload_n 0 (kdX3_low 21 rfl) rfl ?_
    exact g_iret rfl (kdX3_low 22 rfl)
def JX3_height (n1 : Nat) (m : hM) : hR :=
  calI (JX3_high n1 m) fun x2 m1 =>
  calI (JX3_low n1 m1) fun x4 m3 =>
  some (some (.inl (x2 - x4)), m3)
set_option maxRecDepth 20000 in
theorem CX3_height (n1 : Nat) (m : hM) : Cn mX3_height 3 [.inr (.inr (24, 0)), .inr (.inr (4, n1))] m (JX3_height n1 m) := by
  refine cn_of (by decide +kernel) (by simp only [List.map, vcat, List.sum_cons, List.sum_nil]; decide) ?_
  unfold JX3_height
  show G mX3_height 3 0 [(0, .inr (.inr (24, 0))), (1, .inr (.inr (4, n1)))] [] m _
  refine g_aload_n 0 (kdX3_height 0 rfl) rfl ?_
  refine g_aload_n 1 (kdX3_height 1 rfl) rfl ?_
  refine g_calI (ck_V (As := [.inr (.inr (4, n1))]) (S := []) (t := 24) (o := 0) (kdX3_height 2 rfl) iX3_high lX3_71 rc_24 rfl rfl rfl (by decide) (by simp only [List.map, vcat, List.sum_cons, List.sum_nil]; decide)) (CX3_high n1 m) (fun x2 m1 => ?_)
  refine g_aload_n 0 (kdX3_height 3 rfl) rfl ?_
  refine g_aload_n 1 (kdX3_height 4 rfl) rfl ?_
  refine g_calI (ck_V (As := [.inr (.inr (4, n1))]) (S := [.inl x2]) (t := 24) (o := 0) (kdX3_height 5 rfl) iX3_low lX3_75 rc_24 rfl rfl rfl (by decide) (by simp only [List.map, vcat, List.sum_cons, List.sum_nil]; decide)) (CX3_low n1 m1) (fun x4 m3 => ?_)
  refine g_isub (kdX3_height 6 rfl) ?_
  exact g_iret rfl (kdX3_height 7 rfl)
def JX3_higherNeighbour_38 (v1 : Int32) (v2 : Int32) (m : hM) : hR :=
  if 3 ≤ v1 then (some (some (.inl v2), m)) else (ald m 27 0 (v1 + 1) fun x3 =>
  ald m 27 0 v2 fun x4 =>
  if x3 ≤ x4 then (some (some (.inl v2), m)) else (lt (v1 + 1) fun x5 =>
  some (some (.inl x5), m)))
set_option maxRecDepth 20000 in
theorem BX3_higherNeighbour_38 (v1 : Int32) (v2 : Int32) (m : hM) : G mX3_higherNeighbour 1 38 [(0, .inr (.inr (24, 0))), (1, .inl v1), (2, .inl v2)] [] m (JX3_higherNeighbour_38 v1 v2 m) := by
  unfold JX3_higherNeighbour_38
  refine g_iload_n 1 (kdX3_higherNeighbour 26 rfl) rfl ?_
  refine g_iconst (v := 3) (kdX3_higherNeighbour 27 rfl) (by decide) ?_
  refine g_icmp_ge (tgt := 64) (kdX3_higherNeighbour 28 rfl) (by decide) (fun _ => ?_) (fun _ => ?_)
  · refine g_iload_n 2 (kdX3_higherNeighbour 44 rfl) rfl ?_
    exact g_iret rfl (kdX3_higherNeighbour 45 rfl)
  · refine g_aload_n 0 (kdX3_higherNeighbour 29 rfl) rfl ?_
    refine g_get (v := .inr (.inr (27, 0))) (kdX3_higherNeighbour 30 rfl) fX3_18 rfl ?_
    refine g_iload_n 1 (kdX3_higherNeighbour 31 rfl) rfl ?_
    refine g_iconst (v := 1) (kdX3_higherNeighbour 32 rfl) (by decide) ?_
    refine g_iadd (kdX3_higherNeighbour 33 rfl) ?_
    refine g_iald (kdX3_higherNeighbour 34 rfl) (fun x3 => ?_)
    refine g_aload_n 0 (kdX3_higherNeighbour 35 rfl) rfl ?_
    refine g_get (v := .inr (.inr (27, 0))) (kdX3_higherNeighbour 36 rfl) fX3_18 rfl ?_
    refine g_iload_n 2 (kdX3_higherNeighbour 37 rfl) rfl ?_
    refine g_iald (kdX3_higherNeighbour 38 rfl) (fun x4 => ?_)
    refine g_icmp_le (tgt := 64) (kdX3_higherNeighbour 39 rfl) (by decide) (fun _ => ?_) (fun _ => ?_)
    · refine g_iload_n 2 (kdX3_higherNeighbour 44 rfl) rfl ?_
      exact g_iret rfl (kdX3_higherNeighbour 45 rfl)
    · refine g_iload_n 1 (kdX3_higherNeighbour 40 rfl) rfl ?_
      refine g_iconst (v := 1) (kdX3_higherNeighbour 41 rfl) (by decide) ?_
      refine g_iadd (kdX3_higherNeighbour 42 rfl) ?_
      refine g_lt (fun x5 => ?_)
      refine g_istore_n (L2 := [(2, .inl x5), (0, .inr (.inr (24, 0))), (1, .inl v1)]) (kdX3_higherNeighbour 43 rfl) rfl (by decide) ?_
      refine g_iload_n 0 (kdX3_higherNeighbour 44 rfl) rfl ?_
      exact g_iret rfl (kdX3_higherNeighbour 45 rfl)
def JX3_higherNeighbour (a1 : Int32) (m : hM) : hR :=
  calI (JX11_within a1 0 3 m) fun x2 m1 =>
  if x2 = 0 then (some (some (.inl a1), m1)) else (if a1 ≤ 0 then (JX3_higherNeighbour_38 a1 a1 m1) else (ald m1 27 0 (a1 - 1) fun x6 =>
  ald m1 27 0 a1 fun x7 =>
  if x6 ≤ x7 then (JX3_higherNeighbour_38 a1 a1 m1) else (lt (a1 - 1) fun x8 =>
  JX3_higherNeighbour_38 a1 x8 m1)))
set_option maxRecDepth 20000 in
theorem CX3_higherNeighbour (a1 : Int32) (m : hM) : Cn mX3_higherNeighbour 1 [.inr (.inr (24, 0)), .inl a1] m (JX3_higherNeighbour a1 m) := by
  refine cn_of (by decide +kernel) (by simp only [List.map, vcat, List.sum_cons, List.sum_nil]; decide) ?_
  unfold JX3_higherNeighbour
  show G mX3_higherNeighbour 1 0 [(0, .inr (.inr (24, 0))), (1, .inl a1)] [] m _
  refine g_iload_n 1 (kdX3_higherNeighbour 0 rfl) rfl ?_
  refine g_iconst (v := 0) (kdX3_higherNeighbour 1 rfl) (by decide) ?_
  refine g_iconst (v := 3) (kdX3_higherNeighbour 2 rfl) (by decide) ?_
  refine g_calI (ck_S (As := [.inl a1, .inl 0, .inl 3]) (S := []) (kdX3_higherNeighbour 3 rfl) iX11_within lX3_92 rfl rfl rfl (by decide) (by simp only [List.map, vcat, List.sum_cons, List.sum_nil]; decide)) (CX11_within a1 0 3 m) (fun x2 m1 => ?_)
  refine g_if_ne (tgt := 11) (kdX3_higherNeighbour 4 rfl) (by decide) (fun _ => ?_) (fun _ => ?_)
  · refine g_iload_n 1 (kdX3_higherNeighbour 7 rfl) rfl ?_
    refine g_istore_n (L2 := [(2, .inl a1), (0, .inr (.inr (24, 0))), (1, .inl a1)]) (kdX3_higherNeighbour 8 rfl) rfl (by decide) ?_
    refine g_iload_n 2 (kdX3_higherNeighbour 9 rfl) rfl ?_
    refine g_if_le (tgt := 38) (kdX3_higherNeighbour 10 rfl) (by decide) (fun _ => ?_) (fun _ => ?_)
    · exact g_fgt [1, 2, 0] rfl (BX3_higherNeighbour_38 a1 a1 m1)
    · refine g_aload_n 1 (kdX3_higherNeighbour 11 rfl) rfl ?_
      refine g_get (v := .inr (.inr (27, 0))) (kdX3_higherNeighbour 12 rfl) fX3_18 rfl ?_
      refine g_iload_n 2 (kdX3_higherNeighbour 13 rfl) rfl ?_
      refine g_iconst (v := 1) (kdX3_higherNeighbour 14 rfl) (by decide) ?_
      refine g_isub (kdX3_higherNeighbour 15 rfl) ?_
      refine g_iald (kdX3_higherNeighbour 16 rfl) (fun x6 => ?_)
      refine g_aload_n 1 (kdX3_higherNeighbour 17 rfl) rfl ?_
      refine g_get (v := .inr (.inr (27, 0))) (kdX3_higherNeighbour 18 rfl) fX3_18 rfl ?_
      refine g_iload_n 0 (kdX3_higherNeighbour 19 rfl) rfl ?_
      refine g_iald (kdX3_higherNeighbour 20 rfl) (fun x7 => ?_)
      refine g_icmp_le (tgt := 38) (kdX3_higherNeighbour 21 rfl) (by decide) (fun _ => ?_) (fun _ => ?_)
      · exact g_fgt [1, 2, 0] rfl (BX3_higherNeighbour_38 a1 a1 m1)
      · refine g_iload_n 2 (kdX3_higherNeighbour 22 rfl) rfl ?_
        refine g_iconst (v := 1) (kdX3_higherNeighbour 23 rfl) (by decide) ?_
        refine g_isub (kdX3_higherNeighbour 24 rfl) ?_
        refine g_lt (fun x8 => ?_)
        refine g_istore_n (L2 := [(2, .inl x8), (0, .inr (.inr (24, 0))), (1, .inl a1)]) (kdX3_higherNeighbour 25 rfl) rfl (by decide) ?_
        exact g_fgt [1, 2, 0] rfl (BX3_higherNeighbour_38 a1 x8 m1)
  · refine g_iload_n 1 (kdX3_higherNeighbour 5 rfl) rfl ?_
    exact g_iret rfl (kdX3_higherNeighbour 6 rfl)
def bJX3_hunted_2 (K2 : Int32 → hM → hR) (K31 : hM → hR) (w1 : Nat) (w2 : Nat) (v3 : Int32) (m : hM) : hR :=
  if 4 ≤ v3 then (K31 m) else (calV (JX3_look w1 w2 v3 m) fun m1 =>
  calI (JX3_height w1 m1) fun x3 m2 =>
  ast m2 27 0 v3 x3 fun m4 =>
  K2 (v3 + 1) m4)
set_option maxRecDepth 20000 in
theorem BbJX3_hunted_2 (K2 : Int32 → hM → hR) (K31 : hM → hR) (w1 : Nat) (w2 : Nat) (h2 : ∀ (v3 : Int32) (m : hM), G mX3_hunted 4 2 [(0, .inr (.inr (24, 0))), (1, .inr (.inr (4, w1))), (2, .inr (.inr (12, w2))), (3, .inl v3)] [] m (K2 v3 m)) (h31 : ∀ (m : hM), G mX3_hunted 4 31 [(0, .inr (.inr (24, 0))), (2, .inr (.inr (12, w2)))] [] m (K31 m)) (v3 : Int32) (m : hM) : G mX3_hunted 4 2 [(0, .inr (.inr (24, 0))), (1, .inr (.inr (4, w1))), (2, .inr (.inr (12, w2))), (3, .inl v3)] [] m (bJX3_hunted_2 K2 K31 w1 w2 v3 m) := by
  unfold bJX3_hunted_2
  refine g_iload_n 3 (kdX3_hunted 2 rfl) rfl ?_
  refine g_iconst (v := 4) (kdX3_hunted 3 rfl) (by decide) ?_
  refine g_icmp_ge (tgt := 31) (kdX3_hunted 4 rfl) (by decide) (fun _ => ?_) (fun _ => ?_)
  · exact g_fgt [0, 2] rfl (h31 m)
  · refine g_aload_n 0 (kdX3_hunted 5 rfl) rfl ?_
    refine g_aload_n 1 (kdX3_hunted 6 rfl) rfl ?_
    refine g_aload_n 2 (kdX3_hunted 7 rfl) rfl ?_
    refine g_iload_n 3 (kdX3_hunted 8 rfl) rfl ?_
    refine g_calV (ck_V (As := [.inr (.inr (4, w1)), .inr (.inr (12, w2)), .inl v3]) (S := []) (t := 24) (o := 0) (kdX3_hunted 9 rfl) iX3_look lX3_78 rc_24 rfl rfl rfl (by decide) (by simp only [List.map, vcat, List.sum_cons, List.sum_nil]; decide)) (CX3_look w1 w2 v3 m) (fun m1 => ?_)
    refine g_aload_n 0 (kdX3_hunted 10 rfl) rfl ?_
    refine g_get (v := .inr (.inr (27, 0))) (kdX3_hunted 11 rfl) fX3_18 rfl ?_
    refine g_iload_n 3 (kdX3_hunted 12 rfl) rfl ?_
    refine g_aload_n 0 (kdX3_hunted 13 rfl) rfl ?_
    refine g_aload_n 1 (kdX3_hunted 14 rfl) rfl ?_
    refine g_calI (ck_V (As := [.inr (.inr (4, w1))]) (S := [.inl v3, .inr (.inr (27, 0))]) (t := 24) (o := 0) (kdX3_hunted 15 rfl) iX3_height lX3_82 rc_24 rfl rfl rfl (by decide) (by simp only [List.map, vcat, List.sum_cons, List.sum_nil]; decide)) (CX3_height w1 m1) (fun x3 m2 => ?_)
    refine g_iast (kdX3_hunted 16 rfl) (fun m4 => ?_)
    refine g_iinc (v := v3 + 1) (L2 := [(3, .inl (v3 + 1)), (0, .inr (.inr (24, 0))), (1, .inr (.inr (4, w1))), (2, .inr (.inr (12, w2)))]) 3 (kdX3_hunted 17 rfl) rfl rfl rfl (by decide) ?_
    refine g_goto (tgt := 2) (kdX3_hunted 18 rfl) (by decide) ?_
    exact g_fgt [1, 2, 3, 0] rfl (h2 (v3 + 1) m4)
def JX3_hunted_2 (K31 : hM → hR) (w1 : Nat) (w2 : Nat) : Nat → Int32 → hM → hR
  | 0, _, _ => none
  | f + 1, v3, m => bJX3_hunted_2 (fun v3 m => JX3_hunted_2 K31 w1 w2 f v3 m) K31 w1 w2 v3 m
theorem BJX3_hunted_2 (K31 : hM → hR) (w1 : Nat) (w2 : Nat) (h31 : ∀ (m : hM), G mX3_hunted 4 31 [(0, .inr (.inr (24, 0))), (2, .inr (.inr (12, w2)))] [] m (K31 m)) : ∀ (f : Nat) (v3 : Int32) (m : hM), G mX3_hunted 4 2 [(0, .inr (.inr (24, 0))), (1, .inr (.inr (4, w1))), (2, .inr (.inr (12, w2))), (3, .inl v3)] [] m (JX3_hunted_2 K31 w1 w2 f v3 m)
  | 0, _, _ => g_none
  | f + 1, v3, m => BbJX3_hunted_2  _ K31 w1 w2 (fun v3 m => BJX3_hunted_2  K31 w1 w2 h31 f v3 m) h31 v3 m
def bJX3_hunted_39 (K39 : Int32 → Int32 → hM → hR) (K57 : Int32 → hM → hR) (v3 : Int32) (v4 : Int32) (m : hM) : hR :=
  if 4 ≤ v4 then (K57 v3 m) else (calI (JX3_higherNeighbour v3 m) fun x8 m7 =>
  K39 x8 (v4 + 1) m7)
set_option maxRecDepth 20000 in
theorem BbJX3_hunted_39 (K39 : Int32 → Int32 → hM → hR) (K57 : Int32 → hM → hR) (h39 : ∀ (v3 : Int32) (v4 : Int32) (m : hM), G mX3_hunted 4 39 [(0, .inr (.inr (24, 0))), (3, .inl v3), (4, .inl v4)] [] m (K39 v3 v4 m)) (h57 : ∀ (v3 : Int32) (m : hM), G mX3_hunted 4 57 [(3, .inl v3)] [] m (K57 v3 m)) (v3 : Int32) (v4 : Int32) (m : hM) : G mX3_hunted 4 39 [(0, .inr (.inr (24, 0))), (3, .inl v3), (4, .inl v4)] [] m (bJX3_hunted_39 K39 K57 v3 v4 m) := by
  unfold bJX3_hunted_39
  refine g_iload 2 (kdX3_hunted 24 rfl) rfl ?_
  refine g_iconst (v := 4) (kdX3_hunted 25 rfl) (by decide) ?_
  refine g_icmp_ge (tgt := 57) (kdX3_hunted 26 rfl) (by decide) (fun _ => ?_) (fun _ => ?_)
  · exact g_fgt [1] rfl (h57 v3 m)
  · refine g_aload_n 0 (kdX3_hunted 27 rfl) rfl ?_
    refine g_iload_n 1 (kdX3_hunted 28 rfl) rfl ?_
    refine g_calI (ck_V (As := [.inl v3]) (S := []) (t := 24) (o := 0) (kdX3_hunted 29 rfl) iX3_higherNeighbour lX3_89 rc_24 rfl rfl rfl (by decide) (by simp only [List.map, vcat, List.sum_cons, List.sum_nil]; decide)) (CX3_higherNeighbour v3 m) (fun x8 m7 => ?_)
    refine g_istore_n (L2 := [(3, .inl x8), (0, .inr (.inr (24, 0))), (4, .inl v4)]) (kdX3_hunted 30 rfl) rfl (by decide) ?_
    refine g_iinc (v := v4 + 1) (L2 := [(4, .inl (v4 + 1)), (3, .inl x8), (0, .inr (.inr (24, 0)))]) 2 (kdX3_hunted 31 rfl) rfl rfl rfl (by decide) ?_
    refine g_goto (tgt := 39) (kdX3_hunted 32 rfl) (by decide) ?_
    exact g_fgt [2, 1, 0] rfl (h39 x8 (v4 + 1) m7)
def JX3_hunted_39 (K57 : Int32 → hM → hR) : Nat → Int32 → Int32 → hM → hR
  | 0, _, _, _ => none
  | f + 1, v3, v4, m => bJX3_hunted_39 (fun v3 v4 m => JX3_hunted_39 K57  f v3 v4 m) K57  v3 v4 m
theorem BJX3_hunted_39 (K57 : Int32 → hM → hR) (h57 : ∀ (v3 : Int32) (m : hM), G mX3_hunted 4 57 [(3, .inl v3)] [] m (K57 v3 m)) : ∀ (f : Nat) (v3 : Int32) (v4 : Int32) (m : hM), G mX3_hunted 4 39 [(0, .inr (.inr (24, 0))), (3, .inl v3), (4, .inl v4)] [] m (JX3_hunted_39 K57  f v3 v4 m)
  | 0, _, _, _ => g_none
  | f + 1, v3, v4, m => BbJX3_hunted_39  _ K57  (fun v3 v4 m => BJX3_hunted_39  K57  h57 f v3 v4 m) h57 v3 v4 m
def JX3_hunted (n1 : Nat) (n2 : Nat) (m : hM) : hR :=
  JX3_hunted_2 (fun m5 => lt (m5.1 12 n2 7) fun x6 =>
  JX3_hunted_39 (fun v3 m9 => some (some (.inl v3), m9))  FU x6 0 m5) n1 n2 FU 0 m
set_option maxRecDepth 20000 in
theorem CX3_hunted (n1 : Nat) (n2 : Nat) (m : hM) : Cn mX3_hunted 4 [.inr (.inr (24, 0)), .inr (.inr (4, n1)), .inr (.inr (12, n2))] m (JX3_hunted n1 n2 m) := by
  refine cn_of (by decide +kernel) (by simp only [List.map, vcat, List.sum_cons, List.sum_nil]; decide) ?_
  unfold JX3_hunted
  show G mX3_hunted 4 0 [(0, .inr (.inr (24, 0))), (1, .inr (.inr (4, n1))), (2, .inr (.inr (12, n2)))] [] m _
  refine g_iconst (v := 0) (kdX3_hunted 0 rfl) (by decide) ?_
  refine g_istore_n (L2 := [(3, .inl 0), (0, .inr (.inr (24, 0))), (1, .inr (.inr (4, n1))), (2, .inr (.inr (12, n2)))]) (kdX3_hunted 1 rfl) rfl (by decide) ?_
  refine g_fgt [1, 2, 3, 0] rfl (BJX3_hunted_2  _ n1 n2 ?_ FU 0 m)
  · intro m5
    refine g_aload_n 1 (kdX3_hunted 19 rfl) rfl ?_
    refine g_get (v := .inl (m5.1 12 n2 7)) (kdX3_hunted 20 rfl) fX3_85 rfl ?_
    refine g_lt (fun x6 => ?_)
    refine g_istore_n (L2 := [(3, .inl x6), (0, .inr (.inr (24, 0))), (2, .inr (.inr (12, n2)))]) (kdX3_hunted 21 rfl) rfl (by decide) ?_
    refine g_iconst (v := 0) (kdX3_hunted 22 rfl) (by decide) ?_
    refine g_istore (L2 := [(4, .inl 0), (3, .inl x6), (0, .inr (.inr (24, 0))), (2, .inr (.inr (12, n2)))]) (kdX3_hunted 23 rfl) rfl (by decide) ?_
    refine g_fgt [2, 1, 0] rfl (BJX3_hunted_39  _  ?_ FU x6 0 m5)
    · intro v3 m9
      refine g_iload_n 0 (kdX3_hunted 33 rfl) rfl ?_
      exact g_iret rfl (kdX3_hunted 34 rfl)
def JX3_openLevels (n1 : Nat) (n2 : Nat) (a3 : Int32) (m : hM) : hR :=
  calV (JX3_look n1 n2 a3 m) fun m1 =>
  calI (JX3_high n1 m1) fun x3 m2 =>
  calI (JJ9_floorDiv_7cf53 x3 64 m2) fun x5 m4 =>
  calI (JJ9_min_7cf53 (m1.1 12 n2 9) x5 m4) fun x7 m6 =>
  calI (JX3_low n1 m6) fun x9 m8 =>
  calI (JJ9_floorDiv_7cf53 x9 64 m8) fun x11 m10 =>
  calI (JJ9_max_7cf53 (-(m6.1 12 n2 9)) (x11 + 1) m10) fun x13 m12 =>
  calI (JJ9_max_7cf53 ((x7 - x13) + 1) 0 m12) fun x15 m14 =>
  some (some (.inl x15), m14)
set_option maxRecDepth 20000 in
theorem CX3_openLevels (n1 : Nat) (n2 : Nat) (a3 : Int32) (m : hM) : Cn mX3_openLevels 4 [.inr (.inr (24, 0)), .inr (.inr (4, n1)), .inr (.inr (12, n2)), .inl a3] m (JX3_openLevels n1 n2 a3 m) := by
  refine cn_of (by decide +kernel) (by simp only [List.map, vcat, List.sum_cons, List.sum_nil]; decide) ?_
  unfold JX3_openLevels
  show G mX3_openLevels 4 0 [(0, .inr (.inr (24, 0))), (1, .inr (.inr (4, n1))), (2, .inr (.inr (12, n2))), (3, .inl a3)] [] m _
  refine g_aload_n 0 (kdX3_openLevels 0 rfl) rfl ?_
  refine g_aload_n 1 (kdX3_openLevels 1 rfl) rfl ?_
  refine g_aload_n 2 (kdX3_openLevels 2 rfl) rfl ?_
  refine g_iload_n 3 (kdX3_openLevels 3 rfl) rfl ?_
  refine g_calV (ck_V (As := [.inr (.inr (4, n1)), .inr (.inr (12, n2)), .inl a3]) (S := []) (t := 24) (o := 0) (kdX3_openLevels 4 rfl) iX3_look lX3_78 rc_24 rfl rfl rfl (by decide) (by simp only [List.map, vcat, List.sum_cons, List.sum_nil]; decide)) (CX3_look n1 n2 a3 m) (fun m1 => ?_)
  refine g_aload_n 2 (kdX3_openLevels 5 rfl) rfl ?_
  refine g_get (v := .inl (m1.1 12 n2 9)) (kdX3_openLevels 6 rfl) fX3_96 rfl ?_
  refine g_aload_n 0 (kdX3_openLevels 7 rfl) rfl ?_
  refine g_aload_n 1 (kdX3_openLevels 8 rfl) rfl ?_
  refine g_calI (ck_V (As := [.inr (.inr (4, n1))]) (S := [.inl (m1.1 12 n2 9)]) (t := 24) (o := 0) (kdX3_openLevels 9 rfl) iX3_high lX3_71 rc_24 rfl rfl rfl (by decide) (by simp only [List.map, vcat, List.sum_cons, List.sum_nil]; decide)) (CX3_high n1 m1) (fun x3 m2 => ?_)
  refine g_bipush (v := 64) (kdX3_openLevels 10 rfl) (by decide) ?_
  refine g_calI (ck_S (As := [.inl x3, .inl 64]) (S := [.inl (m1.1 12 n2 9)]) (kdX3_openLevels 11 rfl) iJ9_floorDiv_7cf53 lX3_99 rfl rfl rfl (by decide) (by simp only [List.map, vcat, List.sum_cons, List.sum_nil]; decide)) (CJ9_floorDiv_7cf53 x3 64 m2) (fun x5 m4 => ?_)
  refine g_calI (ck_S (As := [.inl (m1.1 12 n2 9), .inl x5]) (S := []) (kdX3_openLevels 12 rfl) iJ9_min_7cf53 lX3_62 rfl rfl rfl (by decide) (by simp only [List.map, vcat, List.sum_cons, List.sum_nil]; decide)) (CJ9_min_7cf53 (m1.1 12 n2 9) x5 m4) (fun x7 m6 => ?_)
  refine g_istore (L2 := [(4, .inl x7), (0, .inr (.inr (24, 0))), (1, .inr (.inr (4, n1))), (2, .inr (.inr (12, n2))), (3, .inl a3)]) (kdX3_openLevels 13 rfl) rfl (by decide) ?_
  refine g_aload_n 3 (kdX3_openLevels 14 rfl) rfl ?_
  refine g_get (v := .inl (m6.1 12 n2 9)) (kdX3_openLevels 15 rfl) fX3_96 rfl ?_
  refine g_ineg (kdX3_openLevels 16 rfl) ?_
  refine g_aload_n 1 (kdX3_openLevels 17 rfl) rfl ?_
  refine g_aload_n 2 (kdX3_openLevels 18 rfl) rfl ?_
  refine g_calI (ck_V (As := [.inr (.inr (4, n1))]) (S := [.inl (-(m6.1 12 n2 9))]) (t := 24) (o := 0) (kdX3_openLevels 19 rfl) iX3_low lX3_75 rc_24 rfl rfl rfl (by decide) (by simp only [List.map, vcat, List.sum_cons, List.sum_nil]; decide)) (CX3_low n1 m6) (fun x9 m8 => ?_)
  refine g_bipush (v := 64) (kdX3_openLevels 20 rfl) (by decide) ?_
  refine g_calI (ck_S (As := [.inl x9, .inl 64]) (S := [.inl (-(m6.1 12 n2 9))]) (kdX3_openLevels 21 rfl) iJ9_floorDiv_7cf53 lX3_99 rfl rfl rfl (by decide) (by simp only [List.map, vcat, List.sum_cons, List.sum_nil]; decide)) (CJ9_floorDiv_7cf53 x9 64 m8) (fun x11 m10 => ?_)
  refine g_iconst (v := 1) (kdX3_openLevels 22 rfl) (by decide) ?_
  refine g_iadd (kdX3_openLevels 23 rfl) ?_
  refine g_calI (ck_S (As := [.inl (-(m6.1 12 n2 9)), .inl (x11 + 1)]) (S := []) (kdX3_openLevels 24 rfl) iJ9_max_7cf53 lX3_68 rfl rfl rfl (by decide) (by simp only [List.map, vcat, List.sum_cons, List.sum_nil]; decide)) (CJ9_max_7cf53 (-(m6.1 12 n2 9)) (x11 + 1) m10) (fun x13 m12 => ?_)
  refine g_istore (L2 := [(5, .inl x13), (4, .inl x7), (0, .inr (.inr (24, 0))), (1, .inr (.inr (4, n1))), (2, .inr (.inr (12, n2))), (3, .inl a3)]) (kdX3_openLevels 25 rfl) rfl (by decide) ?_
  refine g_iload 1 (kdX3_openLevels 26 rfl) rfl ?_
  refine g_iload 0 (kdX3_openLevels 27 rfl) rfl ?_
  refine g_isub (kdX3_openLevels 28 rfl) ?_
  refine g_iconst (v := 1) (kdX3_openLevels 29 rfl) (by decide) ?_
  refine g_iadd (kdX3_openLevels 30 rfl) ?_
  refine g_iconst (v := 0) (kdX3_openLevels 31 rfl) (by decide) ?_
  refine g_calI (ck_S (As := [.inl ((x7 - x13) + 1), .inl 0]) (S := []) (kdX3_openLevels 32 rfl) iJ9_max_7cf53 lX3_68 rfl rfl rfl (by decide) (by simp only [List.map, vcat, List.sum_cons, List.sum_nil]; decide)) (CJ9_max_7cf53 ((x7 - x13) + 1) 0 m12) (fun x15 m14 => ?_)
  exact g_iret rfl (kdX3_openLevels 33 rfl)
def bJX3_bearable_27 (K27 : Int32 → Int32 → hM → hR) (K63 : Int32 → hM → hR) (w1 : Nat) (w2 : Nat) (v4 : Int32) (v5 : Int32) (v6 : Int32) (v7 : Int32) (m : hM) : hR :=
  calI (JX4_foreTaps w1 m) fun x7 m6 =>
  if x7 ≤ v7 then (K63 v6 m6) else (if 3 ≤ v7 then (K63 v6 m6) else (ald m6 13 w2 v7 fun x8 =>
  calI (JX11_sizeOf x8 m6) fun x10 m9 =>
  lt (v6 + x10) fun x11 =>
  K27 x11 (v7 + 1) m9))
set_option maxRecDepth 20000 in
theorem BbJX3_bearable_27 (K27 : Int32 → Int32 → hM → hR) (K63 : Int32 → hM → hR) (w1 : Nat) (w2 : Nat) (v4 : Int32) (v5 : Int32) (h27 : ∀ (v6 : Int32) (v7 : Int32) (m : hM), G mX3_bearable 4 27 [(1, .inr (.inr (4, w1))), (2, .inr (.inr (12, w2))), (4, .inl v4), (5, .inl v5), (6, .inl v6), (7, .inl v7)] [] m (K27 v6 v7 m)) (h63 : ∀ (v6 : Int32) (m : hM), G mX3_bearable 4 63 [(4, .inl v4), (5, .inl v5), (6, .inl v6)] [] m (K63 v6 m)) (v6 : Int32) (v7 : Int32) (m : hM) : G mX3_bearable 4 27 [(1, .inr (.inr (4, w1))), (2, .inr (.inr (12, w2))), (4, .inl v4), (5, .inl v5), (6, .inl v6), (7, .inl v7)] [] m (bJX3_bearable_27 K27 K63 w1 w2 v4 v5 v6 v7 m) := by
  unfold bJX3_bearable_27
  refine g_iload 5 (kdX3_bearable 17 rfl) rfl ?_
  refine g_aload_n 0 (kdX3_bearable 18 rfl) rfl ?_
  refine g_calI (ck_V (As := []) (S := [.inl v7]) (t := 4) (o := w1) (kdX3_bearable 19 rfl) iX4_foreTaps lX3_21 rc_4 rfl rfl rfl (by decide) (by simp only [List.map, vcat, List.sum_cons, List.sum_nil]; decide)) (CX4_foreTaps w1 m) (fun x7 m6 => ?_)
  refine g_icmp_ge (tgt := 63) (kdX3_bearable 20 rfl) (by decide) (fun _ => ?_) (fun _ => ?_)
  · exact g_fgt [2, 3, 4] rfl (h63 v6 m6)
  · refine g_iload 5 (kdX3_bearable 21 rfl) rfl ?_
    refine g_iconst (v := 3) (kdX3_bearable 22 rfl) (by decide) ?_
    refine g_icmp_ge (tgt := 63) (kdX3_bearable 23 rfl) (by decide) (fun _ => ?_) (fun _ => ?_)
    · exact g_fgt [2, 3, 4] rfl (h63 v6 m6)
    · refine g_iload 4 (kdX3_bearable 24 rfl) rfl ?_
      refine g_aload_n 1 (kdX3_bearable 25 rfl) rfl ?_
      refine g_get (v := .inr (.inr (13, w2))) (kdX3_bearable 26 rfl) fX3_44 rfl ?_
      refine g_iload 5 (kdX3_bearable 27 rfl) rfl ?_
      refine g_iald (kdX3_bearable 28 rfl) (fun x8 => ?_)
      refine g_calI (ck_S (As := [.inl x8]) (S := [.inl v6]) (kdX3_bearable 29 rfl) iX11_sizeOf lX3_102 rfl rfl rfl (by decide) (by simp only [List.map, vcat, List.sum_cons, List.sum_nil]; decide)) (CX11_sizeOf x8 m6) (fun x10 m9 => ?_)
      refine g_iadd (kdX3_bearable 30 rfl) ?_
      refine g_lt (fun x11 => ?_)
      refine g_istore (L2 := [(6, .inl x11), (1, .inr (.inr (4, w1))), (2, .inr (.inr (12, w2))), (4, .inl v4), (5, .inl v5), (7, .inl v7)]) (kdX3_bearable 31 rfl) rfl (by decide) ?_
      refine g_iinc (v := v7 + 1) (L2 := [(7, .inl (v7 + 1)), (6, .inl x11), (1, .inr (.inr (4, w1))), (2, .inr (.inr (12, w2))), (4, .inl v4), (5, .inl v5)]) 5 (kdX3_bearable 32 rfl) rfl rfl rfl (by decide) ?_
      refine g_goto (tgt := 27) (kdX3_bearable 33 rfl) (by decide) ?_
      exact g_fgt [2, 3, 4, 5, 1, 0] rfl (h27 x11 (v7 + 1) m9)
def JX3_bearable_27 (K63 : Int32 → hM → hR) (w1 : Nat) (w2 : Nat) (v4 : Int32) (v5 : Int32) : Nat → Int32 → Int32 → hM → hR
  | 0, _, _, _ => none
  | f + 1, v6, v7, m => bJX3_bearable_27 (fun v6 v7 m => JX3_bearable_27 K63 w1 w2 v4 v5 f v6 v7 m) K63 w1 w2 v4 v5 v6 v7 m
theorem BJX3_bearable_27 (K63 : Int32 → hM → hR) (w1 : Nat) (w2 : Nat) (v4 : Int32) (v5 : Int32) (h63 : ∀ (v6 : Int32) (m : hM), G mX3_bearable 4 63 [(4, .inl v4), (5, .inl v5), (6, .inl v6)] [] m (K63 v6 m)) : ∀ (f : Nat) (v6 : Int32) (v7 : Int32) (m : hM), G mX3_bearable 4 27 [(1, .inr (.inr (4, w1))), (2, .inr (.inr (12, w2))), (4, .inl v4), (5, .inl v5), (6, .inl v6), (7, .inl v7)] [] m (JX3_bearable_27 K63 w1 w2 v4 v5 f v6 v7 m)
  | 0, _, _, _ => g_none
  | f + 1, v6, v7, m => BbJX3_bearable_27  _ K63 w1 w2 v4 v5 (fun v6 v7 m => BJX3_bearable_27  K63 w1 w2 v4 v5 h63 f v6 v7 m) h63 v6 v7 m
def JX3_bearable_97 (K67 : Int32 → hM → hR) (K94 : Int32 → hM → hR) (K103 : hM → hR) (v4 : Int32) (v5 : Int32) (v6 : Int32) (v7 : Int32) (m : hM) : hR :=
  K67 (v7 + (-1)) m
set_option maxRecDepth 20000 in
theorem BX3_bearable_97 (v4 : Int32) (v5 : Int32) (v6 : Int32) (K67 : Int32 → hM → hR) (K94 : Int32 → hM → hR) (K103 : hM → hR) (h67 : ∀ (v7 : Int32) (m : hM), G mX3_bearable 4 67 [(4, .inl v4), (5, .inl v5), (6, .inl v6), (7, .inl v7)] [] m (K67 v7 m)) (h94 : ∀ (v7 : Int32) (m : hM), G mX3_bearable 4 94 [(7, .inl v7)] [] m (K94 v7 m)) (h103 : ∀ (m : hM), G mX3_bearable 4 103 [] [] m (K103 m)) (v7 : Int32) (m : hM) : G mX3_bearable 4 97 [(4, .inl v4), (5, .inl v5), (6, .inl v6), (7, .inl v7)] [] m (JX3_bearable_97 K67 K94 K103 v4 v5 v6 v7 m) := by
  unfold JX3_bearable_97
  refine g_iinc (v := v7 + (-1)) (L2 := [(7, .inl (v7 + (-1))), (4, .inl v4), (5, .inl v5), (6, .inl v6)]) 3 (kdX3_bearable 52 rfl) rfl rfl rfl (by decide) ?_
  refine g_goto (tgt := 67) (kdX3_bearable 53 rfl) (by decide) ?_
  exact g_fgt [1, 2, 3, 0] rfl (h67 (v7 + (-1)) m)
def bJX3_bearable_67 (K67 : Int32 → hM → hR) (K94 : Int32 → hM → hR) (K103 : hM → hR) (v4 : Int32) (v5 : Int32) (v6 : Int32) (v7 : Int32) (m : hM) : hR :=
  if v7 < 0 then (K103 m) else (if (v4 - (v7 * v6)) < 0 then (JX3_bearable_97 K67 K94 K103 v4 v5 v6 v7 m) else (if 0 ≤ (v5 + (v7 * v6)) then (JX3_bearable_97 K67 K94 K103 v4 v5 v6 v7 m) else (K94 v7 m)))
set_option maxRecDepth 20000 in
theorem BbJX3_bearable_67 (K67 : Int32 → hM → hR) (K94 : Int32 → hM → hR) (K103 : hM → hR) (v4 : Int32) (v5 : Int32) (v6 : Int32) (h67 : ∀ (v7 : Int32) (m : hM), G mX3_bearable 4 67 [(4, .inl v4), (5, .inl v5), (6, .inl v6), (7, .inl v7)] [] m (K67 v7 m)) (h94 : ∀ (v7 : Int32) (m : hM), G mX3_bearable 4 94 [(7, .inl v7)] [] m (K94 v7 m)) (h103 : ∀ (m : hM), G mX3_bearable 4 103 [] [] m (K103 m)) (v7 : Int32) (m : hM) : G mX3_bearable 4 67 [(4, .inl v4), (5, .inl v5), (6, .inl v6), (7, .inl v7)] [] m (bJX3_bearable_67 K67 K94 K103 v4 v5 v6 v7 m) := by
  unfold bJX3_bearable_67
  refine g_iload 3 (kdX3_bearable 36 rfl) rfl ?_
  refine g_if_lt (tgt := 103) (kdX3_bearable 37 rfl) (by decide) (fun _ => ?_) (fun _ => ?_)
  · exact g_fgt [] rfl (h103 m)
  · refine g_iload 0 (kdX3_bearable 38 rfl) rfl ?_
    refine g_iload 3 (kdX3_bearable 39 rfl) rfl ?_
    refine g_iload 2 (kdX3_bearable 40 rfl) rfl ?_
    refine g_imul (kdX3_bearable 41 rfl) ?_
    refine g_isub (kdX3_bearable 42 rfl) ?_
    refine g_if_lt (tgt := 97) (kdX3_bearable 43 rfl) (by decide) (fun _ => ?_) (fun _ => ?_)
    · exact g_fgt [0, 1, 2, 3] rfl (BX3_bearable_97 v4 v5 v6 _ _ _ h67 h94 h103 v7 m)
    · refine g_iload 1 (kdX3_bearable 44 rfl) rfl ?_
      refine g_iload 3 (kdX3_bearable 45 rfl) rfl ?_
      refine g_iload 2 (kdX3_bearable 46 rfl) rfl ?_
      refine g_imul (kdX3_bearable 47 rfl) ?_
      refine g_iadd (kdX3_bearable 48 rfl) ?_
      refine g_if_ge (tgt := 97) (kdX3_bearable 49 rfl) (by decide) (fun _ => ?_) (fun _ => ?_)
      · exact g_fgt [0, 1, 2, 3] rfl (BX3_bearable_97 v4 v5 v6 _ _ _ h67 h94 h103 v7 m)
      · exact g_fgt [3] rfl (h94 v7 m)
def JX3_bearable_67 (K94 : Int32 → hM → hR) (K103 : hM → hR) (v4 : Int32) (v5 : Int32) (v6 : Int32) : Nat → Int32 → hM → hR
  | 0, _, _ => none
  | f + 1, v7, m => bJX3_bearable_67 (fun v7 m => JX3_bearable_67 K94 K103 v4 v5 v6 f v7 m) K94 K103 v4 v5 v6 v7 m
theorem BJX3_bearable_67 (K94 : Int32 → hM → hR) (K103 : hM → hR) (v4 : Int32) (v5 : Int32) (v6 : Int32) (h94 : ∀ (v7 : Int32) (m : hM), G mX3_bearable 4 94 [(7, .inl v7)] [] m (K94 v7 m)) (h103 : ∀ (m : hM), G mX3_bearable 4 103 [] [] m (K103 m)) : ∀ (f : Nat) (v7 : Int32) (m : hM), G mX3_bearable 4 67 [(4, .inl v4), (5, .inl v5), (6, .inl v6), (7, .inl v7)] [] m (JX3_bearable_67 K94 K103 v4 v5 v6 f v7 m)
  | 0, _, _ => g_none
  | f + 1, v7, m => BbJX3_bearable_67  _ K94 K103 v4 v5 v6 (fun v7 m => BJX3_bearable_67  K94 K103 v4 v5 v6 h94 h103 f v7 m) h94 h103 v7 m
def JX3_bearable_63 (v4 : Int32) (v5 : Int32) (v6 : Int32) (m : hM) : hR :=
  JX3_bearable_67 (fun v7 m13 => some (some (.inl v7), m13)) (fun m14 => some (some (.inl (-1)), m14)) v4 v5 v6 FU 99 m
set_option maxRecDepth 20000 in
theorem BX3_bearable_63 (v4 : Int32) (v5 : Int32) (v6 : Int32) (m : hM) : G mX3_bearable 4 63 [(4, .inl v4), (5, .inl v5), (6, .inl v6)] [] m (JX3_bearable_63 v4 v5 v6 m) := by
  unfold JX3_bearable_63
  refine g_bipush (v := 99) (kdX3_bearable 34 rfl) (by decide) ?_
  refine g_istore (L2 := [(7, .inl 99), (4, .inl v4), (5, .inl v5), (6, .inl v6)]) (kdX3_bearable 35 rfl) rfl (by decide) ?_
  refine g_fgt [1, 2, 3, 0] rfl (BJX3_bearable_67  _ _ v4 v5 v6 ?_ ?_ FU 99 m)
  · intro v7 m13
    refine g_iload 0 (kdX3_bearable 50 rfl) rfl ?_
    exact g_iret rfl (kdX3_bearable 51 rfl)
  · intro m14
    refine g_iconst (v := (-1)) (kdX3_bearable 54 rfl) (by decide) ?_
    exact g_iret rfl (kdX3_bearable 55 rfl)
def JX3_bearable (n1 : Nat) (n2 : Nat) (a3 : Int32) (m : hM) : hR :=
  calV (JX3_look n1 n2 a3 m) fun m1 =>
  calI (JX3_high n1 m1) fun x3 m2 =>
  calI (JX3_low n1 m2) fun x5 m4 =>
  JX3_bearable_27 (fun v6 m12 => JX3_bearable_63 x3 x5 v6 m12) n1 n2 x3 x5 FU 0 0 m4
set_option maxRecDepth 20000 in
theorem CX3_bearable (n1 : Nat) (n2 : Nat) (a3 : Int32) (m : hM) : Cn mX3_bearable 4 [.inr (.inr (24, 0)), .inr (.inr (4, n1)), .inr (.inr (12, n2)), .inl a3] m (JX3_bearable n1 n2 a3 m) := by
  refine cn_of (by decide +kernel) (by simp only [List.map, vcat, List.sum_cons, List.sum_nil]; decide) ?_
  unfold JX3_bearable
  show G mX3_bearable 4 0 [(0, .inr (.inr (24, 0))), (1, .inr (.inr (4, n1))), (2, .inr (.inr (12, n2))), (3, .inl a3)] [] m _
  refine g_aload_n 0 (kdX3_bearable 0 rfl) rfl ?_
  refine g_aload_n 1 (kdX3_bearable 1 rfl) rfl ?_
  refine g_aload_n 2 (kdX3_bearable 2 rfl) rfl ?_
  refine g_iload_n 3 (kdX3_bearable 3 rfl) rfl ?_
  refine g_calV (ck_V (As := [.inr (.inr (4, n1)), .inr (.inr (12, n2)), .inl a3]) (S := []) (t := 24) (o := 0) (kdX3_bearable 4 rfl) iX3_look lX3_78 rc_24 rfl rfl rfl (by decide) (by simp only [List.map, vcat, List.sum_cons, List.sum_nil]; decide)) (CX3_look n1 n2 a3 m) (fun m1 => ?_)
  refine g_aload_n 0 (kdX3_bearable 5 rfl) rfl ?_
  refine g_aload_n 1 (kdX3_bearable 6 rfl) rfl ?_
  refine g_calI (ck_V (As := [.inr (.inr (4, n1))]) (S := []) (t := 24) (o := 0) (kdX3_bearable 7 rfl) iX3_high lX3_71 rc_24 rfl rfl rfl (by decide) (by simp only [List.map, vcat, List.sum_cons, List.sum_nil]; decide)) (CX3_high n1 m1) (fun x3 m2 => ?_)
  refine g_istore (L2 := [(4, .inl x3), (0, .inr (.inr (24, 0))), (1, .inr (.inr (4, n1))), (2, .inr (.inr (12, n2))), (3, .inl a3)]) (kdX3_bearable 8 rfl) rfl (by decide) ?_
  refine g_aload_n 1 (kdX3_bearable 9 rfl) rfl ?_
  refine g_aload_n 2 (kdX3_bearable 10 rfl) rfl ?_
  refine g_calI (ck_V (As := [.inr (.inr (4, n1))]) (S := []) (t := 24) (o := 0) (kdX3_bearable 11 rfl) iX3_low lX3_75 rc_24 rfl rfl rfl (by decide) (by simp only [List.map, vcat, List.sum_cons, List.sum_nil]; decide)) (CX3_low n1 m2) (fun x5 m4 => ?_)
  refine g_istore (L2 := [(5, .inl x5), (4, .inl x3), (0, .inr (.inr (24, 0))), (1, .inr (.inr (4, n1))), (2, .inr (.inr (12, n2))), (3, .inl a3)]) (kdX3_bearable 12 rfl) rfl (by decide) ?_
  refine g_iconst (v := 0) (kdX3_bearable 13 rfl) (by decide) ?_
  refine g_istore (L2 := [(6, .inl 0), (5, .inl x5), (4, .inl x3), (0, .inr (.inr (24, 0))), (1, .inr (.inr (4, n1))), (2, .inr (.inr (12, n2))), (3, .inl a3)]) (kdX3_bearable 14 rfl) rfl (by decide) ?_
  refine g_iconst (v := 0) (kdX3_bearable 15 rfl) (by decide) ?_
  refine g_istore (L2 := [(7, .inl 0), (6, .inl 0), (5, .inl x5), (4, .inl x3), (0, .inr (.inr (24, 0))), (1, .inr (.inr (4, n1))), (2, .inr (.inr (12, n2))), (3, .inl a3)]) (kdX3_bearable 16 rfl) rfl (by decide) ?_
  refine g_fgt [5, 6, 3, 2, 1, 0] rfl (BJX3_bearable_27  _ n1 n2 x3 x5 ?_ FU 0 0 m4)
  · intro v6 m12
    exact g_fgt [0, 1, 2] rfl (BX3_bearable_63 x3 x5 v6 m12)
def bJX3_improve_47 (K47 : Int32 → hM → hR) (K111 : hM → hR) (w1 : Nat) (w2 : Nat) (v3 : Int32) (v4 : Int32) (v5 : Int32) (v6 : Int32) (v7 : Int32) (m : hM) : hR :=
  if 64 ≤ v7 then (K111 m) else (calI (JX3_share w1 v7 (m.1 12 w2 7) v3 m) fun x9 m8 =>
  ast m8 26 0 v7 x9 fun m10 =>
  calI (JX3_rowZ w1 w2 v7 (m10.1 12 w2 7) m10) fun x12 m11 =>
  ald m11 26 0 v7 fun x13 =>
  ast m11 25 0 v7 (x12 + ((v5 - v4) * x13)) fun m14 =>
  K47 (v7 + 1) m14)
set_option maxRecDepth 20000 in
theorem BbJX3_improve_47 (K47 : Int32 → hM → hR) (K111 : hM → hR) (w1 : Nat) (w2 : Nat) (v3 : Int32) (v4 : Int32) (v5 : Int32) (v6 : Int32) (h47 : ∀ (v7 : Int32) (m : hM), G mX3_improve 4 47 [(0, .inr (.inr (24, 0))), (1, .inr (.inr (4, w1))), (2, .inr (.inr (12, w2))), (3, .inl v3), (4, .inl v4), (5, .inl v5), (6, .inl v6), (7, .inl v7)] [] m (K47 v7 m)) (h111 : ∀ (m : hM), G mX3_improve 4 111 [(0, .inr (.inr (24, 0))), (1, .inr (.inr (4, w1))), (5, .inl v5), (6, .inl v6)] [] m (K111 m)) (v7 : Int32) (m : hM) : G mX3_improve 4 47 [(0, .inr (.inr (24, 0))), (1, .inr (.inr (4, w1))), (2, .inr (.inr (12, w2))), (3, .inl v3), (4, .inl v4), (5, .inl v5), (6, .inl v6), (7, .inl v7)] [] m (bJX3_improve_47 K47 K111 w1 w2 v3 v4 v5 v6 v7 m) := by
  unfold bJX3_improve_47
  refine g_iload 7 (kdX3_improve 25 rfl) rfl ?_
  refine g_bipush (v := 64) (kdX3_improve 26 rfl) (by decide) ?_
  refine g_icmp_ge (tgt := 111) (kdX3_improve 27 rfl) (by decide) (fun _ => ?_) (fun _ => ?_)
  · exact g_fgt [0, 1, 5, 6] rfl (h111 m)
  · refine g_aload_n 0 (kdX3_improve 28 rfl) rfl ?_
    refine g_get (v := .inr (.inr (26, 0))) (kdX3_improve 29 rfl) fX3_15 rfl ?_
    refine g_iload 7 (kdX3_improve 30 rfl) rfl ?_
    refine g_aload_n 1 (kdX3_improve 31 rfl) rfl ?_
    refine g_iload 7 (kdX3_improve 32 rfl) rfl ?_
    refine g_aload_n 2 (kdX3_improve 33 rfl) rfl ?_
    refine g_get (v := .inl (m.1 12 w2 7)) (kdX3_improve 34 rfl) fX3_85 rfl ?_
    refine g_iload_n 3 (kdX3_improve 35 rfl) rfl ?_
    refine g_calI (ck_S (As := [.inr (.inr (4, w1)), .inl v7, .inl (m.1 12 w2 7), .inl v3]) (S := [.inl v7, .inr (.inr (26, 0))]) (kdX3_improve 36 rfl) iX3_share lX3_49 rfl rfl rfl (by decide) (by simp only [List.map, vcat, List.sum_cons, List.sum_nil]; decide)) (CX3_share w1 v7 (m.1 12 w2 7) v3 m) (fun x9 m8 => ?_)
    refine g_iast (kdX3_improve 37 rfl) (fun m10 => ?_)
    refine g_aload_n 0 (kdX3_improve 38 rfl) rfl ?_
    refine g_get (v := .inr (.inr (25, 0))) (kdX3_improve 39 rfl) fX3_9 rfl ?_
    refine g_iload 7 (kdX3_improve 40 rfl) rfl ?_
    refine g_aload_n 0 (kdX3_improve 41 rfl) rfl ?_
    refine g_aload_n 1 (kdX3_improve 42 rfl) rfl ?_
    refine g_aload_n 2 (kdX3_improve 43 rfl) rfl ?_
    refine g_iload 7 (kdX3_improve 44 rfl) rfl ?_
    refine g_aload_n 2 (kdX3_improve 45 rfl) rfl ?_
    refine g_get (v := .inl (m10.1 12 w2 7)) (kdX3_improve 46 rfl) fX3_85 rfl ?_
    refine g_calI (ck_V (As := [.inr (.inr (4, w1)), .inr (.inr (12, w2)), .inl v7, .inl (m10.1 12 w2 7)]) (S := [.inl v7, .inr (.inr (25, 0))]) (t := 24) (o := 0) (kdX3_improve 47 rfl) iX3_rowZ lX3_53 rc_24 rfl rfl rfl (by decide) (by simp only [List.map, vcat, List.sum_cons, List.sum_nil]; decide)) (CX3_rowZ w1 w2 v7 (m10.1 12 w2 7) m10) (fun x12 m11 => ?_)
    refine g_iload 5 (kdX3_improve 48 rfl) rfl ?_
    refine g_iload 4 (kdX3_improve 49 rfl) rfl ?_
    refine g_isub (kdX3_improve 50 rfl) ?_
    refine g_aload_n 0 (kdX3_improve 51 rfl) rfl ?_
    refine g_get (v := .inr (.inr (26, 0))) (kdX3_improve 52 rfl) fX3_15 rfl ?_
    refine g_iload 7 (kdX3_improve 53 rfl) rfl ?_
    refine g_iald (kdX3_improve 54 rfl) (fun x13 => ?_)
    refine g_imul (kdX3_improve 55 rfl) ?_
    refine g_iadd (kdX3_improve 56 rfl) ?_
    refine g_iast (kdX3_improve 57 rfl) (fun m14 => ?_)
    refine g_iinc (v := v7 + 1) (L2 := [(7, .inl (v7 + 1)), (0, .inr (.inr (24, 0))), (1, .inr (.inr (4, w1))), (2, .inr (.inr (12, w2))), (3, .inl v3), (4, .inl v4), (5, .inl v5), (6, .inl v6)]) 7 (kdX3_improve 58 rfl) rfl rfl rfl (by decide) ?_
    refine g_goto (tgt := 47) (kdX3_improve 59 rfl) (by decide) ?_
    exact g_fgt [1, 2, 3, 4, 5, 6, 7, 0] rfl (h47 (v7 + 1) m14)
def JX3_improve_47 (K111 : hM → hR) (w1 : Nat) (w2 : Nat) (v3 : Int32) (v4 : Int32) (v5 : Int32) (v6 : Int32) : Nat → Int32 → hM → hR
  | 0, _, _ => none
  | f + 1, v7, m => bJX3_improve_47 (fun v7 m => JX3_improve_47 K111 w1 w2 v3 v4 v5 v6 f v7 m) K111 w1 w2 v3 v4 v5 v6 v7 m
theorem BJX3_improve_47 (K111 : hM → hR) (w1 : Nat) (w2 : Nat) (v3 : Int32) (v4 : Int32) (v5 : Int32) (v6 : Int32) (h111 : ∀ (m : hM), G mX3_improve 4 111 [(0, .inr (.inr (24, 0))), (1, .inr (.inr (4, w1))), (5, .inl v5), (6, .inl v6)] [] m (K111 m)) : ∀ (f : Nat) (v7 : Int32) (m : hM), G mX3_improve 4 47 [(0, .inr (.inr (24, 0))), (1, .inr (.inr (4, w1))), (2, .inr (.inr (12, w2))), (3, .inl v3), (4, .inl v4), (5, .inl v5), (6, .inl v6), (7, .inl v7)] [] m (JX3_improve_47 K111 w1 w2 v3 v4 v5 v6 f v7 m)
  | 0, _, _ => g_none
  | f + 1, v7, m => BbJX3_improve_47  _ K111 w1 w2 v3 v4 v5 v6 (fun v7 m => BJX3_improve_47  K111 w1 w2 v3 v4 v5 v6 h111 f v7 m) h111 v7 m
def bJX3_improve_142 (K142 : Int32 → hM → hR) (K172 : hM → hR) (w1 : Nat) (v6 : Int32) (v7 : Int32) (v8 : Int32) (m : hM) : hR :=
  if 64 ≤ v8 then (K172 m) else (ald m 25 0 v8 fun x21 =>
  ald m 26 0 v8 fun x22 =>
  ast m 25 0 v8 (x21 + x22) fun m23 =>
  K142 (v8 + 1) m23)
set_option maxRecDepth 20000 in
theorem BbJX3_improve_142 (K142 : Int32 → hM → hR) (K172 : hM → hR) (w1 : Nat) (v6 : Int32) (v7 : Int32) (h142 : ∀ (v8 : Int32) (m : hM), G mX3_improve 4 142 [(0, .inr (.inr (24, 0))), (1, .inr (.inr (4, w1))), (6, .inl v6), (7, .inl v7), (8, .inl v8)] [] m (K142 v8 m)) (h172 : ∀ (m : hM), G mX3_improve 4 172 [(0, .inr (.inr (24, 0))), (1, .inr (.inr (4, w1))), (6, .inl v6), (7, .inl v7)] [] m (K172 m)) (v8 : Int32) (m : hM) : G mX3_improve 4 142 [(0, .inr (.inr (24, 0))), (1, .inr (.inr (4, w1))), (6, .inl v6), (7, .inl v7), (8, .inl v8)] [] m (bJX3_improve_142 K142 K172 w1 v6 v7 v8 m) := by
  unfold bJX3_improve_142
  refine g_iload 4 (kdX3_improve 77 rfl) rfl ?_
  refine g_bipush (v := 64) (kdX3_improve 78 rfl) (by decide) ?_
  refine g_icmp_ge (tgt := 172) (kdX3_improve 79 rfl) (by decide) (fun _ => ?_) (fun _ => ?_)
  · exact g_fgt [0, 1, 2, 3] rfl (h172 m)
  · refine g_aload_n 0 (kdX3_improve 80 rfl) rfl ?_
    refine g_get (v := .inr (.inr (25, 0))) (kdX3_improve 81 rfl) fX3_9 rfl ?_
    refine g_iload 4 (kdX3_improve 82 rfl) rfl ?_
    refine g_dup2 (kdX3_improve 83 rfl) rfl rfl ?_
    refine g_iald (kdX3_improve 84 rfl) (fun x21 => ?_)
    refine g_aload_n 0 (kdX3_improve 85 rfl) rfl ?_
    refine g_get (v := .inr (.inr (26, 0))) (kdX3_improve 86 rfl) fX3_15 rfl ?_
    refine g_iload 4 (kdX3_improve 87 rfl) rfl ?_
    refine g_iald (kdX3_improve 88 rfl) (fun x22 => ?_)
    refine g_iadd (kdX3_improve 89 rfl) ?_
    refine g_iast (kdX3_improve 90 rfl) (fun m23 => ?_)
    refine g_iinc (v := v8 + 1) (L2 := [(8, .inl (v8 + 1)), (0, .inr (.inr (24, 0))), (1, .inr (.inr (4, w1))), (6, .inl v6), (7, .inl v7)]) 4 (kdX3_improve 91 rfl) rfl rfl rfl (by decide) ?_
    refine g_goto (tgt := 142) (kdX3_improve 92 rfl) (by decide) ?_
    exact g_fgt [1, 2, 3, 4, 0] rfl (h142 (v8 + 1) m23)
def JX3_improve_142 (K172 : hM → hR) (w1 : Nat) (v6 : Int32) (v7 : Int32) : Nat → Int32 → hM → hR
  | 0, _, _ => none
  | f + 1, v8, m => bJX3_improve_142 (fun v8 m => JX3_improve_142 K172 w1 v6 v7 f v8 m) K172 w1 v6 v7 v8 m
theorem BJX3_improve_142 (K172 : hM → hR) (w1 : Nat) (v6 : Int32) (v7 : Int32) (h172 : ∀ (m : hM), G mX3_improve 4 172 [(0, .inr (.inr (24, 0))), (1, .inr (.inr (4, w1))), (6, .inl v6), (7, .inl v7)] [] m (K172 m)) : ∀ (f : Nat) (v8 : Int32) (m : hM), G mX3_improve 4 142 [(0, .inr (.inr (24, 0))), (1, .inr (.inr (4, w1))), (6, .inl v6), (7, .inl v7), (8, .inl v8)] [] m (JX3_improve_142 K172 w1 v6 v7 f v8 m)
  | 0, _, _ => g_none
  | f + 1, v8, m => BbJX3_improve_142  _ K172 w1 v6 v7 (fun v8 m => BJX3_improve_142  K172 w1 v6 v7 h172 f v8 m) h172 v8 m
def JX3_improve_200 (K132 : Int32 → hM → hR) (K206 : hM → hR) (w1 : Nat) (v6 : Int32) (v7 : Int32) (m : hM) : hR :=
  K132 (v7 + 1) m
set_option maxRecDepth 20000 in
theorem BX3_improve_200 (w1 : Nat) (v6 : Int32) (K132 : Int32 → hM → hR) (K206 : hM → hR) (h132 : ∀ (v7 : Int32) (m : hM), G mX3_improve 4 132 [(0, .inr (.inr (24, 0))), (1, .inr (.inr (4, w1))), (6, .inl v6), (7, .inl v7)] [] m (K132 v7 m)) (h206 : ∀ (m : hM), G mX3_improve 4 206 [] [] m (K206 m)) (v7 : Int32) (m : hM) : G mX3_improve 4 200 [(0, .inr (.inr (24, 0))), (1, .inr (.inr (4, w1))), (6, .inl v6), (7, .inl v7)] [] m (JX3_improve_200 K132 K206 w1 v6 v7 m) := by
  unfold JX3_improve_200
  refine g_iinc (v := v7 + 1) (L2 := [(7, .inl (v7 + 1)), (0, .inr (.inr (24, 0))), (1, .inr (.inr (4, w1))), (6, .inl v6)]) 3 (kdX3_improve 107 rfl) rfl rfl rfl (by decide) ?_
  refine g_goto (tgt := 132) (kdX3_improve 108 rfl) (by decide) ?_
  exact g_fgt [1, 2, 3, 0] rfl (h132 (v7 + 1) m)
def bJX3_improve_132 (K132 : Int32 → hM → hR) (K206 : hM → hR) (w1 : Nat) (v6 : Int32) (v7 : Int32) (m : hM) : hR :=
  if v6 < v7 then (K206 m) else (JX3_improve_142 (fun m24 => calI (JX3_height w1 m24) fun x26 m25 =>
  if x26 ≤ (m25.1 24 0 4) then (JX3_improve_200 K132 K206 w1 v6 v7 m25) else (stI m25 24 0 4 x26 fun m27 =>
  stI m27 24 0 3 v7 fun m28 =>
  JX3_improve_200 K132 K206 w1 v6 v7 m28)) w1 v6 v7 FU 0 m)
set_option maxRecDepth 20000 in
theorem BbJX3_improve_132 (K132 : Int32 → hM → hR) (K206 : hM → hR) (w1 : Nat) (v6 : Int32) (h132 : ∀ (v7 : Int32) (m : hM), G mX3_improve 4 132 [(0, .inr (.inr (24, 0))), (1, .inr (.inr (4, w1))), (6, .inl v6), (7, .inl v7)] [] m (K132 v7 m)) (h206 : ∀ (m : hM), G mX3_improve 4 206 [] [] m (K206 m)) (v7 : Int32) (m : hM) : G mX3_improve 4 132 [(0, .inr (.inr (24, 0))), (1, .inr (.inr (4, w1))), (6, .inl v6), (7, .inl v7)] [] m (bJX3_improve_132 K132 K206 w1 v6 v7 m) := by
  unfold bJX3_improve_132
  refine g_iload 3 (kdX3_improve 72 rfl) rfl ?_
  refine g_iload 2 (kdX3_improve 73 rfl) rfl ?_
  refine g_icmp_gt (tgt := 206) (kdX3_improve 74 rfl) (by decide) (fun _ => ?_) (fun _ => ?_)
  · exact g_fgt [] rfl (h206 m)
  · refine g_iconst (v := 0) (kdX3_improve 75 rfl) (by decide) ?_
    refine g_istore (L2 := [(8, .inl 0), (0, .inr (.inr (24, 0))), (1, .inr (.inr (4, w1))), (6, .inl v6), (7, .inl v7)]) (kdX3_improve 76 rfl) rfl (by decide) ?_
    refine g_fgt [1, 2, 3, 4, 0] rfl (BJX3_improve_142  _ w1 v6 v7 ?_ FU 0 m)
    · intro m24
      refine g_aload_n 0 (kdX3_improve 93 rfl) rfl ?_
      refine g_aload_n 1 (kdX3_improve 94 rfl) rfl ?_
      refine g_calI (ck_V (As := [.inr (.inr (4, w1))]) (S := []) (t := 24) (o := 0) (kdX3_improve 95 rfl) iX3_height lX3_82 rc_24 rfl rfl rfl (by decide) (by simp only [List.map, vcat, List.sum_cons, List.sum_nil]; decide)) (CX3_height w1 m24) (fun x26 m25 => ?_)
      refine g_istore (L2 := [(8, .inl x26), (0, .inr (.inr (24, 0))), (1, .inr (.inr (4, w1))), (6, .inl v6), (7, .inl v7)]) (kdX3_improve 96 rfl) rfl (by decide) ?_
      refine g_iload 0 (kdX3_improve 97 rfl) rfl ?_
      refine g_aload_n 1 (kdX3_improve 98 rfl) rfl ?_
      refine g_get (v := .inl (m25.1 24 0 4)) (kdX3_improve 99 rfl) fX3_108 rfl ?_
      refine g_icmp_le (tgt := 200) (kdX3_improve 100 rfl) (by decide) (fun _ => ?_) (fun _ => ?_)
      · exact g_fgt [1, 2, 3, 4] rfl (BX3_improve_200 w1 v6 _ _ h132 h206 v7 m25)
      · refine g_aload_n 1 (kdX3_improve 101 rfl) rfl ?_
        refine g_iload 0 (kdX3_improve 102 rfl) rfl ?_
        refine g_putI (kdX3_improve 103 rfl) fX3_108 rfl (fun m27 => ?_)
        refine g_aload_n 1 (kdX3_improve 104 rfl) rfl ?_
        refine g_iload 4 (kdX3_improve 105 rfl) rfl ?_
        refine g_putI (kdX3_improve 106 rfl) fX3_105 rfl (fun m28 => ?_)
        exact g_fgt [1, 2, 3, 4] rfl (BX3_improve_200 w1 v6 _ _ h132 h206 v7 m28)
def JX3_improve_132 (K206 : hM → hR) (w1 : Nat) (v6 : Int32) : Nat → Int32 → hM → hR
  | 0, _, _ => none
  | f + 1, v7, m => bJX3_improve_132 (fun v7 m => JX3_improve_132 K206 w1 v6 f v7 m) K206 w1 v6 v7 m
theorem BJX3_improve_132 (K206 : hM → hR) (w1 : Nat) (v6 : Int32) (h206 : ∀ (m : hM), G mX3_improve 4 206 [] [] m (K206 m)) : ∀ (f : Nat) (v7 : Int32) (m : hM), G mX3_improve 4 132 [(0, .inr (.inr (24, 0))), (1, .inr (.inr (4, w1))), (6, .inl v6), (7, .inl v7)] [] m (JX3_improve_132 K206 w1 v6 f v7 m)
  | 0, _, _ => g_none
  | f + 1, v7, m => BbJX3_improve_132  _ K206 w1 v6 (fun v7 m => BJX3_improve_132  K206 w1 v6 h206 f v7 m) h206 v7 m
def JX3_improve (n1 : Nat) (n2 : Nat) (a3 : Int32) (m : hM) : hR :=
  calI (JX11_within a3 0 5 m) fun x2 m1 =>
  if x2 = 0 then (some (none, m1)) else (ald m1 13 n2 a3 fun x3 =>
  calI (JJ9_max_7cf53 (x3 - 31) (-255) m1) fun x5 m4 =>
  calI (JJ9_min_7cf53 (x3 + 31) 255 m4) fun x7 m6 =>
  JX3_improve_47 (fun m15 => stI m15 24 0 3 x5 fun m16 =>
  calI (JX3_height n1 m16) fun x18 m17 =>
  stI m17 24 0 4 x18 fun m19 =>
  lt (x5 + 1) fun x20 =>
  JX3_improve_132 (fun m29 => some (none, m29)) n1 x7 FU x20 m19) n1 n2 a3 x3 x5 x7 FU 0 m6)
set_option maxRecDepth 20000 in
theorem CX3_improve (n1 : Nat) (n2 : Nat) (a3 : Int32) (m : hM) : Cn mX3_improve 4 [.inr (.inr (24, 0)), .inr (.inr (4, n1)), .inr (.inr (12, n2)), .inl a3] m (JX3_improve n1 n2 a3 m) := by
  refine cn_of (by decide +kernel) (by simp only [List.map, vcat, List.sum_cons, List.sum_nil]; decide) ?_
  unfold JX3_improve
  show G mX3_improve 4 0 [(0, .inr (.inr (24, 0))), (1, .inr (.inr (4, n1))), (2, .inr (.inr (12, n2))), (3, .inl a3)] [] m _
  refine g_iload_n 3 (kdX3_improve 0 rfl) rfl ?_
  refine g_iconst (v := 0) (kdX3_improve 1 rfl) (by decide) ?_
  refine g_iconst (v := 5) (kdX3_improve 2 rfl) (by decide) ?_
  refine g_calI (ck_S (As := [.inl a3, .inl 0, .inl 5]) (S := []) (kdX3_improve 3 rfl) iX11_within lX3_92 rfl rfl rfl (by decide) (by simp only [List.map, vcat, List.sum_cons, List.sum_nil]; decide)) (CX11_within a3 0 5 m) (fun x2 m1 => ?_)
  refine g_if_ne (tgt := 10) (kdX3_improve 4 rfl) (by decide) (fun _ => ?_) (fun _ => ?_)
  · refine g_aload_n 2 (kdX3_improve 6 rfl) rfl ?_
    refine g_get (v := .inr (.inr (13, n2))) (kdX3_improve 7 rfl) fX3_44 rfl ?_
    refine g_iload_n 3 (kdX3_improve 8 rfl) rfl ?_
    refine g_iald (kdX3_improve 9 rfl) (fun x3 => ?_)
    refine g_istore (L2 := [(4, .inl x3), (0, .inr (.inr (24, 0))), (1, .inr (.inr (4, n1))), (2, .inr (.inr (12, n2))), (3, .inl a3)]) (kdX3_improve 10 rfl) rfl (by decide) ?_
    refine g_iload 0 (kdX3_improve 11 rfl) rfl ?_
    refine g_bipush (v := 31) (kdX3_improve 12 rfl) (by decide) ?_
    refine g_isub (kdX3_improve 13 rfl) ?_
    refine g_sipush (v := (-255)) (kdX3_improve 14 rfl) (by decide) ?_
    refine g_calI (ck_S (As := [.inl (x3 - 31), .inl (-255)]) (S := []) (kdX3_improve 15 rfl) iJ9_max_7cf53 lX3_68 rfl rfl rfl (by decide) (by simp only [List.map, vcat, List.sum_cons, List.sum_nil]; decide)) (CJ9_max_7cf53 (x3 - 31) (-255) m1) (fun x5 m4 => ?_)
    refine g_istore (L2 := [(5, .inl x5), (4, .inl x3), (0, .inr (.inr (24, 0))), (1, .inr (.inr (4, n1))), (2, .inr (.inr (12, n2))), (3, .inl a3)]) (kdX3_improve 16 rfl) rfl (by decide) ?_
    refine g_iload 1 (kdX3_improve 17 rfl) rfl ?_
    refine g_bipush (v := 31) (kdX3_improve 18 rfl) (by decide) ?_
    refine g_iadd (kdX3_improve 19 rfl) ?_
    refine g_sipush (v := 255) (kdX3_improve 20 rfl) (by decide) ?_
    refine g_calI (ck_S (As := [.inl (x3 + 31), .inl 255]) (S := []) (kdX3_improve 21 rfl) iJ9_min_7cf53 lX3_62 rfl rfl rfl (by decide) (by simp only [List.map, vcat, List.sum_cons, List.sum_nil]; decide)) (CJ9_min_7cf53 (x3 + 31) 255 m4) (fun x7 m6 => ?_)
    refine g_istore (L2 := [(6, .inl x7), (5, .inl x5), (4, .inl x3), (0, .inr (.inr (24, 0))), (1, .inr (.inr (4, n1))), (2, .inr (.inr (12, n2))), (3, .inl a3)]) (kdX3_improve 22 rfl) rfl (by decide) ?_
    refine g_iconst (v := 0) (kdX3_improve 23 rfl) (by decide) ?_
    refine g_istore (L2 := [(7, .inl 0), (6, .inl x7), (5, .inl x5), (4, .inl x3), (0, .inr (.inr (24, 0))), (1, .inr (.inr (4, n1))), (2, .inr (.inr (12, n2))), (3, .inl a3)]) (kdX3_improve 24 rfl) rfl (by decide) ?_
    refine g_fgt [4, 5, 6, 7, 3, 2, 1, 0] rfl (BJX3_improve_47  _ n1 n2 a3 x3 x5 x7 ?_ FU 0 m6)
    · intro m15
      refine g_aload_n 0 (kdX3_improve 60 rfl) rfl ?_
      refine g_iload 2 (kdX3_improve 61 rfl) rfl ?_
      refine g_putI (kdX3_improve 62 rfl) fX3_105 rfl (fun m16 => ?_)
      refine g_aload_n 0 (kdX3_improve 63 rfl) rfl ?_
      refine g_aload_n 0 (kdX3_improve 64 rfl) rfl ?_
      refine g_aload_n 1 (kdX3_improve 65 rfl) rfl ?_
      refine g_calI (ck_V (As := [.inr (.inr (4, n1))]) (S := [.inr (.inr (24, 0))]) (t := 24) (o := 0) (kdX3_improve 66 rfl) iX3_height lX3_82 rc_24 rfl rfl rfl (by decide) (by simp only [List.map, vcat, List.sum_cons, List.sum_nil]; decide)) (CX3_height n1 m16) (fun x18 m17 => ?_)
      refine g_putI (kdX3_improve 67 rfl) fX3_108 rfl (fun m19 => ?_)
      refine g_iload 2 (kdX3_improve 68 rfl) rfl ?_
      refine g_iconst (v := 1) (kdX3_improve 69 rfl) (by decide) ?_
      refine g_iadd (kdX3_improve 70 rfl) ?_
      refine g_lt (fun x20 => ?_)
      refine g_istore (L2 := [(7, .inl x20), (0, .inr (.inr (24, 0))), (1, .inr (.inr (4, n1))), (5, .inl x5), (6, .inl x7)]) (kdX3_improve 71 rfl) rfl (by decide) ?_
      refine g_fgt [1, 2, 4, 0] rfl (BJX3_improve_132  _ n1 x7 ?_ FU x20 m19)
      · intro m29
        exact g_vret rfl (kdX3_improve 109 rfl)
  · exact g_vret rfl (kdX3_improve 5 rfl)
def JX1_placeBehind_70 (v3 : Int32) (v5 : Int32) (v100 : Int32) (m : hM) : hR :=
  some (some (.inl ((v5 * 8) + (((v3 <<< ((1 : Int32) &&& 31)) ||| v100) &&& (m.1 28 0 5)))), m)
set_option maxRecDepth 20000 in
theorem BX1_placeBehind_70 (v3 : Int32) (v5 : Int32) (v100 : Int32) (m : hM) : G mX1_placeBehind 2 70 [(0, .inr (.inr (28, 0))), (3, .inl v3), (5, .inl v5)] [.inl v100] m (JX1_placeBehind_70 v3 v5 v100 m) := by
  unfold JX1_placeBehind_70
  refine g_istore (L2 := [(8, .inl v100), (0, .inr (.inr (28, 0))), (3, .inl v3), (5, .inl v5)]) (kdX1_placeBehind 42 rfl) rfl (by decide) ?_
  refine g_iload 3 (kdX1_placeBehind 43 rfl) rfl ?_
  refine g_bipush (v := 8) (kdX1_placeBehind 44 rfl) (by decide) ?_
  refine g_imul (kdX1_placeBehind 45 rfl) ?_
  refine g_iload_n 2 (kdX1_placeBehind 46 rfl) rfl ?_
  refine g_iconst (v := 1) (kdX1_placeBehind 47 rfl) (by decide) ?_
  refine g_ishl (kdX1_placeBehind 48 rfl) ?_
  refine g_iload 0 (kdX1_placeBehind 49 rfl) rfl ?_
  refine g_ior (kdX1_placeBehind 50 rfl) ?_
  refine g_aload_n 1 (kdX1_placeBehind 51 rfl) rfl ?_
  refine g_get (v := .inl (m.1 28 0 5)) (kdX1_placeBehind 52 rfl) fX1_33 rfl ?_
  refine g_iand (kdX1_placeBehind 53 rfl) ?_
  refine g_iadd (kdX1_placeBehind 54 rfl) ?_
  exact g_iret rfl (kdX1_placeBehind 55 rfl)
def JX1_placeBehind_52 (w1 : Nat) (v3 : Int32) (v5 : Int32) (v100 : Int32) (m : hM) : hR :=
  calI (JX11_truthOf w1 v5 m) fun x8 m7 =>
  if v100 = x8 then (JX1_placeBehind_70 v3 v5 0 m7) else (JX1_placeBehind_70 v3 v5 1 m7)
set_option maxRecDepth 20000 in
theorem BX1_placeBehind_52 (w1 : Nat) (v3 : Int32) (v5 : Int32) (v100 : Int32) (m : hM) : G mX1_placeBehind 2 52 [(0, .inr (.inr (28, 0))), (1, .inr (.inr (4, w1))), (3, .inl v3), (5, .inl v5)] [.inl v100] m (JX1_placeBehind_52 w1 v3 v5 v100 m) := by
  unfold JX1_placeBehind_52
  refine g_istore (L2 := [(7, .inl v100), (0, .inr (.inr (28, 0))), (1, .inr (.inr (4, w1))), (3, .inl v3), (5, .inl v5)]) (kdX1_placeBehind 33 rfl) rfl (by decide) ?_
  refine g_iload 0 (kdX1_placeBehind 34 rfl) rfl ?_
  refine g_aload_n 2 (kdX1_placeBehind 35 rfl) rfl ?_
  refine g_iload 4 (kdX1_placeBehind 36 rfl) rfl ?_
  refine g_calI (ck_S (As := [.inr (.inr (4, w1)), .inl v5]) (S := [.inl v100]) (kdX1_placeBehind 37 rfl) iX11_truthOf lX1_72 rfl rfl rfl (by decide) (by simp only [List.map, vcat, List.sum_cons, List.sum_nil]; decide)) (CX11_truthOf w1 v5 m) (fun x8 m7 => ?_)
  refine g_icmp_ne (tgt := 69) (kdX1_placeBehind 38 rfl) (by decide) (fun _ => ?_) (fun _ => ?_)
  · refine g_iconst (v := 1) (kdX1_placeBehind 41 rfl) (by decide) ?_
    exact g_fgt [1, 3, 4] rfl (BX1_placeBehind_70 v3 v5 1 m7)
  · refine g_iconst (v := 0) (kdX1_placeBehind 39 rfl) (by decide) ?_
    refine g_goto (tgt := 70) (kdX1_placeBehind 40 rfl) (by decide) ?_
    exact g_fgt [1, 3, 4] rfl (BX1_placeBehind_70 v3 v5 0 m7)
def JX1_placeBehind (n1 : Nat) (a2 : Int32) (a3 : Int32) (a4 : Int32) (m : hM) : hR :=
  lt (((a2 <<< ((1 : Int32) &&& 31)) ||| a4) &&& 63) fun x1 =>
  calI (JX4_delay n1 m) fun x3 m2 =>
  lt (((x1 >>> ((x3 + 1) &&& 31)) ^^^ a3) &&& (m2.1 28 0 5)) fun x4 =>
  ald m2 29 0 x1 fun x5 =>
  ald m2 30 0 x4 fun x6 =>
  if (x5 - x6) < 0 then (JX1_placeBehind_52 n1 a3 x1 (-1) m2) else (JX1_placeBehind_52 n1 a3 x1 1 m2)
set_option maxRecDepth 20000 in
theorem CX1_placeBehind (n1 : Nat) (a2 : Int32) (a3 : Int32) (a4 : Int32) (m : hM) : Cn mX1_placeBehind 2 [.inr (.inr (28, 0)), .inr (.inr (4, n1)), .inl a2, .inl a3, .inl a4] m (JX1_placeBehind n1 a2 a3 a4 m) := by
  refine cn_of (by decide +kernel) (by simp only [List.map, vcat, List.sum_cons, List.sum_nil]; decide) ?_
  unfold JX1_placeBehind
  show G mX1_placeBehind 2 0 [(0, .inr (.inr (28, 0))), (1, .inr (.inr (4, n1))), (2, .inl a2), (3, .inl a3), (4, .inl a4)] [] m _
  refine g_iload_n 2 (kdX1_placeBehind 0 rfl) rfl ?_
  refine g_iconst (v := 1) (kdX1_placeBehind 1 rfl) (by decide) ?_
  refine g_ishl (kdX1_placeBehind 2 rfl) ?_
  refine g_iload 4 (kdX1_placeBehind 3 rfl) rfl ?_
  refine g_ior (kdX1_placeBehind 4 rfl) ?_
  refine g_bipush (v := 63) (kdX1_placeBehind 5 rfl) (by decide) ?_
  refine g_iand (kdX1_placeBehind 6 rfl) ?_
  refine g_lt (fun x1 => ?_)
  refine g_istore (L2 := [(5, .inl x1), (0, .inr (.inr (28, 0))), (1, .inr (.inr (4, n1))), (2, .inl a2), (3, .inl a3), (4, .inl a4)]) (kdX1_placeBehind 7 rfl) rfl (by decide) ?_
  refine g_iload 0 (kdX1_placeBehind 8 rfl) rfl ?_
  refine g_aload_n 2 (kdX1_placeBehind 9 rfl) rfl ?_
  refine g_calI (ck_V (As := []) (S := [.inl x1]) (t := 4) (o := n1) (kdX1_placeBehind 10 rfl) iX4_delay lX1_69 rc_4 rfl rfl rfl (by decide) (by simp only [List.map, vcat, List.sum_cons, List.sum_nil]; decide)) (CX4_delay n1 m) (fun x3 m2 => ?_)
  refine g_iconst (v := 1) (kdX1_placeBehind 11 rfl) (by decide) ?_
  refine g_iadd (kdX1_placeBehind 12 rfl) ?_
  refine g_ishr (kdX1_placeBehind 13 rfl) ?_
  refine g_iload_n 4 (kdX1_placeBehind 14 rfl) rfl ?_
  refine g_ixor (kdX1_placeBehind 15 rfl) ?_
  refine g_aload_n 1 (kdX1_placeBehind 16 rfl) rfl ?_
  refine g_get (v := .inl (m2.1 28 0 5)) (kdX1_placeBehind 17 rfl) fX1_33 rfl ?_
  refine g_iand (kdX1_placeBehind 18 rfl) ?_
  refine g_lt (fun x4 => ?_)
  refine g_istore (L2 := [(6, .inl x4), (5, .inl x1), (0, .inr (.inr (28, 0))), (1, .inr (.inr (4, n1))), (2, .inl a2), (3, .inl a3), (4, .inl a4)]) (kdX1_placeBehind 19 rfl) rfl (by decide) ?_
  refine g_aload_n 2 (kdX1_placeBehind 20 rfl) rfl ?_
  refine g_get (v := .inr (.inr (29, 0))) (kdX1_placeBehind 21 rfl) fX1_11 rfl ?_
  refine g_iload 1 (kdX1_placeBehind 22 rfl) rfl ?_
  refine g_iald (kdX1_placeBehind 23 rfl) (fun x5 => ?_)
  refine g_aload_n 2 (kdX1_placeBehind 24 rfl) rfl ?_
  refine g_get (v := .inr (.inr (30, 0))) (kdX1_placeBehind 25 rfl) fX1_15 rfl ?_
  refine g_iload 0 (kdX1_placeBehind 26 rfl) rfl ?_
  refine g_iald (kdX1_placeBehind 27 rfl) (fun x6 => ?_)
  refine g_isub (kdX1_placeBehind 28 rfl) ?_
  refine g_if_lt (tgt := 51) (kdX1_placeBehind 29 rfl) (by decide) (fun _ => ?_) (fun _ => ?_)
  · refine g_iconst (v := (-1)) (kdX1_placeBehind 32 rfl) (by decide) ?_
    exact g_fgt [2, 3, 5, 1] rfl (BX1_placeBehind_52 n1 a3 x1 (-1) m2)
  · refine g_iconst (v := 1) (kdX1_placeBehind 30 rfl) (by decide) ?_
    refine g_goto (tgt := 52) (kdX1_placeBehind 31 rfl) (by decide) ?_
    exact g_fgt [2, 3, 5, 1] rfl (BX1_placeBehind_52 n1 a3 x1 1 m2)
def JX1_isKnown (a1 : Int32) (m : hM) : hR :=
  calI (JX11_within a1 0 511 m) fun x2 m1 =>
  if x2 = 0 then (jretZ 0 m1) else (ald m1 32 0 a1 fun x3 =>
  if x3 = (-1) then (jretZ 0 m1) else (jretZ 1 m1))
set_option maxRecDepth 20000 in
theorem CX1_isKnown (a1 : Int32) (m : hM) : Cn mX1_isKnown 1 [.inr (.inr (28, 0)), .inl a1] m (JX1_isKnown a1 m) := by
  refine cn_of (by decide +kernel) (by simp only [List.map, vcat, List.sum_cons, List.sum_nil]; decide) ?_
  unfold JX1_isKnown
  show G mX1_isKnown 1 0 [(0, .inr (.inr (28, 0))), (1, .inl a1)] [] m _
  refine g_iload_n 1 (kdX1_isKnown 0 rfl) rfl ?_
  refine g_iconst (v := 0) (kdX1_isKnown 1 rfl) (by decide) ?_
  refine g_sipush (v := 511) (kdX1_isKnown 2 rfl) (by decide) ?_
  refine g_calI (ck_S (As := [.inl a1, .inl 0, .inl 511]) (S := []) (kdX1_isKnown 3 rfl) iX11_within lX1_85 rfl rfl rfl (by decide) (by simp only [List.map, vcat, List.sum_cons, List.sum_nil]; decide)) (CX11_within a1 0 511 m) (fun x2 m1 => ?_)
  refine g_if_eq (tgt := 25) (kdX1_isKnown 4 rfl) (by decide) (fun _ => ?_) (fun _ => ?_)
  · refine g_iconst (v := 0) (kdX1_isKnown 13 rfl) (by decide) ?_
    exact g_zret rfl (kdX1_isKnown 14 rfl)
  · refine g_aload_n 0 (kdX1_isKnown 5 rfl) rfl ?_
    refine g_get (v := .inr (.inr (32, 0))) (kdX1_isKnown 6 rfl) fX1_21 rfl ?_
    refine g_iload_n 1 (kdX1_isKnown 7 rfl) rfl ?_
    refine g_iald (kdX1_isKnown 8 rfl) (fun x3 => ?_)
    refine g_iconst (v := (-1)) (kdX1_isKnown 9 rfl) (by decide) ?_
    refine g_icmp_eq (tgt := 25) (kdX1_isKnown 10 rfl) (by decide) (fun _ => ?_) (fun _ => ?_)
    · refine g_iconst (v := 0) (kdX1_isKnown 13 rfl) (by decide) ?_
      exact g_zret rfl (kdX1_isKnown 14 rfl)
    · refine g_iconst (v := 1) (kdX1_isKnown 11 rfl) (by decide) ?_
      refine g_goto (tgt := 26) (kdX1_isKnown 12 rfl) (by decide) ?_
      exact g_zret rfl (kdX1_isKnown 14 rfl)
def JX1_spreadBack_127 (K4 : Int32 → Int32 → hM → hR) (K133 : Int32 → hM → hR) (v1 : Int32) (v2 : Int32) (m : hM) : hR :=
  K4 v1 (v2 + 1) m
set_option maxRecDepth 20000 in
theorem BX1_spreadBack_127 (K4 : Int32 → Int32 → hM → hR) (K133 : Int32 → hM → hR) (h4 : ∀ (v1 : Int32) (v2 : Int32) (m : hM), G mX1_spreadBack 2 4 [(0, .inr (.inr (28, 0))), (1, .inl v1), (2, .inl v2)] [] m (K4 v1 v2 m)) (h133 : ∀ (v1 : Int32) (m : hM), G mX1_spreadBack 2 133 [(1, .inl v1)] [] m (K133 v1 m)) (v1 : Int32) (v2 : Int32) (m : hM) : G mX1_spreadBack 2 127 [(0, .inr (.inr (28, 0))), (1, .inl v1), (2, .inl v2)] [] m (JX1_spreadBack_127 K4 K133 v1 v2 m) := by
  unfold JX1_spreadBack_127
  refine g_iinc (v := v2 + 1) (L2 := [(2, .inl (v2 + 1)), (0, .inr (.inr (28, 0))), (1, .inl v1)]) 2 (kdX1_spreadBack 81 rfl) rfl rfl rfl (by decide) ?_
  refine g_goto (tgt := 4) (kdX1_spreadBack 82 rfl) (by decide) ?_
  exact g_fgt [1, 2, 0] rfl (h4 v1 (v2 + 1) m)
def bJX1_spreadBack_4 (K4 : Int32 → Int32 → hM → hR) (K133 : Int32 → hM → hR) (v1 : Int32) (v2 : Int32) (m : hM) : hR :=
  if 512 ≤ v2 then (K133 v1 m) else (if (m.1 28 0 5) < (v2 &&& 7) then (JX1_spreadBack_127 K4 K133 v1 v2 m) else (ald m 32 0 v2 fun x1 =>
  if x1 = (-1) then (ald m 31 0 (v2 * 2) fun x2 =>
  ald m 31 0 ((v2 * 2) + 1) fun x3 =>
  calI (JX1_isKnown x2 m) fun x5 m4 =>
  if x5 = 0 then (JX1_spreadBack_127 K4 K133 v1 v2 m4) else (calI (JX1_isKnown x3 m4) fun x7 m6 =>
  if x7 = 0 then (JX1_spreadBack_127 K4 K133 v1 v2 m6) else (ald m6 32 0 x2 fun x8 =>
  ald m6 32 0 x3 fun x9 =>
  calI (JJ9_max_7cf53 x8 x9 m6) fun x11 m10 =>
  ast m10 32 0 v2 (1 + x11) fun m12 =>
  ald m12 33 0 x2 fun x13 =>
  ald m12 33 0 x3 fun x14 =>
  calI (JJ9_max_7cf53 (x13 + (x2 &&& 1)) (x14 + (x3 &&& 1)) m12) fun x16 m15 =>
  ast m15 33 0 v2 x16 fun m17 =>
  JX1_spreadBack_127 K4 K133 1 v2 m17))) else (JX1_spreadBack_127 K4 K133 v1 v2 m)))
set_option maxRecDepth 20000 in
theorem BbJX1_spreadBack_4 (K4 : Int32 → Int32 → hM → hR) (K133 : Int32 → hM → hR) (h4 : ∀ (v1 : Int32) (v2 : Int32) (m : hM), G mX1_spreadBack 2 4 [(0, .inr (.inr (28, 0))), (1, .inl v1), (2, .inl v2)] [] m (K4 v1 v2 m)) (h133 : ∀ (v1 : Int32) (m : hM), G mX1_spreadBack 2 133 [(1, .inl v1)] [] m (K133 v1 m)) (v1 : Int32) (v2 : Int32) (m : hM) : G mX1_spreadBack 2 4 [(0, .inr (.inr (28, 0))), (1, .inl v1), (2, .inl v2)] [] m (bJX1_spreadBack_4 K4 K133 v1 v2 m) := by
  unfold bJX1_spreadBack_4
  refine g_iload_n 2 (kdX1_spreadBack 4 rfl) rfl ?_
  refine g_sipush (v := 512) (kdX1_spreadBack 5 rfl) (by decide) ?_
  refine g_icmp_ge (tgt := 133) (kdX1_spreadBack 6 rfl) (by decide) (fun _ => ?_) (fun _ => ?_)
  · exact g_fgt [1] rfl (h133 v1 m)
  · refine g_iload_n 2 (kdX1_spreadBack 7 rfl) rfl ?_
    refine g_bipush (v := 7) (kdX1_spreadBack 8 rfl) (by decide) ?_
    refine g_iand (kdX1_spreadBack 9 rfl) ?_
    refine g_aload_n 0 (kdX1_spreadBack 10 rfl) rfl ?_
    refine g_get (v := .inl (m.1 28 0 5)) (kdX1_spreadBack 11 rfl) fX1_33 rfl ?_
    refine g_icmp_gt (tgt := 127) (kdX1_spreadBack 12 rfl) (by decide) (fun _ => ?_) (fun _ => ?_)
    · exact g_fgt [0, 1, 2] rfl (BX1_spreadBack_127 _ _ h4 h133 v1 v2 m)
    · refine g_aload_n 0 (kdX1_spreadBack 13 rfl) rfl ?_
      refine g_get (v := .inr (.inr (32, 0))) (kdX1_spreadBack 14 rfl) fX1_21 rfl ?_
      refine g_iload_n 2 (kdX1_spreadBack 15 rfl) rfl ?_
      refine g_iald (kdX1_spreadBack 16 rfl) (fun x1 => ?_)
      refine g_iconst (v := (-1)) (kdX1_spreadBack 17 rfl) (by decide) ?_
      refine g_icmp_ne (tgt := 127) (kdX1_spreadBack 18 rfl) (by decide) (fun _ => ?_) (fun _ => ?_)
      · exact g_fgt [0, 1, 2] rfl (BX1_spreadBack_127 _ _ h4 h133 v1 v2 m)
      · refine g_aload_n 0 (kdX1_spreadBack 19 rfl) rfl ?_
        refine g_get (v := .inr (.inr (31, 0))) (kdX1_spreadBack 20 rfl) fX1_18 rfl ?_
        refine g_iload_n 2 (kdX1_spreadBack 21 rfl) rfl ?_
        refine g_iconst (v := 2) (kdX1_spreadBack 22 rfl) (by decide) ?_
        refine g_imul (kdX1_spreadBack 23 rfl) ?_
        refine g_iald (kdX1_spreadBack 24 rfl) (fun x2 => ?_)
        refine g_istore_n (L2 := [(3, .inl x2), (0, .inr (.inr (28, 0))), (1, .inl v1), (2, .inl v2)]) (kdX1_spreadBack 25 rfl) rfl (by decide) ?_
        refine g_aload_n 1 (kdX1_spreadBack 26 rfl) rfl ?_
        refine g_get (v := .inr (.inr (31, 0))) (kdX1_spreadBack 27 rfl) fX1_18 rfl ?_
        refine g_iload_n 3 (kdX1_spreadBack 28 rfl) rfl ?_
        refine g_iconst (v := 2) (kdX1_spreadBack 29 rfl) (by decide) ?_
        refine g_imul (kdX1_spreadBack 30 rfl) ?_
        refine g_iconst (v := 1) (kdX1_spreadBack 31 rfl) (by decide) ?_
        refine g_iadd (kdX1_spreadBack 32 rfl) ?_
        refine g_iald (kdX1_spreadBack 33 rfl) (fun x3 => ?_)
        refine g_istore (L2 := [(4, .inl x3), (3, .inl x2), (0, .inr (.inr (28, 0))), (1, .inl v1), (2, .inl v2)]) (kdX1_spreadBack 34 rfl) rfl (by decide) ?_
        refine g_aload_n 2 (kdX1_spreadBack 35 rfl) rfl ?_
        refine g_iload_n 1 (kdX1_spreadBack 36 rfl) rfl ?_
        refine g_calI (ck_V (As := [.inl x2]) (S := []) (t := 28) (o := 0) (kdX1_spreadBack 37 rfl) iX1_isKnown lX1_76 rc_28 rfl rfl rfl (by decide) (by simp only [List.map, vcat, List.sum_cons, List.sum_nil]; decide)) (CX1_isKnown x2 m) (fun x5 m4 => ?_)
        refine g_if_eq (tgt := 127) (kdX1_spreadBack 38 rfl) (by decide) (fun _ => ?_) (fun _ => ?_)
        · exact g_fgt [2, 3, 4] rfl (BX1_spreadBack_127 _ _ h4 h133 v1 v2 m4)
        · refine g_aload_n 2 (kdX1_spreadBack 39 rfl) rfl ?_
          refine g_iload 0 (kdX1_spreadBack 40 rfl) rfl ?_
          refine g_calI (ck_V (As := [.inl x3]) (S := []) (t := 28) (o := 0) (kdX1_spreadBack 41 rfl) iX1_isKnown lX1_76 rc_28 rfl rfl rfl (by decide) (by simp only [List.map, vcat, List.sum_cons, List.sum_nil]; decide)) (CX1_isKnown x3 m4) (fun x7 m6 => ?_)
          refine g_if_eq (tgt := 127) (kdX1_spreadBack 42 rfl) (by decide) (fun _ => ?_) (fun _ => ?_)
          · exact g_fgt [2, 3, 4] rfl (BX1_spreadBack_127 _ _ h4 h133 v1 v2 m6)
          · refine g_aload_n 2 (kdX1_spreadBack 43 rfl) rfl ?_
            refine g_get (v := .inr (.inr (32, 0))) (kdX1_spreadBack 44 rfl) fX1_21 rfl ?_
            refine g_iload_n 4 (kdX1_spreadBack 45 rfl) rfl ?_
            refine g_iconst (v := 1) (kdX1_spreadBack 46 rfl) (by decide) ?_
            refine g_aload_n 2 (kdX1_spreadBack 47 rfl) rfl ?_
            refine g_get (v := .inr (.inr (32, 0))) (kdX1_spreadBack 48 rfl) fX1_21 rfl ?_
            refine g_iload_n 1 (kdX1_spreadBack 49 rfl) rfl ?_
            refine g_iald (kdX1_spreadBack 50 rfl) (fun x8 => ?_)
            refine g_aload_n 2 (kdX1_spreadBack 51 rfl) rfl ?_
            refine g_get (v := .inr (.inr (32, 0))) (kdX1_spreadBack 52 rfl) fX1_21 rfl ?_
            refine g_iload 0 (kdX1_spreadBack 53 rfl) rfl ?_
            refine g_iald (kdX1_spreadBack 54 rfl) (fun x9 => ?_)
            refine g_calI (ck_S (As := [.inl x8, .inl x9]) (S := [.inl 1, .inl v2, .inr (.inr (32, 0))]) (kdX1_spreadBack 55 rfl) iJ9_max_7cf53 lX1_80 rfl rfl rfl (by decide) (by simp only [List.map, vcat, List.sum_cons, List.sum_nil]; decide)) (CJ9_max_7cf53 x8 x9 m6) (fun x11 m10 => ?_)
            refine g_iadd (kdX1_spreadBack 56 rfl) ?_
            refine g_iast (kdX1_spreadBack 57 rfl) (fun m12 => ?_)
            refine g_aload_n 2 (kdX1_spreadBack 58 rfl) rfl ?_
            refine g_get (v := .inr (.inr (33, 0))) (kdX1_spreadBack 59 rfl) fX1_24 rfl ?_
            refine g_iload_n 4 (kdX1_spreadBack 60 rfl) rfl ?_
            refine g_aload_n 2 (kdX1_spreadBack 61 rfl) rfl ?_
            refine g_get (v := .inr (.inr (33, 0))) (kdX1_spreadBack 62 rfl) fX1_24 rfl ?_
            refine g_iload_n 1 (kdX1_spreadBack 63 rfl) rfl ?_
            refine g_iald (kdX1_spreadBack 64 rfl) (fun x13 => ?_)
            refine g_iload_n 1 (kdX1_spreadBack 65 rfl) rfl ?_
            refine g_iconst (v := 1) (kdX1_spreadBack 66 rfl) (by decide) ?_
            refine g_iand (kdX1_spreadBack 67 rfl) ?_
            refine g_iadd (kdX1_spreadBack 68 rfl) ?_
            refine g_aload_n 2 (kdX1_spreadBack 69 rfl) rfl ?_
            refine g_get (v := .inr (.inr (33, 0))) (kdX1_spreadBack 70 rfl) fX1_24 rfl ?_
            refine g_iload 0 (kdX1_spreadBack 71 rfl) rfl ?_
            refine g_iald (kdX1_spreadBack 72 rfl) (fun x14 => ?_)
            refine g_iload 0 (kdX1_spreadBack 73 rfl) rfl ?_
            refine g_iconst (v := 1) (kdX1_spreadBack 74 rfl) (by decide) ?_
            refine g_iand (kdX1_spreadBack 75 rfl) ?_
            refine g_iadd (kdX1_spreadBack 76 rfl) ?_
            refine g_calI (ck_S (As := [.inl (x13 + (x2 &&& 1)), .inl (x14 + (x3 &&& 1))]) (S := [.inl v2, .inr (.inr (33, 0))]) (kdX1_spreadBack 77 rfl) iJ9_max_7cf53 lX1_80 rfl rfl rfl (by decide) (by simp only [List.map, vcat, List.sum_cons, List.sum_nil]; decide)) (CJ9_max_7cf53 (x13 + (x2 &&& 1)) (x14 + (x3 &&& 1)) m12) (fun x16 m15 => ?_)
            refine g_iast (kdX1_spreadBack 78 rfl) (fun m17 => ?_)
            refine g_iconst (v := 1) (kdX1_spreadBack 79 rfl) (by decide) ?_
            refine g_istore_n (L2 := [(1, .inl 1), (4, .inl x3), (3, .inl x2), (0, .inr (.inr (28, 0))), (2, .inl v2)]) (kdX1_spreadBack 80 rfl) rfl (by decide) ?_
            exact g_fgt [3, 0, 4] rfl (BX1_spreadBack_127 _ _ h4 h133 1 v2 m17)
def JX1_spreadBack_4 (K133 : Int32 → hM → hR) : Nat → Int32 → Int32 → hM → hR
  | 0, _, _, _ => none
  | f + 1, v1, v2, m => bJX1_spreadBack_4 (fun v1 v2 m => JX1_spreadBack_4 K133  f v1 v2 m) K133  v1 v2 m
theorem BJX1_spreadBack_4 (K133 : Int32 → hM → hR) (h133 : ∀ (v1 : Int32) (m : hM), G mX1_spreadBack 2 133 [(1, .inl v1)] [] m (K133 v1 m)) : ∀ (f : Nat) (v1 : Int32) (v2 : Int32) (m : hM), G mX1_spreadBack 2 4 [(0, .inr (.inr (28, 0))), (1, .inl v1), (2, .inl v2)] [] m (JX1_spreadBack_4 K133  f v1 v2 m)
  | 0, _, _, _ => g_none
  | f + 1, v1, v2, m => BbJX1_spreadBack_4  _ K133  (fun v1 v2 m => BJX1_spreadBack_4  K133  h133 f v1 v2 m) h133 v1 v2 m
def JX1_spreadBack  (m : hM) : hR :=
  JX1_spreadBack_4 (fun v1 m18 => jretZ v1 m18)  FU 0 0 m
set_option maxRecDepth 20000 in
theorem CX1_spreadBack  (m : hM) : Cn mX1_spreadBack 2 [.inr (.inr (28, 0))] m (JX1_spreadBack  m) := by
  refine cn_of (by decide +kernel) (by simp only [List.map, vcat, List.sum_cons, List.sum_nil]; decide) ?_
  unfold JX1_spreadBack
  show G mX1_spreadBack 2 0 [(0, .inr (.inr (28, 0)))] [] m _
  refine g_iconst (v := 0) (kdX1_spreadBack 0 rfl) (by decide) ?_
  refine g_istore_n (L2 := [(1, .inl 0), (0, .inr (.inr (28, 0)))]) (kdX1_spreadBack 1 rfl) rfl (by decide) ?_
  refine g_iconst (v := 0) (kdX1_spreadBack 2 rfl) (by decide) ?_
  refine g_istore_n (L2 := [(2, .inl 0), (1, .inl 0), (0, .inr (.inr (28, 0)))]) (kdX1_spreadBack 3 rfl) rfl (by decide) ?_
  refine g_fgt [2, 1, 0] rfl (BJX1_spreadBack_4  _  ?_ FU 0 0 m)
  · intro v1 m18
    refine g_iload_n 0 (kdX1_spreadBack 83 rfl) rfl ?_
    exact g_zret rfl (kdX1_spreadBack 84 rfl)
def bJX1_weighParts_26 (K26 : Int32 → hM → hR) (K75 : hM → hR) (w1 : Nat) (w2 : Nat) (v3 : Int32) (v4 : Int32) (v5 : Int32) (m : hM) : hR :=
  if v3 ≤ v5 then (K75 m) else (if 6 ≤ v5 then (K75 m) else (ald m 29 0 v4 fun x4 =>
  ald m 13 w2 v5 fun x5 =>
  calI (JX3_share w1 v4 (m.1 12 w2 7) v5 m) fun x7 m6 =>
  ast m6 29 0 v4 (x4 + (x5 * x7)) fun m8 =>
  K26 (v5 + 1) m8))
set_option maxRecDepth 20000 in
theorem BbJX1_weighParts_26 (K26 : Int32 → hM → hR) (K75 : hM → hR) (w1 : Nat) (w2 : Nat) (v3 : Int32) (v4 : Int32) (h26 : ∀ (v5 : Int32) (m : hM), G mX1_weighParts 2 26 [(0, .inr (.inr (28, 0))), (1, .inr (.inr (4, w1))), (2, .inr (.inr (12, w2))), (3, .inl v3), (4, .inl v4), (5, .inl v5)] [] m (K26 v5 m)) (h75 : ∀ (m : hM), G mX1_weighParts 2 75 [(0, .inr (.inr (28, 0))), (1, .inr (.inr (4, w1))), (2, .inr (.inr (12, w2))), (3, .inl v3), (4, .inl v4)] [] m (K75 m)) (v5 : Int32) (m : hM) : G mX1_weighParts 2 26 [(0, .inr (.inr (28, 0))), (1, .inr (.inr (4, w1))), (2, .inr (.inr (12, w2))), (3, .inl v3), (4, .inl v4), (5, .inl v5)] [] m (bJX1_weighParts_26 K26 K75 w1 w2 v3 v4 v5 m) := by
  unfold bJX1_weighParts_26
  refine g_iload 5 (kdX1_weighParts 15 rfl) rfl ?_
  refine g_iload_n 3 (kdX1_weighParts 16 rfl) rfl ?_
  refine g_icmp_ge (tgt := 75) (kdX1_weighParts 17 rfl) (by decide) (fun _ => ?_) (fun _ => ?_)
  · exact g_fgt [0, 1, 2, 3, 4] rfl (h75 m)
  · refine g_iload 5 (kdX1_weighParts 18 rfl) rfl ?_
    refine g_bipush (v := 6) (kdX1_weighParts 19 rfl) (by decide) ?_
    refine g_icmp_ge (tgt := 75) (kdX1_weighParts 20 rfl) (by decide) (fun _ => ?_) (fun _ => ?_)
    · exact g_fgt [0, 1, 2, 3, 4] rfl (h75 m)
    · refine g_aload_n 0 (kdX1_weighParts 21 rfl) rfl ?_
      refine g_get (v := .inr (.inr (29, 0))) (kdX1_weighParts 22 rfl) fX1_11 rfl ?_
      refine g_iload 4 (kdX1_weighParts 23 rfl) rfl ?_
      refine g_dup2 (kdX1_weighParts 24 rfl) rfl rfl ?_
      refine g_iald (kdX1_weighParts 25 rfl) (fun x4 => ?_)
      refine g_aload_n 2 (kdX1_weighParts 26 rfl) rfl ?_
      refine g_get (v := .inr (.inr (13, w2))) (kdX1_weighParts 27 rfl) fX1_52 rfl ?_
      refine g_iload 5 (kdX1_weighParts 28 rfl) rfl ?_
      refine g_iald (kdX1_weighParts 29 rfl) (fun x5 => ?_)
      refine g_aload_n 1 (kdX1_weighParts 30 rfl) rfl ?_
      refine g_iload 4 (kdX1_weighParts 31 rfl) rfl ?_
      refine g_aload_n 2 (kdX1_weighParts 32 rfl) rfl ?_
      refine g_get (v := .inl (m.1 12 w2 7)) (kdX1_weighParts 33 rfl) fX1_57 rfl ?_
      refine g_iload 5 (kdX1_weighParts 34 rfl) rfl ?_
      refine g_calI (ck_S (As := [.inr (.inr (4, w1)), .inl v4, .inl (m.1 12 w2 7), .inl v5]) (S := [.inl x5, .inl x4, .inl v4, .inr (.inr (29, 0))]) (kdX1_weighParts 35 rfl) iX3_share lX1_60 rfl rfl rfl (by decide) (by simp only [List.map, vcat, List.sum_cons, List.sum_nil]; decide)) (CX3_share w1 v4 (m.1 12 w2 7) v5 m) (fun x7 m6 => ?_)
      refine g_imul (kdX1_weighParts 36 rfl) ?_
      refine g_iadd (kdX1_weighParts 37 rfl) ?_
      refine g_iast (kdX1_weighParts 38 rfl) (fun m8 => ?_)
      refine g_iinc (v := v5 + 1) (L2 := [(5, .inl (v5 + 1)), (0, .inr (.inr (28, 0))), (1, .inr (.inr (4, w1))), (2, .inr (.inr (12, w2))), (3, .inl v3), (4, .inl v4)]) 5 (kdX1_weighParts 39 rfl) rfl rfl rfl (by decide) ?_
      refine g_goto (tgt := 26) (kdX1_weighParts 40 rfl) (by decide) ?_
      exact g_fgt [1, 2, 3, 4, 5, 0] rfl (h26 (v5 + 1) m8)
def JX1_weighParts_26 (K75 : hM → hR) (w1 : Nat) (w2 : Nat) (v3 : Int32) (v4 : Int32) : Nat → Int32 → hM → hR
  | 0, _, _ => none
  | f + 1, v5, m => bJX1_weighParts_26 (fun v5 m => JX1_weighParts_26 K75 w1 w2 v3 v4 f v5 m) K75 w1 w2 v3 v4 v5 m
theorem BJX1_weighParts_26 (K75 : hM → hR) (w1 : Nat) (w2 : Nat) (v3 : Int32) (v4 : Int32) (h75 : ∀ (m : hM), G mX1_weighParts 2 75 [(0, .inr (.inr (28, 0))), (1, .inr (.inr (4, w1))), (2, .inr (.inr (12, w2))), (3, .inl v3), (4, .inl v4)] [] m (K75 m)) : ∀ (f : Nat) (v5 : Int32) (m : hM), G mX1_weighParts 2 26 [(0, .inr (.inr (28, 0))), (1, .inr (.inr (4, w1))), (2, .inr (.inr (12, w2))), (3, .inl v3), (4, .inl v4), (5, .inl v5)] [] m (JX1_weighParts_26 K75 w1 w2 v3 v4 f v5 m)
  | 0, _, _ => g_none
  | f + 1, v5, m => BbJX1_weighParts_26  _ K75 w1 w2 v3 v4 (fun v5 m => BJX1_weighParts_26  K75 w1 w2 v3 v4 h75 f v5 m) h75 v5 m
def JX1_weighParts_75 (K8 : Int32 → hM → hR) (K81 : hM → hR) (w1 : Nat) (w2 : Nat) (v3 : Int32) (v4 : Int32) (m : hM) : hR :=
  K8 (v4 + 1) m
set_option maxRecDepth 20000 in
theorem BX1_weighParts_75 (w1 : Nat) (w2 : Nat) (v3 : Int32) (K8 : Int32 → hM → hR) (K81 : hM → hR) (h8 : ∀ (v4 : Int32) (m : hM), G mX1_weighParts 2 8 [(0, .inr (.inr (28, 0))), (1, .inr (.inr (4, w1))), (2, .inr (.inr (12, w2))), (3, .inl v3), (4, .inl v4)] [] m (K8 v4 m)) (h81 : ∀ (m : hM), G mX1_weighParts 2 81 [(0, .inr (.inr (28, 0))), (1, .inr (.inr (4, w1))), (2, .inr (.inr (12, w2))), (3, .inl v3)] [] m (K81 m)) (v4 : Int32) (m : hM) : G mX1_weighParts 2 75 [(0, .inr (.inr (28, 0))), (1, .inr (.inr (4, w1))), (2, .inr (.inr (12, w2))), (3, .inl v3), (4, .inl v4)] [] m (JX1_weighParts_75 K8 K81 w1 w2 v3 v4 m) := by
  unfold JX1_weighParts_75
  refine g_iinc (v := v4 + 1) (L2 := [(4, .inl (v4 + 1)), (0, .inr (.inr (28, 0))), (1, .inr (.inr (4, w1))), (2, .inr (.inr (12, w2))), (3, .inl v3)]) 4 (kdX1_weighParts 41 rfl) rfl rfl rfl (by decide) ?_
  refine g_goto (tgt := 8) (kdX1_weighParts 42 rfl) (by decide) ?_
  exact g_fgt [1, 2, 3, 4, 0] rfl (h8 (v4 + 1) m)
def bJX1_weighParts_8 (K8 : Int32 → hM → hR) (K81 : hM → hR) (w1 : Nat) (w2 : Nat) (v3 : Int32) (v4 : Int32) (m : hM) : hR :=
  if 64 ≤ v4 then (K81 m) else (ast m 29 0 v4 0 fun m3 =>
  JX1_weighParts_26 (fun m9 => JX1_weighParts_75 K8 K81 w1 w2 v3 v4 m9) w1 w2 v3 v4 FU 0 m3)
set_option maxRecDepth 20000 in
theorem BbJX1_weighParts_8 (K8 : Int32 → hM → hR) (K81 : hM → hR) (w1 : Nat) (w2 : Nat) (v3 : Int32) (h8 : ∀ (v4 : Int32) (m : hM), G mX1_weighParts 2 8 [(0, .inr (.inr (28, 0))), (1, .inr (.inr (4, w1))), (2, .inr (.inr (12, w2))), (3, .inl v3), (4, .inl v4)] [] m (K8 v4 m)) (h81 : ∀ (m : hM), G mX1_weighParts 2 81 [(0, .inr (.inr (28, 0))), (1, .inr (.inr (4, w1))), (2, .inr (.inr (12, w2))), (3, .inl v3)] [] m (K81 m)) (v4 : Int32) (m : hM) : G mX1_weighParts 2 8 [(0, .inr (.inr (28, 0))), (1, .inr (.inr (4, w1))), (2, .inr (.inr (12, w2))), (3, .inl v3), (4, .inl v4)] [] m (bJX1_weighParts_8 K8 K81 w1 w2 v3 v4 m) := by
  unfold bJX1_weighParts_8
  refine g_iload 4 (kdX1_weighParts 5 rfl) rfl ?_
  refine g_bipush (v := 64) (kdX1_weighParts 6 rfl) (by decide) ?_
  refine g_icmp_ge (tgt := 81) (kdX1_weighParts 7 rfl) (by decide) (fun _ => ?_) (fun _ => ?_)
  · exact g_fgt [0, 1, 2, 3] rfl (h81 m)
  · refine g_aload_n 0 (kdX1_weighParts 8 rfl) rfl ?_
    refine g_get (v := .inr (.inr (29, 0))) (kdX1_weighParts 9 rfl) fX1_11 rfl ?_
    refine g_iload 4 (kdX1_weighParts 10 rfl) rfl ?_
    refine g_iconst (v := 0) (kdX1_weighParts 11 rfl) (by decide) ?_
    refine g_iast (kdX1_weighParts 12 rfl) (fun m3 => ?_)
    refine g_iconst (v := 0) (kdX1_weighParts 13 rfl) (by decide) ?_
    refine g_istore (L2 := [(5, .inl 0), (0, .inr (.inr (28, 0))), (1, .inr (.inr (4, w1))), (2, .inr (.inr (12, w2))), (3, .inl v3), (4, .inl v4)]) (kdX1_weighParts 14 rfl) rfl (by decide) ?_
    refine g_fgt [1, 2, 3, 4, 5, 0] rfl (BJX1_weighParts_26  _ w1 w2 v3 v4 ?_ FU 0 m3)
    · intro m9
      exact g_fgt [0, 1, 2, 3, 4] rfl (BX1_weighParts_75 w1 w2 v3 _ _ h8 h81 v4 m9)
def JX1_weighParts_8 (K81 : hM → hR) (w1 : Nat) (w2 : Nat) (v3 : Int32) : Nat → Int32 → hM → hR
  | 0, _, _ => none
  | f + 1, v4, m => bJX1_weighParts_8 (fun v4 m => JX1_weighParts_8 K81 w1 w2 v3 f v4 m) K81 w1 w2 v3 v4 m
theorem BJX1_weighParts_8 (K81 : hM → hR) (w1 : Nat) (w2 : Nat) (v3 : Int32) (h81 : ∀ (m : hM), G mX1_weighParts 2 81 [(0, .inr (.inr (28, 0))), (1, .inr (.inr (4, w1))), (2, .inr (.inr (12, w2))), (3, .inl v3)] [] m (K81 m)) : ∀ (f : Nat) (v4 : Int32) (m : hM), G mX1_weighParts 2 8 [(0, .inr (.inr (28, 0))), (1, .inr (.inr (4, w1))), (2, .inr (.inr (12, w2))), (3, .inl v3), (4, .inl v4)] [] m (JX1_weighParts_8 K81 w1 w2 v3 f v4 m)
  | 0, _, _ => g_none
  | f + 1, v4, m => BbJX1_weighParts_8  _ K81 w1 w2 v3 (fun v4 m => BJX1_weighParts_8  K81 w1 w2 v3 h81 f v4 m) h81 v4 m
def bJX1_weighParts_102 (K102 : Int32 → hM → hR) (K156 : hM → hR) (w1 : Nat) (w2 : Nat) (v3 : Int32) (v4 : Int32) (v5 : Int32) (m : hM) : hR :=
  calI (JX4_backTaps w1 m) fun x13 m12 =>
  if x13 ≤ v5 then (K156 m12) else (if 6 ≤ (v3 + v5) then (K156 m12) else (ald m12 30 0 v4 fun x14 =>
  ald m12 13 w2 (v3 + v5) fun x15 =>
  calI (JX11_bitSign v4 v5 m12) fun x17 m16 =>
  ast m16 30 0 v4 (x14 + ((64 * x15) * x17)) fun m18 =>
  K102 (v5 + 1) m18))
set_option maxRecDepth 20000 in
theorem BbJX1_weighParts_102 (K102 : Int32 → hM → hR) (K156 : hM → hR) (w1 : Nat) (w2 : Nat) (v3 : Int32) (v4 : Int32) (h102 : ∀ (v5 : Int32) (m : hM), G mX1_weighParts 2 102 [(0, .inr (.inr (28, 0))), (1, .inr (.inr (4, w1))), (2, .inr (.inr (12, w2))), (3, .inl v3), (4, .inl v4), (5, .inl v5)] [] m (K102 v5 m)) (h156 : ∀ (m : hM), G mX1_weighParts 2 156 [(0, .inr (.inr (28, 0))), (1, .inr (.inr (4, w1))), (2, .inr (.inr (12, w2))), (3, .inl v3), (4, .inl v4)] [] m (K156 m)) (v5 : Int32) (m : hM) : G mX1_weighParts 2 102 [(0, .inr (.inr (28, 0))), (1, .inr (.inr (4, w1))), (2, .inr (.inr (12, w2))), (3, .inl v3), (4, .inl v4), (5, .inl v5)] [] m (bJX1_weighParts_102 K102 K156 w1 w2 v3 v4 v5 m) := by
  unfold bJX1_weighParts_102
  refine g_iload 5 (kdX1_weighParts 55 rfl) rfl ?_
  refine g_aload_n 1 (kdX1_weighParts 56 rfl) rfl ?_
  refine g_calI (ck_V (As := []) (S := [.inl v5]) (t := 4) (o := w1) (kdX1_weighParts 57 rfl) iX4_backTaps lX1_27 rc_4 rfl rfl rfl (by decide) (by simp only [List.map, vcat, List.sum_cons, List.sum_nil]; decide)) (CX4_backTaps w1 m) (fun x13 m12 => ?_)
  refine g_icmp_ge (tgt := 156) (kdX1_weighParts 58 rfl) (by decide) (fun _ => ?_) (fun _ => ?_)
  · exact g_fgt [0, 1, 2, 3, 4] rfl (h156 m12)
  · refine g_iload_n 3 (kdX1_weighParts 59 rfl) rfl ?_
    refine g_iload 5 (kdX1_weighParts 60 rfl) rfl ?_
    refine g_iadd (kdX1_weighParts 61 rfl) ?_
    refine g_bipush (v := 6) (kdX1_weighParts 62 rfl) (by decide) ?_
    refine g_icmp_ge (tgt := 156) (kdX1_weighParts 63 rfl) (by decide) (fun _ => ?_) (fun _ => ?_)
    · exact g_fgt [0, 1, 2, 3, 4] rfl (h156 m12)
    · refine g_aload_n 0 (kdX1_weighParts 64 rfl) rfl ?_
      refine g_get (v := .inr (.inr (30, 0))) (kdX1_weighParts 65 rfl) fX1_15 rfl ?_
      refine g_iload 4 (kdX1_weighParts 66 rfl) rfl ?_
      refine g_dup2 (kdX1_weighParts 67 rfl) rfl rfl ?_
      refine g_iald (kdX1_weighParts 68 rfl) (fun x14 => ?_)
      refine g_bipush (v := 64) (kdX1_weighParts 69 rfl) (by decide) ?_
      refine g_aload_n 2 (kdX1_weighParts 70 rfl) rfl ?_
      refine g_get (v := .inr (.inr (13, w2))) (kdX1_weighParts 71 rfl) fX1_52 rfl ?_
      refine g_iload_n 3 (kdX1_weighParts 72 rfl) rfl ?_
      refine g_iload 5 (kdX1_weighParts 73 rfl) rfl ?_
      refine g_iadd (kdX1_weighParts 74 rfl) ?_
      refine g_iald (kdX1_weighParts 75 rfl) (fun x15 => ?_)
      refine g_imul (kdX1_weighParts 76 rfl) ?_
      refine g_iload 4 (kdX1_weighParts 77 rfl) rfl ?_
      refine g_iload 5 (kdX1_weighParts 78 rfl) rfl ?_
      refine g_calI (ck_S (As := [.inl v4, .inl v5]) (S := [.inl (64 * x15), .inl x14, .inl v4, .inr (.inr (30, 0))]) (kdX1_weighParts 79 rfl) iX11_bitSign lX1_65 rfl rfl rfl (by decide) (by simp only [List.map, vcat, List.sum_cons, List.sum_nil]; decide)) (CX11_bitSign v4 v5 m12) (fun x17 m16 => ?_)
      refine g_imul (kdX1_weighParts 80 rfl) ?_
      refine g_iadd (kdX1_weighParts 81 rfl) ?_
      refine g_iast (kdX1_weighParts 82 rfl) (fun m18 => ?_)
      refine g_iinc (v := v5 + 1) (L2 := [(5, .inl (v5 + 1)), (0, .inr (.inr (28, 0))), (1, .inr (.inr (4, w1))), (2, .inr (.inr (12, w2))), (3, .inl v3), (4, .inl v4)]) 5 (kdX1_weighParts 83 rfl) rfl rfl rfl (by decide) ?_
      refine g_goto (tgt := 102) (kdX1_weighParts 84 rfl) (by decide) ?_
      exact g_fgt [1, 2, 3, 4, 5, 0] rfl (h102 (v5 + 1) m18)
def JX1_weighParts_102 (K156 : hM → hR) (w1 : Nat) (w2 : Nat) (v3 : Int32) (v4 : Int32) : Nat → Int32 → hM → hR
  | 0, _, _ => none
  | f + 1, v5, m => bJX1_weighParts_102 (fun v5 m => JX1_weighParts_102 K156 w1 w2 v3 v4 f v5 m) K156 w1 w2 v3 v4 v5 m
theorem BJX1_weighParts_102 (K156 : hM → hR) (w1 : Nat) (w2 : Nat) (v3 : Int32) (v4 : Int32) (h156 : ∀ (m : hM), G mX1_weighParts 2 156 [(0, .inr (.inr (28, 0))), (1, .inr (.inr (4, w1))), (2, .inr (.inr (12, w2))), (3, .inl v3), (4, .inl v4)] [] m (K156 m)) : ∀ (f : Nat) (v5 : Int32) (m : hM), G mX1_weighParts 2 102 [(0, .inr (.inr (28, 0))), (1, .inr (.inr (4, w1))), (2, .inr (.inr (12, w2))), (3, .inl v3), (4, .inl v4), (5, .inl v5)] [] m (JX1_weighParts_102 K156 w1 w2 v3 v4 f v5 m)
  | 0, _, _ => g_none
  | f + 1, v5, m => BbJX1_weighParts_102  _ K156 w1 w2 v3 v4 (fun v5 m => BJX1_weighParts_102  K156 w1 w2 v3 v4 h156 f v5 m) h156 v5 m
def JX1_weighParts_156 (K84 : Int32 → hM → hR) (K162 : hM → hR) (w1 : Nat) (w2 : Nat) (v3 : Int32) (v4 : Int32) (m : hM) : hR :=
  K84 (v4 + 1) m
set_option maxRecDepth 20000 in
theorem BX1_weighParts_156 (w1 : Nat) (w2 : Nat) (v3 : Int32) (K84 : Int32 → hM → hR) (K162 : hM → hR) (h84 : ∀ (v4 : Int32) (m : hM), G mX1_weighParts 2 84 [(0, .inr (.inr (28, 0))), (1, .inr (.inr (4, w1))), (2, .inr (.inr (12, w2))), (3, .inl v3), (4, .inl v4)] [] m (K84 v4 m)) (h162 : ∀ (m : hM), G mX1_weighParts 2 162 [] [] m (K162 m)) (v4 : Int32) (m : hM) : G mX1_weighParts 2 156 [(0, .inr (.inr (28, 0))), (1, .inr (.inr (4, w1))), (2, .inr (.inr (12, w2))), (3, .inl v3), (4, .inl v4)] [] m (JX1_weighParts_156 K84 K162 w1 w2 v3 v4 m) := by
  unfold JX1_weighParts_156
  refine g_iinc (v := v4 + 1) (L2 := [(4, .inl (v4 + 1)), (0, .inr (.inr (28, 0))), (1, .inr (.inr (4, w1))), (2, .inr (.inr (12, w2))), (3, .inl v3)]) 4 (kdX1_weighParts 85 rfl) rfl rfl rfl (by decide) ?_
  refine g_goto (tgt := 84) (kdX1_weighParts 86 rfl) (by decide) ?_
  exact g_fgt [1, 2, 3, 4, 0] rfl (h84 (v4 + 1) m)
def bJX1_weighParts_84 (K84 : Int32 → hM → hR) (K162 : hM → hR) (w1 : Nat) (w2 : Nat) (v3 : Int32) (v4 : Int32) (m : hM) : hR :=
  if 8 ≤ v4 then (K162 m) else (ast m 30 0 v4 0 fun m11 =>
  JX1_weighParts_102 (fun m19 => JX1_weighParts_156 K84 K162 w1 w2 v3 v4 m19) w1 w2 v3 v4 FU 0 m11)
set_option maxRecDepth 20000 in
theorem BbJX1_weighParts_84 (K84 : Int32 → hM → hR) (K162 : hM → hR) (w1 : Nat) (w2 : Nat) (v3 : Int32) (h84 : ∀ (v4 : Int32) (m : hM), G mX1_weighParts 2 84 [(0, .inr (.inr (28, 0))), (1, .inr (.inr (4, w1))), (2, .inr (.inr (12, w2))), (3, .inl v3), (4, .inl v4)] [] m (K84 v4 m)) (h162 : ∀ (m : hM), G mX1_weighParts 2 162 [] [] m (K162 m)) (v4 : Int32) (m : hM) : G mX1_weighParts 2 84 [(0, .inr (.inr (28, 0))), (1, .inr (.inr (4, w1))), (2, .inr (.inr (12, w2))), (3, .inl v3), (4, .inl v4)] [] m (bJX1_weighParts_84 K84 K162 w1 w2 v3 v4 m) := by
  unfold bJX1_weighParts_84
  refine g_iload 4 (kdX1_weighParts 45 rfl) rfl ?_
  refine g_bipush (v := 8) (kdX1_weighParts 46 rfl) (by decide) ?_
  refine g_icmp_ge (tgt := 162) (kdX1_weighParts 47 rfl) (by decide) (fun _ => ?_) (fun _ => ?_)
  · exact g_fgt [] rfl (h162 m)
  · refine g_aload_n 0 (kdX1_weighParts 48 rfl) rfl ?_
    refine g_get (v := .inr (.inr (30, 0))) (kdX1_weighParts 49 rfl) fX1_15 rfl ?_
    refine g_iload 4 (kdX1_weighParts 50 rfl) rfl ?_
    refine g_iconst (v := 0) (kdX1_weighParts 51 rfl) (by decide) ?_
    refine g_iast (kdX1_weighParts 52 rfl) (fun m11 => ?_)
    refine g_iconst (v := 0) (kdX1_weighParts 53 rfl) (by decide) ?_
    refine g_istore (L2 := [(5, .inl 0), (0, .inr (.inr (28, 0))), (1, .inr (.inr (4, w1))), (2, .inr (.inr (12, w2))), (3, .inl v3), (4, .inl v4)]) (kdX1_weighParts 54 rfl) rfl (by decide) ?_
    refine g_fgt [1, 2, 3, 4, 5, 0] rfl (BJX1_weighParts_102  _ w1 w2 v3 v4 ?_ FU 0 m11)
    · intro m19
      exact g_fgt [0, 1, 2, 3, 4] rfl (BX1_weighParts_156 w1 w2 v3 _ _ h84 h162 v4 m19)
def JX1_weighParts_84 (K162 : hM → hR) (w1 : Nat) (w2 : Nat) (v3 : Int32) : Nat → Int32 → hM → hR
  | 0, _, _ => none
  | f + 1, v4, m => bJX1_weighParts_84 (fun v4 m => JX1_weighParts_84 K162 w1 w2 v3 f v4 m) K162 w1 w2 v3 v4 m
theorem BJX1_weighParts_84 (K162 : hM → hR) (w1 : Nat) (w2 : Nat) (v3 : Int32) (h162 : ∀ (m : hM), G mX1_weighParts 2 162 [] [] m (K162 m)) : ∀ (f : Nat) (v4 : Int32) (m : hM), G mX1_weighParts 2 84 [(0, .inr (.inr (28, 0))), (1, .inr (.inr (4, w1))), (2, .inr (.inr (12, w2))), (3, .inl v3), (4, .inl v4)] [] m (JX1_weighParts_84 K162 w1 w2 v3 f v4 m)
  | 0, _, _ => g_none
  | f + 1, v4, m => BbJX1_weighParts_84  _ K162 w1 w2 v3 (fun v4 m => BJX1_weighParts_84  K162 w1 w2 v3 h162 f v4 m) h162 v4 m
def JX1_weighParts (n1 : Nat) (n2 : Nat) (m : hM) : hR :=
  calI (JX4_foreTaps n1 m) fun x2 m1 =>
  JX1_weighParts_8 (fun m10 => JX1_weighParts_84 (fun m20 => some (none, m20)) n1 n2 x2 FU 0 m10) n1 n2 x2 FU 0 m1
set_option maxRecDepth 20000 in
theorem CX1_weighParts (n1 : Nat) (n2 : Nat) (m : hM) : Cn mX1_weighParts 2 [.inr (.inr (28, 0)), .inr (.inr (4, n1)), .inr (.inr (12, n2))] m (JX1_weighParts n1 n2 m) := by
  refine cn_of (by decide +kernel) (by simp only [List.map, vcat, List.sum_cons, List.sum_nil]; decide) ?_
  unfold JX1_weighParts
  show G mX1_weighParts 2 0 [(0, .inr (.inr (28, 0))), (1, .inr (.inr (4, n1))), (2, .inr (.inr (12, n2)))] [] m _
  refine g_aload_n 1 (kdX1_weighParts 0 rfl) rfl ?_
  refine g_calI (ck_V (As := []) (S := []) (t := 4) (o := n1) (kdX1_weighParts 1 rfl) iX4_foreTaps lX1_49 rc_4 rfl rfl rfl (by decide) (by simp only [List.map, vcat, List.sum_cons, List.sum_nil]; decide)) (CX4_foreTaps n1 m) (fun x2 m1 => ?_)
  refine g_istore_n (L2 := [(3, .inl x2), (0, .inr (.inr (28, 0))), (1, .inr (.inr (4, n1))), (2, .inr (.inr (12, n2)))]) (kdX1_weighParts 2 rfl) rfl (by decide) ?_
  refine g_iconst (v := 0) (kdX1_weighParts 3 rfl) (by decide) ?_
  refine g_istore (L2 := [(4, .inl 0), (3, .inl x2), (0, .inr (.inr (28, 0))), (1, .inr (.inr (4, n1))), (2, .inr (.inr (12, n2)))]) (kdX1_weighParts 4 rfl) rfl (by decide) ?_
  refine g_fgt [2, 3, 4, 1, 0] rfl (BJX1_weighParts_8  _ n1 n2 x2 ?_ FU 0 m1)
  · intro m10
    refine g_iconst (v := 0) (kdX1_weighParts 43 rfl) (by decide) ?_
    refine g_istore (L2 := [(4, .inl 0), (0, .inr (.inr (28, 0))), (1, .inr (.inr (4, n1))), (2, .inr (.inr (12, n2))), (3, .inl x2)]) (kdX1_weighParts 44 rfl) rfl (by decide) ?_
    refine g_fgt [1, 2, 3, 4, 0] rfl (BJX1_weighParts_84  _ n1 n2 x2 ?_ FU 0 m10)
    · intro m20
      exact g_vret rfl (kdX1_weighParts 87 rfl)
def JX1_explore_104 (K32 : Int32 → hM → hR) (K119 : hM → hR) (w1 : Nat) (v3 : Int32) (v4 : Int32) (v5 : Int32) (v100 : Int32) (v101 : Int32) (m : hM) : hR :=
  ast m 32 0 v101 v100 fun m12 =>
  ast m12 33 0 v5 0 fun m13 =>
  K32 (v4 + 1) m13
set_option maxRecDepth 20000 in
theorem BX1_explore_104 (w1 : Nat) (v3 : Int32) (K32 : Int32 → hM → hR) (K119 : hM → hR) (h32 : ∀ (v4 : Int32) (m : hM), G mX1_explore 3 32 [(0, .inr (.inr (28, 0))), (1, .inr (.inr (4, w1))), (3, .inl v3), (4, .inl v4)] [] m (K32 v4 m)) (h119 : ∀ (m : hM), G mX1_explore 3 119 [(0, .inr (.inr (28, 0))), (1, .inr (.inr (4, w1))), (3, .inl v3)] [] m (K119 m)) (v4 : Int32) (v5 : Int32) (v100 : Int32) (v101 : Int32) (m : hM) : G mX1_explore 3 104 [(0, .inr (.inr (28, 0))), (1, .inr (.inr (4, w1))), (3, .inl v3), (4, .inl v4), (5, .inl v5)] [.inl v100, .inl v101, .inr (.inr (32, 0))] m (JX1_explore_104 K32 K119 w1 v3 v4 v5 v100 v101 m) := by
  unfold JX1_explore_104
  refine g_iast (kdX1_explore 65 rfl) (fun m12 => ?_)
  refine g_aload_n 0 (kdX1_explore 66 rfl) rfl ?_
  refine g_get (v := .inr (.inr (33, 0))) (kdX1_explore 67 rfl) fX1_24 rfl ?_
  refine g_iload 4 (kdX1_explore 68 rfl) rfl ?_
  refine g_iconst (v := 0) (kdX1_explore 69 rfl) (by decide) ?_
  refine g_iast (kdX1_explore 70 rfl) (fun m13 => ?_)
  refine g_iinc (v := v4 + 1) (L2 := [(4, .inl (v4 + 1)), (0, .inr (.inr (28, 0))), (1, .inr (.inr (4, w1))), (3, .inl v3), (5, .inl v5)]) 3 (kdX1_explore 71 rfl) rfl rfl rfl (by decide) ?_
  refine g_goto (tgt := 32) (kdX1_explore 72 rfl) (by decide) ?_
  exact g_fgt [1, 2, 3, 0] rfl (h32 (v4 + 1) m13)
def bJX1_explore_32 (K32 : Int32 → hM → hR) (K119 : hM → hR) (w1 : Nat) (v3 : Int32) (v4 : Int32) (m : hM) : hR :=
  if (m.1 28 0 5) < v4 then (K119 m) else (lt ((v3 * 8) + v4) fun x5 =>
  calI (JX1_placeBehind w1 v3 v4 0 m) fun x7 m6 =>
  ast m6 31 0 (x5 * 2) x7 fun m8 =>
  calI (JX1_placeBehind w1 v3 v4 1 m8) fun x10 m9 =>
  ast m9 31 0 ((x5 * 2) + 1) x10 fun m11 =>
  if v4 = 0 then (JX1_explore_104 K32 K119 w1 v3 v4 x5 0 x5 m11) else (JX1_explore_104 K32 K119 w1 v3 v4 x5 (-1) x5 m11))
set_option maxRecDepth 20000 in
theorem BbJX1_explore_32 (K32 : Int32 → hM → hR) (K119 : hM → hR) (w1 : Nat) (v3 : Int32) (h32 : ∀ (v4 : Int32) (m : hM), G mX1_explore 3 32 [(0, .inr (.inr (28, 0))), (1, .inr (.inr (4, w1))), (3, .inl v3), (4, .inl v4)] [] m (K32 v4 m)) (h119 : ∀ (m : hM), G mX1_explore 3 119 [(0, .inr (.inr (28, 0))), (1, .inr (.inr (4, w1))), (3, .inl v3)] [] m (K119 m)) (v4 : Int32) (m : hM) : G mX1_explore 3 32 [(0, .inr (.inr (28, 0))), (1, .inr (.inr (4, w1))), (3, .inl v3), (4, .inl v4)] [] m (bJX1_explore_32 K32 K119 w1 v3 v4 m) := by
  unfold bJX1_explore_32
  refine g_iload 3 (kdX1_explore 21 rfl) rfl ?_
  refine g_aload_n 0 (kdX1_explore 22 rfl) rfl ?_
  refine g_get (v := .inl (m.1 28 0 5)) (kdX1_explore 23 rfl) fX1_33 rfl ?_
  refine g_icmp_gt (tgt := 119) (kdX1_explore 24 rfl) (by decide) (fun _ => ?_) (fun _ => ?_)
  · exact g_fgt [0, 1, 2] rfl (h119 m)
  · refine g_iload_n 2 (kdX1_explore 25 rfl) rfl ?_
    refine g_bipush (v := 8) (kdX1_explore 26 rfl) (by decide) ?_
    refine g_imul (kdX1_explore 27 rfl) ?_
    refine g_iload 3 (kdX1_explore 28 rfl) rfl ?_
    refine g_iadd (kdX1_explore 29 rfl) ?_
    refine g_lt (fun x5 => ?_)
    refine g_istore (L2 := [(5, .inl x5), (0, .inr (.inr (28, 0))), (1, .inr (.inr (4, w1))), (3, .inl v3), (4, .inl v4)]) (kdX1_explore 30 rfl) rfl (by decide) ?_
    refine g_aload_n 1 (kdX1_explore 31 rfl) rfl ?_
    refine g_get (v := .inr (.inr (31, 0))) (kdX1_explore 32 rfl) fX1_18 rfl ?_
    refine g_iload 0 (kdX1_explore 33 rfl) rfl ?_
    refine g_iconst (v := 2) (kdX1_explore 34 rfl) (by decide) ?_
    refine g_imul (kdX1_explore 35 rfl) ?_
    refine g_aload_n 1 (kdX1_explore 36 rfl) rfl ?_
    refine g_aload_n 2 (kdX1_explore 37 rfl) rfl ?_
    refine g_iload_n 3 (kdX1_explore 38 rfl) rfl ?_
    refine g_iload 4 (kdX1_explore 39 rfl) rfl ?_
    refine g_iconst (v := 0) (kdX1_explore 40 rfl) (by decide) ?_
    refine g_calI (ck_V (As := [.inr (.inr (4, w1)), .inl v3, .inl v4, .inl 0]) (S := [.inl (x5 * 2), .inr (.inr (31, 0))]) (t := 28) (o := 0) (kdX1_explore 41 rfl) iX1_placeBehind lX1_41 rc_28 rfl rfl rfl (by decide) (by simp only [List.map, vcat, List.sum_cons, List.sum_nil]; decide)) (CX1_placeBehind w1 v3 v4 0 m) (fun x7 m6 => ?_)
    refine g_iast (kdX1_explore 42 rfl) (fun m8 => ?_)
    refine g_aload_n 1 (kdX1_explore 43 rfl) rfl ?_
    refine g_get (v := .inr (.inr (31, 0))) (kdX1_explore 44 rfl) fX1_18 rfl ?_
    refine g_iload 0 (kdX1_explore 45 rfl) rfl ?_
    refine g_iconst (v := 2) (kdX1_explore 46 rfl) (by decide) ?_
    refine g_imul (kdX1_explore 47 rfl) ?_
    refine g_iconst (v := 1) (kdX1_explore 48 rfl) (by decide) ?_
    refine g_iadd (kdX1_explore 49 rfl) ?_
    refine g_aload_n 1 (kdX1_explore 50 rfl) rfl ?_
    refine g_aload_n 2 (kdX1_explore 51 rfl) rfl ?_
    refine g_iload_n 3 (kdX1_explore 52 rfl) rfl ?_
    refine g_iload 4 (kdX1_explore 53 rfl) rfl ?_
    refine g_iconst (v := 1) (kdX1_explore 54 rfl) (by decide) ?_
    refine g_calI (ck_V (As := [.inr (.inr (4, w1)), .inl v3, .inl v4, .inl 1]) (S := [.inl ((x5 * 2) + 1), .inr (.inr (31, 0))]) (t := 28) (o := 0) (kdX1_explore 55 rfl) iX1_placeBehind lX1_41 rc_28 rfl rfl rfl (by decide) (by simp only [List.map, vcat, List.sum_cons, List.sum_nil]; decide)) (CX1_placeBehind w1 v3 v4 1 m8) (fun x10 m9 => ?_)
    refine g_iast (kdX1_explore 56 rfl) (fun m11 => ?_)
    refine g_aload_n 1 (kdX1_explore 57 rfl) rfl ?_
    refine g_get (v := .inr (.inr (32, 0))) (kdX1_explore 58 rfl) fX1_21 rfl ?_
    refine g_iload 0 (kdX1_explore 59 rfl) rfl ?_
    refine g_iload 4 (kdX1_explore 60 rfl) rfl ?_
    refine g_if_ne (tgt := 103) (kdX1_explore 61 rfl) (by decide) (fun _ => ?_) (fun _ => ?_)
    · refine g_iconst (v := (-1)) (kdX1_explore 64 rfl) (by decide) ?_
      exact g_fgt [1, 2, 3, 4, 0] rfl (BX1_explore_104 w1 v3 _ _ h32 h119 v4 x5 (-1) x5 m11)
    · refine g_iconst (v := 0) (kdX1_explore 62 rfl) (by decide) ?_
      refine g_goto (tgt := 104) (kdX1_explore 63 rfl) (by decide) ?_
      exact g_fgt [1, 2, 3, 4, 0] rfl (BX1_explore_104 w1 v3 _ _ h32 h119 v4 x5 0 x5 m11)
def JX1_explore_32 (K119 : hM → hR) (w1 : Nat) (v3 : Int32) : Nat → Int32 → hM → hR
  | 0, _, _ => none
  | f + 1, v4, m => bJX1_explore_32 (fun v4 m => JX1_explore_32 K119 w1 v3 f v4 m) K119 w1 v3 v4 m
theorem BJX1_explore_32 (K119 : hM → hR) (w1 : Nat) (v3 : Int32) (h119 : ∀ (m : hM), G mX1_explore 3 119 [(0, .inr (.inr (28, 0))), (1, .inr (.inr (4, w1))), (3, .inl v3)] [] m (K119 m)) : ∀ (f : Nat) (v4 : Int32) (m : hM), G mX1_explore 3 32 [(0, .inr (.inr (28, 0))), (1, .inr (.inr (4, w1))), (3, .inl v3), (4, .inl v4)] [] m (JX1_explore_32 K119 w1 v3 f v4 m)
  | 0, _, _ => g_none
  | f + 1, v4, m => BbJX1_explore_32  _ K119 w1 v3 (fun v4 m => BJX1_explore_32  K119 w1 v3 h119 f v4 m) h119 v4 m
def bJX1_explore_23 (K23 : Int32 → hM → hR) (K125 : hM → hR) (w1 : Nat) (v3 : Int32) (m : hM) : hR :=
  if 64 ≤ v3 then (K125 m) else (JX1_explore_32 (fun m14 => K23 (v3 + 1) m14) w1 v3 FU 0 m)
set_option maxRecDepth 20000 in
theorem BbJX1_explore_23 (K23 : Int32 → hM → hR) (K125 : hM → hR) (w1 : Nat) (h23 : ∀ (v3 : Int32) (m : hM), G mX1_explore 3 23 [(0, .inr (.inr (28, 0))), (1, .inr (.inr (4, w1))), (3, .inl v3)] [] m (K23 v3 m)) (h125 : ∀ (m : hM), G mX1_explore 3 125 [(0, .inr (.inr (28, 0)))] [] m (K125 m)) (v3 : Int32) (m : hM) : G mX1_explore 3 23 [(0, .inr (.inr (28, 0))), (1, .inr (.inr (4, w1))), (3, .inl v3)] [] m (bJX1_explore_23 K23 K125 w1 v3 m) := by
  unfold bJX1_explore_23
  refine g_iload_n 2 (kdX1_explore 16 rfl) rfl ?_
  refine g_bipush (v := 64) (kdX1_explore 17 rfl) (by decide) ?_
  refine g_icmp_ge (tgt := 125) (kdX1_explore 18 rfl) (by decide) (fun _ => ?_) (fun _ => ?_)
  · exact g_fgt [0] rfl (h125 m)
  · refine g_iconst (v := 0) (kdX1_explore 19 rfl) (by decide) ?_
    refine g_istore (L2 := [(4, .inl 0), (0, .inr (.inr (28, 0))), (1, .inr (.inr (4, w1))), (3, .inl v3)]) (kdX1_explore 20 rfl) rfl (by decide) ?_
    refine g_fgt [1, 2, 3, 0] rfl (BJX1_explore_32  _ w1 v3 ?_ FU 0 m)
    · intro m14
      refine g_iinc (v := v3 + 1) (L2 := [(3, .inl (v3 + 1)), (0, .inr (.inr (28, 0))), (1, .inr (.inr (4, w1)))]) 2 (kdX1_explore 73 rfl) rfl rfl rfl (by decide) ?_
      refine g_goto (tgt := 23) (kdX1_explore 74 rfl) (by decide) ?_
      exact g_fgt [1, 2, 0] rfl (h23 (v3 + 1) m14)
def JX1_explore_23 (K125 : hM → hR) (w1 : Nat) : Nat → Int32 → hM → hR
  | 0, _, _ => none
  | f + 1, v3, m => bJX1_explore_23 (fun v3 m => JX1_explore_23 K125 w1 f v3 m) K125 w1 v3 m
theorem BJX1_explore_23 (K125 : hM → hR) (w1 : Nat) (h125 : ∀ (m : hM), G mX1_explore 3 125 [(0, .inr (.inr (28, 0)))] [] m (K125 m)) : ∀ (f : Nat) (v3 : Int32) (m : hM), G mX1_explore 3 23 [(0, .inr (.inr (28, 0))), (1, .inr (.inr (4, w1))), (3, .inl v3)] [] m (JX1_explore_23 K125 w1 f v3 m)
  | 0, _, _ => g_none
  | f + 1, v3, m => BbJX1_explore_23  _ K125 w1 (fun v3 m => BJX1_explore_23  K125 w1 h125 f v3 m) h125 v3 m
def bJX1_explore_130 (K130 : Int32 → Int32 → hM → hR) (K153 : hM → hR) (v3 : Int32) (v4 : Int32) (m : hM) : hR :=
  if 512 ≤ v4 then (K153 m) else (if v3 = 0 then (K153 m) else (calI (JX1_spreadBack m) fun x17 m16 =>
  K130 x17 (v4 + 1) m16))
set_option maxRecDepth 20000 in
theorem BbJX1_explore_130 (K130 : Int32 → Int32 → hM → hR) (K153 : hM → hR) (h130 : ∀ (v3 : Int32) (v4 : Int32) (m : hM), G mX1_explore 3 130 [(0, .inr (.inr (28, 0))), (3, .inl v3), (4, .inl v4)] [] m (K130 v3 v4 m)) (h153 : ∀ (m : hM), G mX1_explore 3 153 [] [] m (K153 m)) (v3 : Int32) (v4 : Int32) (m : hM) : G mX1_explore 3 130 [(0, .inr (.inr (28, 0))), (3, .inl v3), (4, .inl v4)] [] m (bJX1_explore_130 K130 K153 v3 v4 m) := by
  unfold bJX1_explore_130
  refine g_iload 2 (kdX1_explore 79 rfl) rfl ?_
  refine g_sipush (v := 512) (kdX1_explore 80 rfl) (by decide) ?_
  refine g_icmp_ge (tgt := 153) (kdX1_explore 81 rfl) (by decide) (fun _ => ?_) (fun _ => ?_)
  · exact g_fgt [] rfl (h153 m)
  · refine g_iload_n 1 (kdX1_explore 82 rfl) rfl ?_
    refine g_if_eq (tgt := 153) (kdX1_explore 83 rfl) (by decide) (fun _ => ?_) (fun _ => ?_)
    · exact g_fgt [] rfl (h153 m)
    · refine g_aload_n 0 (kdX1_explore 84 rfl) rfl ?_
      refine g_calI (ck_V (As := []) (S := []) (t := 28) (o := 0) (kdX1_explore 85 rfl) iX1_spreadBack lX1_45 rc_28 rfl rfl rfl (by decide) (by simp only [List.map, vcat, List.sum_cons, List.sum_nil]; decide)) (CX1_spreadBack m) (fun x17 m16 => ?_)
      refine g_istore_n (L2 := [(3, .inl x17), (0, .inr (.inr (28, 0))), (4, .inl v4)]) (kdX1_explore 86 rfl) rfl (by decide) ?_
      refine g_iinc (v := v4 + 1) (L2 := [(4, .inl (v4 + 1)), (3, .inl x17), (0, .inr (.inr (28, 0)))]) 2 (kdX1_explore 87 rfl) rfl rfl rfl (by decide) ?_
      refine g_goto (tgt := 130) (kdX1_explore 88 rfl) (by decide) ?_
      exact g_fgt [2, 1, 0] rfl (h130 x17 (v4 + 1) m16)
def JX1_explore_130 (K153 : hM → hR) : Nat → Int32 → Int32 → hM → hR
  | 0, _, _, _ => none
  | f + 1, v3, v4, m => bJX1_explore_130 (fun v3 v4 m => JX1_explore_130 K153  f v3 v4 m) K153  v3 v4 m
theorem BJX1_explore_130 (K153 : hM → hR) (h153 : ∀ (m : hM), G mX1_explore 3 153 [] [] m (K153 m)) : ∀ (f : Nat) (v3 : Int32) (v4 : Int32) (m : hM), G mX1_explore 3 130 [(0, .inr (.inr (28, 0))), (3, .inl v3), (4, .inl v4)] [] m (JX1_explore_130 K153  f v3 v4 m)
  | 0, _, _, _ => g_none
  | f + 1, v3, v4, m => BbJX1_explore_130  _ K153  (fun v3 v4 m => BJX1_explore_130  K153  h153 f v3 v4 m) h153 v3 v4 m
def JX1_explore (n1 : Nat) (n2 : Nat) (m : hM) : hR :=
  calI (JX4_backTaps n1 m) fun x2 m1 =>
  stI m1 28 0 5 ((((1 : Int32) <<< (x2 &&& 31)) - 1) &&& 7) fun m3 =>
  calV (JX1_weighParts n1 n2 m3) fun m4 =>
  JX1_explore_23 (fun m15 => JX1_explore_130 (fun m18 => some (none, m18))  FU 1 0 m15) n1 FU 0 m4
set_option maxRecDepth 20000 in
theorem CX1_explore (n1 : Nat) (n2 : Nat) (m : hM) : Cn mX1_explore 3 [.inr (.inr (28, 0)), .inr (.inr (4, n1)), .inr (.inr (12, n2))] m (JX1_explore n1 n2 m) := by
  refine cn_of (by decide +kernel) (by simp only [List.map, vcat, List.sum_cons, List.sum_nil]; decide) ?_
  unfold JX1_explore
  show G mX1_explore 3 0 [(0, .inr (.inr (28, 0))), (1, .inr (.inr (4, n1))), (2, .inr (.inr (12, n2)))] [] m _
  refine g_aload_n 0 (kdX1_explore 0 rfl) rfl ?_
  refine g_iconst (v := 1) (kdX1_explore 1 rfl) (by decide) ?_
  refine g_aload_n 1 (kdX1_explore 2 rfl) rfl ?_
  refine g_calI (ck_V (As := []) (S := [.inl 1, .inr (.inr (28, 0))]) (t := 4) (o := n1) (kdX1_explore 3 rfl) iX4_backTaps lX1_27 rc_4 rfl rfl rfl (by decide) (by simp only [List.map, vcat, List.sum_cons, List.sum_nil]; decide)) (CX4_backTaps n1 m) (fun x2 m1 => ?_)
  refine g_ishl (kdX1_explore 4 rfl) ?_
  refine g_iconst (v := 1) (kdX1_explore 5 rfl) (by decide) ?_
  refine g_isub (kdX1_explore 6 rfl) ?_
  refine g_bipush (v := 7) (kdX1_explore 7 rfl) (by decide) ?_
  refine g_iand (kdX1_explore 8 rfl) ?_
  refine g_putI (kdX1_explore 9 rfl) fX1_33 rfl (fun m3 => ?_)
  refine g_aload_n 0 (kdX1_explore 10 rfl) rfl ?_
  refine g_aload_n 1 (kdX1_explore 11 rfl) rfl ?_
  refine g_aload_n 2 (kdX1_explore 12 rfl) rfl ?_
  refine g_calV (ck_V (As := [.inr (.inr (4, n1)), .inr (.inr (12, n2))]) (S := []) (t := 28) (o := 0) (kdX1_explore 13 rfl) iX1_weighParts lX1_37 rc_28 rfl rfl rfl (by decide) (by simp only [List.map, vcat, List.sum_cons, List.sum_nil]; decide)) (CX1_weighParts n1 n2 m3) (fun m4 => ?_)
  refine g_iconst (v := 0) (kdX1_explore 14 rfl) (by decide) ?_
  refine g_istore_n (L2 := [(3, .inl 0), (0, .inr (.inr (28, 0))), (1, .inr (.inr (4, n1))), (2, .inr (.inr (12, n2)))]) (kdX1_explore 15 rfl) rfl (by decide) ?_
  refine g_fgt [1, 2, 0] rfl (BJX1_explore_23  _ n1 ?_ FU 0 m4)
  · intro m15
    refine g_iconst (v := 1) (kdX1_explore 75 rfl) (by decide) ?_
    refine g_istore_n (L2 := [(3, .inl 1), (0, .inr (.inr (28, 0)))]) (kdX1_explore 76 rfl) rfl (by decide) ?_
    refine g_iconst (v := 0) (kdX1_explore 77 rfl) (by decide) ?_
    refine g_istore (L2 := [(4, .inl 0), (3, .inl 1), (0, .inr (.inr (28, 0)))]) (kdX1_explore 78 rfl) rfl (by decide) ?_
    refine g_fgt [2, 1, 0] rfl (BJX1_explore_130  _  ?_ FU 1 0 m15)
    · intro m18
      exact g_vret rfl (kdX1_explore 89 rfl)
def JX1_startOf (a1 : Int32) (m : hM) : hR :=
  some (some (.inl (((a1 &&& 63) * 8) + (1 &&& (m.1 28 0 5)))), m)
set_option maxRecDepth 20000 in
theorem CX1_startOf (a1 : Int32) (m : hM) : Cn mX1_startOf 0 [.inr (.inr (28, 0)), .inl a1] m (JX1_startOf a1 m) := by
  refine cn_of (by decide +kernel) (by simp only [List.map, vcat, List.sum_cons, List.sum_nil]; decide) ?_
  unfold JX1_startOf
  show G mX1_startOf 0 0 [(0, .inr (.inr (28, 0))), (1, .inl a1)] [] m _
  refine g_iload_n 1 (kdX1_startOf 0 rfl) rfl ?_
  refine g_bipush (v := 63) (kdX1_startOf 1 rfl) (by decide) ?_
  refine g_iand (kdX1_startOf 2 rfl) ?_
  refine g_bipush (v := 8) (kdX1_startOf 3 rfl) (by decide) ?_
  refine g_imul (kdX1_startOf 4 rfl) ?_
  refine g_iconst (v := 1) (kdX1_startOf 5 rfl) (by decide) ?_
  refine g_aload_n 0 (kdX1_startOf 6 rfl) rfl ?_
  refine g_get (v := .inl (m.1 28 0 5)) (kdX1_startOf 7 rfl) fX1_33 rfl ?_
  refine g_iand (kdX1_startOf 8 rfl) ?_
  refine g_iadd (kdX1_startOf 9 rfl) ?_
  exact g_iret rfl (kdX1_startOf 10 rfl)
def JX1_followers (a1 : Int32) (m : hM) : hR :=
  calI (JX1_startOf a1 m) fun x2 m1 =>
  ald m1 32 0 x2 fun x3 =>
  if x3 = (-1) then (some (some (.inl (-1000000000)), m1)) else (some (some (.inl x3), m1))
set_option maxRecDepth 20000 in
theorem CX1_followers (a1 : Int32) (m : hM) : Cn mX1_followers 1 [.inr (.inr (28, 0)), .inl a1] m (JX1_followers a1 m) := by
  refine cn_of (by decide +kernel) (by simp only [List.map, vcat, List.sum_cons, List.sum_nil]; decide) ?_
  unfold JX1_followers
  show G mX1_followers 1 0 [(0, .inr (.inr (28, 0))), (1, .inl a1)] [] m _
  refine g_aload_n 0 (kdX1_followers 0 rfl) rfl ?_
  refine g_get (v := .inr (.inr (32, 0))) (kdX1_followers 1 rfl) fX1_21 rfl ?_
  refine g_aload_n 0 (kdX1_followers 2 rfl) rfl ?_
  refine g_iload_n 1 (kdX1_followers 3 rfl) rfl ?_
  refine g_calI (ck_V (As := [.inl a1]) (S := [.inr (.inr (32, 0))]) (t := 28) (o := 0) (kdX1_followers 4 rfl) iX1_startOf lX1_89 rc_28 rfl rfl rfl (by decide) (by simp only [List.map, vcat, List.sum_cons, List.sum_nil]; decide)) (CX1_startOf a1 m) (fun x2 m1 => ?_)
  refine g_iald (kdX1_followers 5 rfl) (fun x3 => ?_)
  refine g_istore_n (L2 := [(2, .inl x3), (0, .inr (.inr (28, 0))), (1, .inl a1)]) (kdX1_followers 6 rfl) rfl (by decide) ?_
  refine g_iload_n 0 (kdX1_followers 7 rfl) rfl ?_
  refine g_iconst (v := (-1)) (kdX1_followers 8 rfl) (by decide) ?_
  refine g_icmp_ne (tgt := 21) (kdX1_followers 9 rfl) (by decide) (fun _ => ?_) (fun _ => ?_)
  · refine g_iload_n 0 (kdX1_followers 12 rfl) rfl ?_
    exact g_iret rfl (kdX1_followers 13 rfl)
  · refine g_ldc (kdX1_followers 10 rfl) cX1_93 ?_
    refine g_goto (tgt := 22) (kdX1_followers 11 rfl) (by decide) ?_
    exact g_iret rfl (kdX1_followers 13 rfl)
def JX1_errors (a1 : Int32) (m : hM) : hR :=
  calI (JX1_startOf a1 m) fun x2 m1 =>
  ald m1 32 0 x2 fun x3 =>
  if x3 = (-1) then (some (some (.inl (-1000000000)), m1)) else (ald m1 33 0 x2 fun x4 =>
  some (some (.inl (1 + x4)), m1))
set_option maxRecDepth 20000 in
theorem CX1_errors (a1 : Int32) (m : hM) : Cn mX1_errors 1 [.inr (.inr (28, 0)), .inl a1] m (JX1_errors a1 m) := by
  refine cn_of (by decide +kernel) (by simp only [List.map, vcat, List.sum_cons, List.sum_nil]; decide) ?_
  unfold JX1_errors
  show G mX1_errors 1 0 [(0, .inr (.inr (28, 0))), (1, .inl a1)] [] m _
  refine g_aload_n 0 (kdX1_errors 0 rfl) rfl ?_
  refine g_iload_n 1 (kdX1_errors 1 rfl) rfl ?_
  refine g_calI (ck_V (As := [.inl a1]) (S := []) (t := 28) (o := 0) (kdX1_errors 2 rfl) iX1_startOf lX1_89 rc_28 rfl rfl rfl (by decide) (by simp only [List.map, vcat, List.sum_cons, List.sum_nil]; decide)) (CX1_startOf a1 m) (fun x2 m1 => ?_)
  refine g_istore_n (L2 := [(2, .inl x2), (0, .inr (.inr (28, 0))), (1, .inl a1)]) (kdX1_errors 3 rfl) rfl (by decide) ?_
  refine g_aload_n 1 (kdX1_errors 4 rfl) rfl ?_
  refine g_get (v := .inr (.inr (32, 0))) (kdX1_errors 5 rfl) fX1_21 rfl ?_
  refine g_iload_n 0 (kdX1_errors 6 rfl) rfl ?_
  refine g_iald (kdX1_errors 7 rfl) (fun x3 => ?_)
  refine g_iconst (v := (-1)) (kdX1_errors 8 rfl) (by decide) ?_
  refine g_icmp_ne (tgt := 21) (kdX1_errors 9 rfl) (by decide) (fun _ => ?_) (fun _ => ?_)
  · refine g_iconst (v := 1) (kdX1_errors 12 rfl) (by decide) ?_
    refine g_aload_n 1 (kdX1_errors 13 rfl) rfl ?_
    refine g_get (v := .inr (.inr (33, 0))) (kdX1_errors 14 rfl) fX1_24 rfl ?_
    refine g_iload_n 0 (kdX1_errors 15 rfl) rfl ?_
    refine g_iald (kdX1_errors 16 rfl) (fun x4 => ?_)
    refine g_iadd (kdX1_errors 17 rfl) ?_
    exact g_iret rfl (kdX1_errors 18 rfl)
  · refine g_ldc (kdX1_errors 10 rfl) cX1_93 ?_
    refine g_goto (tgt := 29) (kdX1_errors 11 rfl) (by decide) ?_
    exact g_iret rfl (kdX1_errors 18 rfl)
def JX1_longestRow_35 (K4 : Int32 → Int32 → hM → hR) (K22 : Int32 → hM → hR) (K41 : Int32 → hM → hR) (v1 : Int32) (v2 : Int32) (m : hM) : hR :=
  K4 v1 (v2 + 1) m
set_option maxRecDepth 20000 in
theorem BX1_longestRow_35 (K4 : Int32 → Int32 → hM → hR) (K22 : Int32 → hM → hR) (K41 : Int32 → hM → hR) (h4 : ∀ (v1 : Int32) (v2 : Int32) (m : hM), G mX1_longestRow 2 4 [(0, .inr (.inr (28, 0))), (1, .inl v1), (2, .inl v2)] [] m (K4 v1 v2 m)) (h22 : ∀ (v2 : Int32) (m : hM), G mX1_longestRow 2 22 [(2, .inl v2)] [] m (K22 v2 m)) (h41 : ∀ (v1 : Int32) (m : hM), G mX1_longestRow 2 41 [(1, .inl v1)] [] m (K41 v1 m)) (v1 : Int32) (v2 : Int32) (m : hM) : G mX1_longestRow 2 35 [(0, .inr (.inr (28, 0))), (1, .inl v1), (2, .inl v2)] [] m (JX1_longestRow_35 K4 K22 K41 v1 v2 m) := by
  unfold JX1_longestRow_35
  refine g_iinc (v := v2 + 1) (L2 := [(2, .inl (v2 + 1)), (0, .inr (.inr (28, 0))), (1, .inl v1)]) 2 (kdX1_longestRow 23 rfl) rfl rfl rfl (by decide) ?_
  refine g_goto (tgt := 4) (kdX1_longestRow 24 rfl) (by decide) ?_
  exact g_fgt [1, 2, 0] rfl (h4 v1 (v2 + 1) m)
def bJX1_longestRow_4 (K4 : Int32 → Int32 → hM → hR) (K22 : Int32 → hM → hR) (K41 : Int32 → hM → hR) (v1 : Int32) (v2 : Int32) (m : hM) : hR :=
  if 64 ≤ v2 then (K41 v1 m) else (calI (JX1_followers v2 m) fun x2 m1 =>
  if x2 = (-1000000000) then (K22 v2 m1) else (calI (JX1_followers v1 m1) fun x4 m3 =>
  if x2 ≤ x4 then (JX1_longestRow_35 K4 K22 K41 v1 v2 m3) else (JX1_longestRow_35 K4 K22 K41 v2 v2 m3)))
set_option maxRecDepth 20000 in
theorem BbJX1_longestRow_4 (K4 : Int32 → Int32 → hM → hR) (K22 : Int32 → hM → hR) (K41 : Int32 → hM → hR) (h4 : ∀ (v1 : Int32) (v2 : Int32) (m : hM), G mX1_longestRow 2 4 [(0, .inr (.inr (28, 0))), (1, .inl v1), (2, .inl v2)] [] m (K4 v1 v2 m)) (h22 : ∀ (v2 : Int32) (m : hM), G mX1_longestRow 2 22 [(2, .inl v2)] [] m (K22 v2 m)) (h41 : ∀ (v1 : Int32) (m : hM), G mX1_longestRow 2 41 [(1, .inl v1)] [] m (K41 v1 m)) (v1 : Int32) (v2 : Int32) (m : hM) : G mX1_longestRow 2 4 [(0, .inr (.inr (28, 0))), (1, .inl v1), (2, .inl v2)] [] m (bJX1_longestRow_4 K4 K22 K41 v1 v2 m) := by
  unfold bJX1_longestRow_4
  refine g_iload_n 2 (kdX1_longestRow 4 rfl) rfl ?_
  refine g_bipush (v := 64) (kdX1_longestRow 5 rfl) (by decide) ?_
  refine g_icmp_ge (tgt := 41) (kdX1_longestRow 6 rfl) (by decide) (fun _ => ?_) (fun _ => ?_)
  · exact g_fgt [1] rfl (h41 v1 m)
  · refine g_aload_n 0 (kdX1_longestRow 7 rfl) rfl ?_
    refine g_iload_n 2 (kdX1_longestRow 8 rfl) rfl ?_
    refine g_calI (ck_V (As := [.inl v2]) (S := []) (t := 28) (o := 0) (kdX1_longestRow 9 rfl) iX1_followers lX1_94 rc_28 rfl rfl rfl (by decide) (by simp only [List.map, vcat, List.sum_cons, List.sum_nil]; decide)) (CX1_followers v2 m) (fun x2 m1 => ?_)
    refine g_istore_n (L2 := [(3, .inl x2), (0, .inr (.inr (28, 0))), (1, .inl v1), (2, .inl v2)]) (kdX1_longestRow 10 rfl) rfl (by decide) ?_
    refine g_iload_n 0 (kdX1_longestRow 11 rfl) rfl ?_
    refine g_ldc (kdX1_longestRow 12 rfl) cX1_93 ?_
    refine g_icmp_ne (tgt := 24) (kdX1_longestRow 13 rfl) (by decide) (fun _ => ?_) (fun _ => ?_)
    · refine g_iload_n 0 (kdX1_longestRow 16 rfl) rfl ?_
      refine g_aload_n 1 (kdX1_longestRow 17 rfl) rfl ?_
      refine g_iload_n 2 (kdX1_longestRow 18 rfl) rfl ?_
      refine g_calI (ck_V (As := [.inl v1]) (S := [.inl x2]) (t := 28) (o := 0) (kdX1_longestRow 19 rfl) iX1_followers lX1_94 rc_28 rfl rfl rfl (by decide) (by simp only [List.map, vcat, List.sum_cons, List.sum_nil]; decide)) (CX1_followers v1 m1) (fun x4 m3 => ?_)
      refine g_icmp_le (tgt := 35) (kdX1_longestRow 20 rfl) (by decide) (fun _ => ?_) (fun _ => ?_)
      · exact g_fgt [1, 2, 3] rfl (BX1_longestRow_35 _ _ _ h4 h22 h41 v1 v2 m3)
      · refine g_iload_n 3 (kdX1_longestRow 21 rfl) rfl ?_
        refine g_istore_n (L2 := [(1, .inl v2), (3, .inl x2), (0, .inr (.inr (28, 0))), (2, .inl v2)]) (kdX1_longestRow 22 rfl) rfl (by decide) ?_
        exact g_fgt [2, 0, 3] rfl (BX1_longestRow_35 _ _ _ h4 h22 h41 v2 v2 m3)
    · exact g_fgt [3] rfl (h22 v2 m1)
def JX1_longestRow_4 (K22 : Int32 → hM → hR) (K41 : Int32 → hM → hR) : Nat → Int32 → Int32 → hM → hR
  | 0, _, _, _ => none
  | f + 1, v1, v2, m => bJX1_longestRow_4 (fun v1 v2 m => JX1_longestRow_4 K22 K41  f v1 v2 m) K22 K41  v1 v2 m
theorem BJX1_longestRow_4 (K22 : Int32 → hM → hR) (K41 : Int32 → hM → hR) (h22 : ∀ (v2 : Int32) (m : hM), G mX1_longestRow 2 22 [(2, .inl v2)] [] m (K22 v2 m)) (h41 : ∀ (v1 : Int32) (m : hM), G mX1_longestRow 2 41 [(1, .inl v1)] [] m (K41 v1 m)) : ∀ (f : Nat) (v1 : Int32) (v2 : Int32) (m : hM), G mX1_longestRow 2 4 [(0, .inr (.inr (28, 0))), (1, .inl v1), (2, .inl v2)] [] m (JX1_longestRow_4 K22 K41  f v1 v2 m)
  | 0, _, _, _ => g_none
  | f + 1, v1, v2, m => BbJX1_longestRow_4  _ K22 K41  (fun v1 v2 m => BJX1_longestRow_4  K22 K41  h22 h41 f v1 v2 m) h22 h41 v1 v2 m
def JX1_longestRow  (m : hM) : hR :=
  JX1_longestRow_4 (fun v2 m5 => some (some (.inl v2), m5)) (fun v1 m6 => some (some (.inl v1), m6))  FU 0 0 m
set_option maxRecDepth 20000 in
theorem CX1_longestRow  (m : hM) : Cn mX1_longestRow 2 [.inr (.inr (28, 0))] m (JX1_longestRow  m) := by
  refine cn_of (by decide +kernel) (by simp only [List.map, vcat, List.sum_cons, List.sum_nil]; decide) ?_
  unfold JX1_longestRow
  show G mX1_longestRow 2 0 [(0, .inr (.inr (28, 0)))] [] m _
  refine g_iconst (v := 0) (kdX1_longestRow 0 rfl) (by decide) ?_
  refine g_istore_n (L2 := [(1, .inl 0), (0, .inr (.inr (28, 0)))]) (kdX1_longestRow 1 rfl) rfl (by decide) ?_
  refine g_iconst (v := 0) (kdX1_longestRow 2 rfl) (by decide) ?_
  refine g_istore_n (L2 := [(2, .inl 0), (1, .inl 0), (0, .inr (.inr (28, 0)))]) (kdX1_longestRow 3 rfl) rfl (by decide) ?_
  refine g_fgt [2, 1, 0] rfl (BJX1_longestRow_4  _ _  ?_ ?_ FU 0 0 m)
  · intro v2 m5
    refine g_iload_n 0 (kdX1_longestRow 14 rfl) rfl ?_
    exact g_iret rfl (kdX1_longestRow 15 rfl)
  · intro v1 m6
    refine g_iload_n 0 (kdX1_longestRow 25 rfl) rfl ?_
    exact g_iret rfl (kdX1_longestRow 26 rfl)
