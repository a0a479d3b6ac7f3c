abbrev mX12_in : hMt := (yX12_in, cX12_in, 3, some .boolean)
def tX12_in : hTb := [(0, .iload_n 0, 1, 1), (1, .iload_n 1, 1, 2), (2, .if_icmp .lt 12, 3, 5), (5, .iload_n 0, 1, 6), (6, .iload_n 2, 1, 7), (7, .if_icmp .gt 7, 3, 10), (10, .iconst 1, 1, 11), (11, .goto 4, 3, 14), (14, .iconst 0, 1, 15), (15, .ireturn, 1, 16)]
theorem ktX12_in : TbOK mX12_in tX12_in := by
  unfold TbOK
  decide +kernel
theorem kdX12_in (k : Nat) {pc : Nat} {i : Instr} {len nx : Nat} (hk : tX12_in[k]? = some (pc, i, len, nx)) : Dc mX12_in pc i len nx := dc_of ktX12_in k hk
theorem iX12_in : MiS mX12_in := ⟨⟨gdw_of (i := 1563) (by decide +kernel) (by decide +kernel), gdw_of (i := 124) (by decide +kernel) (by decide +kernel), by decide, by decide, by decide⟩, gdw_of (i := 1562) (by decide +kernel) (by decide +kernel)⟩
abbrev mX12_has : hMt := (yX12_has, cX12_has, 2, some .boolean)
def tX12_has : hTb := [(0, .iload_n 0, 1, 1), (1, .iload_n 1, 1, 2), (2, .ishr, 1, 3), (3, .iconst 1, 1, 4), (4, .iand, 1, 5), (5, .iconst 1, 1, 6), (6, .if_icmp .ne 7, 3, 9), (9, .iconst 1, 1, 10), (10, .goto 4, 3, 13), (13, .iconst 0, 1, 14), (14, .ireturn, 1, 15)]
theorem ktX12_has : TbOK mX12_has tX12_has := by
  unfold TbOK
  decide +kernel
theorem kdX12_has (k : Nat) {pc : Nat} {i : Instr} {len nx : Nat} (hk : tX12_has[k]? = some (pc, i, len, nx)) : Dc mX12_has pc i len nx := dc_of ktX12_has k hk
theorem iX12_has : MiS mX12_has := ⟨⟨gdw_of (i := 1620) (by decide +kernel) (by decide +kernel), gdw_of (i := 124) (by decide +kernel) (by decide +kernel), by decide, by decide, by decide⟩, gdw_of (i := 1619) (by decide +kernel) (by decide +kernel)⟩
abbrev mX12_sign : hMt := (yX12_sign, cX12_sign, 1, some .int)
def tX12_sign : hTb := [(0, .iload_n 0, 1, 1), (1, .ifCond .le 7, 3, 4), (4, .iconst 1, 1, 5), (5, .goto 12, 3, 8), (8, .iload_n 0, 1, 9), (9, .ifCond .ge 7, 3, 12), (12, .iconst (-1), 1, 13), (13, .goto 4, 3, 16), (16, .iconst 0, 1, 17), (17, .ireturn, 1, 18)]
theorem ktX12_sign : TbOK mX12_sign tX12_sign := by
  unfold TbOK
  decide +kernel
theorem kdX12_sign (k : Nat) {pc : Nat} {i : Instr} {len nx : Nat} (hk : tX12_sign[k]? = some (pc, i, len, nx)) : Dc mX12_sign pc i len nx := dc_of ktX12_sign k hk
theorem iX12_sign : MiS mX12_sign := ⟨⟨gdw_of (i := 1719) (by decide +kernel) (by decide +kernel), gdw_of (i := 124) (by decide +kernel) (by decide +kernel), by decide, by decide, by decide⟩, gdw_of (i := 1718) (by decide +kernel) (by decide +kernel)⟩
abbrev mX12_size : hMt := (yX12_size, cX12_size, 1, some .int)
def tX12_size : hTb := [(0, .iload_n 0, 1, 1), (1, .ifCond .ge 8, 3, 4), (4, .iload_n 0, 1, 5), (5, .ineg, 1, 6), (6, .goto 4, 3, 9), (9, .iload_n 0, 1, 10), (10, .ireturn, 1, 11)]
theorem ktX12_size : TbOK mX12_size tX12_size := by
  unfold TbOK
  decide +kernel
theorem kdX12_size (k : Nat) {pc : Nat} {i : Instr} {len nx : Nat} (hk : tX12_size[k]? = some (pc, i, len, nx)) : Dc mX12_size pc i len nx := dc_of ktX12_size k hk
theorem iX12_size : MiS mX12_size := ⟨⟨gdw_of (i := 1722) (by decide +kernel) (by decide +kernel), gdw_of (i := 124) (by decide +kernel) (by decide +kernel), by decide, by decide, by decide⟩, gdw_of (i := 1721) (by decide +kernel) (by decide +kernel)⟩
abbrev mX12_held : hMt := (yX12_held, cX12_held, 3, some .int)
def tX12_held : hTb := [(0, .iload_n 0, 1, 1), (1, .iload_n 1, 1, 2), (2, .if_icmp .ge 7, 3, 5), (5, .iload_n 1, 1, 6), (6, .goto 13, 3, 9), (9, .iload_n 0, 1, 10), (10, .iload_n 2, 1, 11), (11, .if_icmp .le 7, 3, 14), (14, .iload_n 2, 1, 15), (15, .goto 4, 3, 18), (18, .iload_n 0, 1, 19), (19, .ireturn, 1, 20)]
theorem ktX12_held : TbOK mX12_held tX12_held := by
  unfold TbOK
  decide +kernel
theorem kdX12_held (k : Nat) {pc : Nat} {i : Instr} {len nx : Nat} (hk : tX12_held[k]? = some (pc, i, len, nx)) : Dc mX12_held pc i len nx := dc_of ktX12_held k hk
theorem iX12_held : MiS mX12_held := ⟨⟨gdw_of (i := 1738) (by decide +kernel) (by decide +kernel), gdw_of (i := 124) (by decide +kernel) (by decide +kernel), by decide, by decide, by decide⟩, gdw_of (i := 1737) (by decide +kernel) (by decide +kernel)⟩
abbrev mX12_thrown : hMt := (yX12_thrown, cX12_thrown, 1, some .int)
def tX12_thrown : hTb := [(0, .aload_n 0, 1, 1), (1, .getfield 79, 3, 4), (4, .ireturn, 1, 5)]
theorem ktX12_thrown : TbOK mX12_thrown tX12_thrown := by
  unfold TbOK
  decide +kernel
theorem kdX12_thrown (k : Nat) {pc : Nat} {i : Instr} {len nx : Nat} (hk : tX12_thrown[k]? = some (pc, i, len, nx)) : Dc mX12_thrown pc i len nx := dc_of ktX12_thrown k hk
theorem iX12_thrown : MiV mX12_thrown := ⟨⟨gdw_of (i := 1549) (by decide +kernel) (by decide +kernel), gdw_of (i := 124) (by decide +kernel) (by decide +kernel), by decide, by decide, by decide⟩, gdw_of (i := 1547) (by decide +kernel) (by decide +kernel), gdw_of (i := 1548) (by decide +kernel) (by decide +kernel)⟩
abbrev mX12_byteOf : hMt := (yX12_byteOf, cX12_byteOf, 7, some .int)
def tX12_byteOf : hTb := [(0, .iload 5, 2, 2), (2, .iconst 4, 1, 3), (3, .if_icmp .ge 7, 3, 6), (6, .iload_n 0, 1, 7), (7, .goto 38, 3, 10), (10, .iload 5, 2, 12), (12, .bipush 8, 2, 14), (14, .if_icmp .ge 7, 3, 17), (17, .iload_n 1, 1, 18), (18, .goto 27, 3, 21), (21, .iload 5, 2, 23), (23, .bipush 12, 2, 25), (25, .if_icmp .ge 7, 3, 28), (28, .iload_n 2, 1, 29), (29, .goto 16, 3, 32), (32, .iload 5, 2, 34), (34, .bipush 16, 2, 36), (36, .if_icmp .ge 7, 3, 39), (39, .iload_n 3, 1, 40), (40, .goto 5, 3, 43), (43, .iload 4, 2, 45), (45, .istore 6, 2, 47), (47, .iload 6, 2, 49), (49, .bipush 24, 2, 51), (51, .bipush 8, 2, 53), (53, .iload 5, 2, 55), (55, .iconst 4, 1, 56), (56, .irem, 1, 57), (57, .imul, 1, 58), (58, .isub, 1, 59), (59, .ishr, 1, 60), (60, .sipush 255, 3, 63), (63, .iand, 1, 64), (64, .ireturn, 1, 65)]
theorem ktX12_byteOf : TbOK mX12_byteOf tX12_byteOf := by
  unfold TbOK
  decide +kernel
theorem kdX12_byteOf (k : Nat) {pc : Nat} {i : Instr} {len nx : Nat} (hk : tX12_byteOf[k]? = some (pc, i, len, nx)) : Dc mX12_byteOf pc i len nx := dc_of ktX12_byteOf k hk
theorem iX12_byteOf : MiS mX12_byteOf := ⟨⟨gdw_of (i := 1556) (by decide +kernel) (by decide +kernel), gdw_of (i := 124) (by decide +kernel) (by decide +kernel), by decide, by decide, by decide⟩, gdw_of (i := 1555) (by decide +kernel) (by decide +kernel)⟩
abbrev mX12_feed : hMt := (yX12_feed, cX12_feed, 9, some .int)
def tX12_feed : hTb := [(0, .iconst 0, 1, 1), (1, .istore 6, 2, 3), (3, .iconst 0, 1, 4), (4, .istore 7, 2, 6), (6, .iload 7, 2, 8), (8, .bipush 20, 2, 10), (10, .if_icmp .ge 34, 3, 13), (13, .iload 6, 2, 15), (15, .iload_n 1, 1, 16), (16, .iload_n 2, 1, 17), (17, .iload_n 3, 1, 18), (18, .iload 4, 2, 20), (20, .iload 5, 2, 22), (22, .iload 7, 2, 24), (24, .invokestatic 82, 3, 27), (27, .ifCond .eq 7, 3, 30), (30, .iconst 1, 1, 31), (31, .goto 4, 3, 34), (34, .iconst 0, 1, 35), (35, .iadd, 1, 36), (36, .istore 6, 2, 38), (38, .iinc 7 1, 3, 41), (41, .goto (-35), 3, 44), (44, .aload_n 0, 1, 45), (45, .getfield 86, 3, 48), (48, .iload 6, 2, 50), (50, .iadd, 1, 51), (51, .sipush 240, 3, 54), (54, .if_icmp .le 5, 3, 57), (57, .iconst (-1), 1, 58), (58, .ireturn, 1, 59), (59, .iconst 0, 1, 60), (60, .istore 7, 2, 62), (62, .iload 7, 2, 64), (64, .bipush 20, 2, 66), (66, .if_icmp .ge 49, 3, 69), (69, .iload_n 1, 1, 70), (70, .iload_n 2, 1, 71), (71, .iload_n 3, 1, 72), (72, .iload 4, 2, 74), (74, .iload 5, 2, 76), (76, .iload 7, 2, 78), (78, .invokestatic 82, 3, 81), (81, .istore 8, 2, 83), (83, .iload 8, 2, 85), (85, .ifCond .eq 24, 3, 88), (88, .aload_n 0, 1, 89), (89, .getfield 9, 3, 92), (92, .aload_n 0, 1, 93), (93, .getfield 86, 3, 96), (96, .iload 8, 2, 98), (98, .iastore, 1, 99), (99, .aload_n 0, 1, 100), (100, .dup, 1, 101), (101, .getfield 86, 3, 104), (104, .iconst 1, 1, 105), (105, .iadd, 1, 106), (106, .putfield 86, 3, 109), (109, .iinc 7 1, 3, 112), (112, .goto (-50), 3, 115), (115, .aload_n 0, 1, 116), (116, .getfield 86, 3, 119), (119, .ireturn, 1, 120)]
theorem ktX12_feed : TbOK mX12_feed tX12_feed := by
  unfold TbOK
  decide +kernel
theorem kdX12_feed (k : Nat) {pc : Nat} {i : Instr} {len nx : Nat} (hk : tX12_feed[k]? = some (pc, i, len, nx)) : Dc mX12_feed pc i len nx := dc_of ktX12_feed k hk
theorem iX12_feed : MiV mX12_feed := ⟨⟨gdw_of (i := 1553) (by decide +kernel) (by decide +kernel), gdw_of (i := 124) (by decide +kernel) (by decide +kernel), by decide, by decide, by decide⟩, gdw_of (i := 1551) (by decide +kernel) (by decide +kernel), gdw_of (i := 1552) (by decide +kernel) (by decide +kernel)⟩
abbrev mX12_end : hMt := (yX12_end, cX12_end, 2, some .boolean)
def tX12_end : hTb := [(0, .iload_n 1, 1, 1), (1, .iconst 0, 1, 2), (2, .aload_n 0, 1, 3), (3, .getfield 86, 3, 6), (6, .invokestatic 89, 3, 9), (9, .ifCond .ne 5, 3, 12), (12, .iconst 0, 1, 13), (13, .ireturn, 1, 14), (14, .aload_n 0, 1, 15), (15, .iload_n 1, 1, 16), (16, .putfield 86, 3, 19), (19, .iconst 1, 1, 20), (20, .ireturn, 1, 21)]
theorem ktX12_end : TbOK mX12_end tX12_end := by
  unfold TbOK
  decide +kernel
theorem kdX12_end (k : Nat) {pc : Nat} {i : Instr} {len nx : Nat} (hk : tX12_end[k]? = some (pc, i, len, nx)) : Dc mX12_end pc i len nx := dc_of ktX12_end k hk
theorem iX12_end : MiV mX12_end := ⟨⟨gdw_of (i := 1560) (by decide +kernel) (by decide +kernel), gdw_of (i := 124) (by decide +kernel) (by decide +kernel), by decide, by decide, by decide⟩, gdw_of (i := 1558) (by decide +kernel) (by decide +kernel), gdw_of (i := 1559) (by decide +kernel) (by decide +kernel)⟩
abbrev mX12_here : hMt := (yX12_here, cX12_here, 1, some .int)
def tX12_here : hTb := [(0, .aload_n 0, 1, 1), (1, .getfield 93, 3, 4), (4, .aload_n 0, 1, 5), (5, .getfield 86, 3, 8), (8, .if_icmp .ge 15, 3, 11), (11, .aload_n 0, 1, 12), (12, .getfield 9, 3, 15), (15, .aload_n 0, 1, 16), (16, .getfield 93, 3, 19), (19, .iaload, 1, 20), (20, .goto 4, 3, 23), (23, .iconst (-1), 1, 24), (24, .ireturn, 1, 25)]
theorem ktX12_here : TbOK mX12_here tX12_here := by
  unfold TbOK
  decide +kernel
theorem kdX12_here (k : Nat) {pc : Nat} {i : Instr} {len nx : Nat} (hk : tX12_here[k]? = some (pc, i, len, nx)) : Dc mX12_here pc i len nx := dc_of ktX12_here k hk
theorem iX12_here : MiV mX12_here := ⟨⟨gdw_of (i := 1582) (by decide +kernel) (by decide +kernel), gdw_of (i := 124) (by decide +kernel) (by decide +kernel), by decide, by decide, by decide⟩, gdw_of (i := 1581) (by decide +kernel) (by decide +kernel), gdw_of (i := 59) (by decide +kernel) (by decide +kernel)⟩
abbrev mX12_isDigit : hMt := (yX12_isDigit, cX12_isDigit, 1, some .boolean)
def tX12_isDigit : hTb := [(0, .iload_n 0, 1, 1), (1, .bipush 48, 2, 3), (3, .if_icmp .lt 13, 3, 6), (6, .iload_n 0, 1, 7), (7, .bipush 57, 2, 9), (9, .if_icmp .gt 7, 3, 12), (12, .iconst 1, 1, 13), (13, .goto 4, 3, 16), (16, .iconst 0, 1, 17), (17, .ireturn, 1, 18)]
theorem ktX12_isDigit : TbOK mX12_isDigit tX12_isDigit := by
  unfold TbOK
  decide +kernel
theorem kdX12_isDigit (k : Nat) {pc : Nat} {i : Instr} {len nx : Nat} (hk : tX12_isDigit[k]? = some (pc, i, len, nx)) : Dc mX12_isDigit pc i len nx := dc_of ktX12_isDigit k hk
theorem iX12_isDigit : MiS mX12_isDigit := ⟨⟨gdw_of (i := 1594) (by decide +kernel) (by decide +kernel), gdw_of (i := 124) (by decide +kernel) (by decide +kernel), by decide, by decide, by decide⟩, gdw_of (i := 1593) (by decide +kernel) (by decide +kernel)⟩
abbrev mX12_isLetter : hMt := (yX12_isLetter, cX12_isLetter, 1, some .boolean)
def tX12_isLetter : hTb := [(0, .iload_n 0, 1, 1), (1, .bipush 97, 2, 3), (3, .if_icmp .lt 13, 3, 6), (6, .iload_n 0, 1, 7), (7, .bipush 122, 2, 9), (9, .if_icmp .gt 7, 3, 12), (12, .iconst 1, 1, 13), (13, .goto 4, 3, 16), (16, .iconst 0, 1, 17), (17, .ireturn, 1, 18)]
theorem ktX12_isLetter : TbOK mX12_isLetter tX12_isLetter := by
  unfold TbOK
  decide +kernel
theorem kdX12_isLetter (k : Nat) {pc : Nat} {i : Instr} {len nx : Nat} (hk : tX12_isLetter[k]? = some (pc, i, len, nx)) : Dc mX12_isLetter pc i len nx := dc_of ktX12_isLetter k hk
theorem iX12_isLetter : MiS mX12_isLetter := ⟨⟨gdw_of (i := 1585) (by decide +kernel) (by decide +kernel), gdw_of (i := 124) (by decide +kernel) (by decide +kernel), by decide, by decide, by decide⟩, gdw_of (i := 1584) (by decide +kernel) (by decide +kernel)⟩
abbrev mX12_nextWord : hMt := (yX12_nextWord, cX12_nextWord, 2, none)
def tX12_nextWord : hTb := [(0, .aload_n 0, 1, 1), (1, .iconst 1, 1, 2), (2, .putfield 96, 3, 5), (5, .aload_n 0, 1, 6), (6, .lconst 0, 1, 7), (7, .putfield 99, 3, 10), (10, .iconst 0, 1, 11), (11, .istore_n 1, 1, 12), (12, .aload_n 0, 1, 13), (13, .invokevirtual 103, 3, 16), (16, .invokestatic 107, 3, 19), (19, .ifCond .eq 61, 3, 22), (22, .aload_n 0, 1, 23), (23, .ldc2_w 111, 3, 26), (26, .aload_n 0, 1, 27), (27, .getfield 99, 3, 30), (30, .lmul, 1, 31), (31, .aload_n 0, 1, 32), (32, .invokevirtual 103, 3, 35), (35, .i2l, 1, 36), (36, .ladd, 1, 37), (37, .ldc2_w 113, 3, 40), (40, .lsub, 1, 41), (41, .lconst 1, 1, 42), (42, .ladd, 1, 43), (43, .putfield 99, 3, 46), (46, .iinc 1 1, 3, 49), (49, .aload_n 0, 1, 50), (50, .iload_n 1, 1, 51), (51, .bipush 6, 2, 53), (53, .if_icmp .le 7, 3, 56), (56, .lconst 0, 1, 57), (57, .goto 7, 3, 60), (60, .aload_n 0, 1, 61), (61, .getfield 99, 3, 64), (64, .putfield 99, 3, 67), (67, .aload_n 0, 1, 68), (68, .dup, 1, 69), (69, .getfield 93, 3, 72), (72, .iconst 1, 1, 73), (73, .iadd, 1, 74), (74, .putfield 93, 3, 77), (77, .goto (-65), 3, 80), (80, .aload_n 0, 1, 81), (81, .iload_n 1, 1, 82), (82, .bipush 6, 2, 84), (84, .if_icmp .le 7, 3, 87), (87, .lconst 0, 1, 88), (88, .goto 7, 3, 91), (91, .aload_n 0, 1, 92), (92, .getfield 99, 3, 95), (95, .putfield 99, 3, 98), (98, .return_, 1, 99)]
theorem ktX12_nextWord : TbOK mX12_nextWord tX12_nextWord := by
  unfold TbOK
  decide +kernel
theorem kdX12_nextWord (k : Nat) {pc : Nat} {i : Instr} {len nx : Nat} (hk : tX12_nextWord[k]? = some (pc, i, len, nx)) : Dc mX12_nextWord pc i len nx := dc_of ktX12_nextWord k hk
theorem iX12_nextWord : MiV mX12_nextWord := ⟨⟨gdw_of (i := 1589) (by decide +kernel) (by decide +kernel), gdw_of (i := 124) (by decide +kernel) (by decide +kernel), by decide, by decide, by decide⟩, gdw_of (i := 1588) (by decide +kernel) (by decide +kernel), gdw_of (i := 60) (by decide +kernel) (by decide +kernel)⟩
abbrev mX12_nextNumber : hMt := (yX12_nextNumber, cX12_nextNumber, 3, none)
def tX12_nextNumber : hTb := [(0, .aload_n 0, 1, 1), (1, .iconst 2, 1, 2), (2, .putfield 96, 3, 5), (5, .iconst 0, 1, 6), (6, .istore_n 2, 1, 7), (7, .aload_n 0, 1, 8), (8, .invokevirtual 103, 3, 11), (11, .invokestatic 115, 3, 14), (14, .ifCond .eq 40, 3, 17), (17, .iload_n 2, 1, 18), (18, .ldc 118, 2, 20), (20, .if_icmp .lt 8, 3, 23), (23, .ldc 118, 2, 25), (25, .goto 15, 3, 28), (28, .bipush 10, 2, 30), (30, .iload_n 2, 1, 31), (31, .imul, 1, 32), (32, .aload_n 0, 1, 33), (33, .invokevirtual 103, 3, 36), (36, .iadd, 1, 37), (37, .bipush 48, 2, 39), (39, .isub, 1, 40), (40, .istore_n 2, 1, 41), (41, .aload_n 0, 1, 42), (42, .dup, 1, 43), (43, .getfield 93, 3, 46), (46, .iconst 1, 1, 47), (47, .iadd, 1, 48), (48, .putfield 93, 3, 51), (51, .goto (-44), 3, 54), (54, .aload_n 0, 1, 55), (55, .iload_n 1, 1, 56), (56, .ifCond .eq 8, 3, 59), (59, .iload_n 2, 1, 60), (60, .ineg, 1, 61), (61, .goto 4, 3, 64), (64, .iload_n 2, 1, 65), (65, .putfield 119, 3, 68), (68, .return_, 1, 69)]
theorem ktX12_nextNumber : TbOK mX12_nextNumber tX12_nextNumber := by
  unfold TbOK
  decide +kernel
theorem kdX12_nextNumber (k : Nat) {pc : Nat} {i : Instr} {len nx : Nat} (hk : tX12_nextNumber[k]? = some (pc, i, len, nx)) : Dc mX12_nextNumber pc i len nx := dc_of ktX12_nextNumber k hk
theorem iX12_nextNumber : MiV mX12_nextNumber := ⟨⟨gdw_of (i := 1598) (by decide +kernel) (by decide +kernel), gdw_of (i := 124) (by decide +kernel) (by decide +kernel), by decide, by decide, by decide⟩, gdw_of (i := 1597) (by decide +kernel) (by decide +kernel), gdw_of (i := 61) (by decide +kernel) (by decide +kernel)⟩
abbrev mX12_next : hMt := (yX12_next, cX12_next, 2, none)
def tX12_next : hTb := [(0, .aload_n 0, 1, 1), (1, .invokevirtual 103, 3, 4), (4, .bipush 32, 2, 6), (6, .if_icmp .ne 16, 3, 9), (9, .aload_n 0, 1, 10), (10, .dup, 1, 11), (11, .getfield 93, 3, 14), (14, .iconst 1, 1, 15), (15, .iadd, 1, 16), (16, .putfield 93, 3, 19), (19, .goto (-19), 3, 22), (22, .aload_n 0, 1, 23), (23, .aload_n 0, 1, 24), (24, .getfield 93, 3, 27), (27, .putfield 122, 3, 30), (30, .aload_n 0, 1, 31), (31, .invokevirtual 103, 3, 34), (34, .istore_n 1, 1, 35), (35, .iload_n 1, 1, 36), (36, .iconst (-1), 1, 37), (37, .if_icmp .ne 11, 3, 40), (40, .aload_n 0, 1, 41), (41, .iconst 0, 1, 42), (42, .putfield 96, 3, 45), (45, .goto 106, 3, 48), (48, .iload_n 1, 1, 49), (49, .invokestatic 107, 3, 52), (52, .ifCond .eq 10, 3, 55), (55, .aload_n 0, 1, 56), (56, .invokevirtual 125, 3, 59), (59, .goto 92, 3, 62), (62, .iload_n 1, 1, 63), (63, .invokestatic 115, 3, 66), (66, .ifCond .eq 11, 3, 69), (69, .aload_n 0, 1, 70), (70, .iconst 0, 1, 71), (71, .invokevirtual 128, 3, 74), (74, .goto 77, 3, 77), (77, .iload_n 1, 1, 78), (78, .bipush 45, 2, 80), (80, .if_icmp .ne 36, 3, 83), (83, .aload_n 0, 1, 84), (84, .dup, 1, 85), (85, .getfield 93, 3, 88), (88, .iconst 1, 1, 89), (89, .iadd, 1, 90), (90, .putfield 93, 3, 93), (93, .aload_n 0, 1, 94), (94, .iconst 5, 1, 95), (95, .putfield 96, 3, 98), (98, .aload_n 0, 1, 99), (99, .invokevirtual 103, 3, 102), (102, .invokestatic 115, 3, 105), (105, .ifCond .eq 46, 3, 108), (108, .aload_n 0, 1, 109), (109, .iconst 1, 1, 110), (110, .invokevirtual 128, 3, 113), (113, .goto 38, 3, 116), (116, .aload_n 0, 1, 117), (117, .dup, 1, 118), (118, .getfield 93, 3, 121), (121, .iconst 1, 1, 122), (122, .iadd, 1, 123), (123, .putfield 93, 3, 126), (126, .aload_n 0, 1, 127), (127, .iload_n 1, 1, 128), (128, .bipush 59, 2, 130), (130, .if_icmp .ne 7, 3, 133), (133, .iconst 3, 1, 134), (134, .goto 14, 3, 137), (137, .iload_n 1, 1, 138), (138, .bipush 44, 2, 140), (140, .if_icmp .ne 7, 3, 143), (143, .iconst 4, 1, 144), (144, .goto 4, 3, 147), (147, .iconst 5, 1, 148), (148, .putfield 96, 3, 151), (151, .return_, 1, 152)]
theorem ktX12_next : TbOK mX12_next tX12_next := by
  unfold TbOK
  decide +kernel
theorem kdX12_next (k : Nat) {pc : Nat} {i : Instr} {len nx : Nat} (hk : tX12_next[k]? = some (pc, i, len, nx)) : Dc mX12_next pc i len nx := dc_of ktX12_next k hk
theorem iX12_next : MiV mX12_next := ⟨⟨gdw_of (i := 1578) (by decide +kernel) (by decide +kernel), gdw_of (i := 124) (by decide +kernel) (by decide +kernel), by decide, by decide, by decide⟩, gdw_of (i := 1577) (by decide +kernel) (by decide +kernel), gdw_of (i := 58) (by decide +kernel) (by decide +kernel)⟩
abbrev mX12_bad : hMt := (yX12_bad, cX12_bad, 1, none)
def tX12_bad : hTb := [(0, .aload_n 0, 1, 1), (1, .aload_n 0, 1, 2), (2, .getfield 132, 3, 5), (5, .iconst (-1), 1, 6), (6, .if_icmp .ne 10, 3, 9), (9, .aload_n 0, 1, 10), (10, .getfield 122, 3, 13), (13, .goto 7, 3, 16), (16, .aload_n 0, 1, 17), (17, .getfield 132, 3, 20), (20, .putfield 132, 3, 23), (23, .return_, 1, 24)]
theorem ktX12_bad : TbOK mX12_bad tX12_bad := by
  unfold TbOK
  decide +kernel
theorem kdX12_bad (k : Nat) {pc : Nat} {i : Instr} {len nx : Nat} (hk : tX12_bad[k]? = some (pc, i, len, nx)) : Dc mX12_bad pc i len nx := dc_of ktX12_bad k hk
theorem iX12_bad : MiV mX12_bad := ⟨⟨gdw_of (i := 1624) (by decide +kernel) (by decide +kernel), gdw_of (i := 124) (by decide +kernel) (by decide +kernel), by decide, by decide, by decide⟩, gdw_of (i := 1623) (by decide +kernel) (by decide +kernel), gdw_of (i := 63) (by decide +kernel) (by decide +kernel)⟩
abbrev mX12_word : hMt := (yX12_word, cX12_word, 7, some .long)
def tX12_word : hTb := [(0, .ldc2_w 111, 3, 3), (3, .iload_n 0, 1, 4), (4, .bipush 96, 2, 6), (6, .isub, 1, 7), (7, .i2l, 1, 8), (8, .lmul, 1, 9), (9, .iload_n 1, 1, 10), (10, .i2l, 1, 11), (11, .ladd, 1, 12), (12, .ldc2_w 135, 3, 15), (15, .lsub, 1, 16), (16, .lstore 5, 2, 18), (18, .ldc2_w 111, 3, 21), (21, .lload 5, 2, 23), (23, .lmul, 1, 24), (24, .iload_n 2, 1, 25), (25, .i2l, 1, 26), (26, .ladd, 1, 27), (27, .ldc2_w 135, 3, 30), (30, .lsub, 1, 31), (31, .lstore 5, 2, 33), (33, .ldc2_w 111, 3, 36), (36, .lload 5, 2, 38), (38, .lmul, 1, 39), (39, .iload_n 3, 1, 40), (40, .i2l, 1, 41), (41, .ladd, 1, 42), (42, .ldc2_w 135, 3, 45), (45, .lsub, 1, 46), (46, .lstore 5, 2, 48), (48, .iload 4, 2, 50), (50, .ifCond .ne 8, 3, 53), (53, .lload 5, 2, 55), (55, .goto 17, 3, 58), (58, .ldc2_w 111, 3, 61), (61, .lload 5, 2, 63), (63, .lmul, 1, 64), (64, .iload 4, 2, 66), (66, .i2l, 1, 67), (67, .ladd, 1, 68), (68, .ldc2_w 135, 3, 71), (71, .lsub, 1, 72), (72, .lreturn, 1, 73)]
theorem ktX12_word : TbOK mX12_word tX12_word := by
  unfold TbOK
  decide +kernel
theorem kdX12_word (k : Nat) {pc : Nat} {i : Instr} {len nx : Nat} (hk : tX12_word[k]? = some (pc, i, len, nx)) : Dc mX12_word pc i len nx := dc_of ktX12_word k hk
theorem iX12_word : MiS mX12_word := ⟨⟨gdw_of (i := 1609) (by decide +kernel) (by decide +kernel), gdw_of (i := 124) (by decide +kernel) (by decide +kernel), by decide, by decide, by decide⟩, gdw_of (i := 1608) (by decide +kernel) (by decide +kernel)⟩
abbrev mX12_shortWord : hMt := (yX12_shortWord, cX12_shortWord, 3, some .long)
def tX12_shortWord : hTb := [(0, .ldc2_w 137, 3, 3), (3, .iload_n 0, 1, 4), (4, .bipush 96, 2, 6), (6, .isub, 1, 7), (7, .i2l, 1, 8), (8, .lmul, 1, 9), (9, .ldc2_w 111, 3, 12), (12, .iload_n 1, 1, 13), (13, .bipush 96, 2, 15), (15, .isub, 1, 16), (16, .i2l, 1, 17), (17, .lmul, 1, 18), (18, .ladd, 1, 19), (19, .iload_n 2, 1, 20), (20, .i2l, 1, 21), (21, .ladd, 1, 22), (22, .ldc2_w 135, 3, 25), (25, .lsub, 1, 26), (26, .lreturn, 1, 27)]
theorem ktX12_shortWord : TbOK mX12_shortWord tX12_shortWord := by
  unfold TbOK
  decide +kernel
theorem kdX12_shortWord (k : Nat) {pc : Nat} {i : Instr} {len nx : Nat} (hk : tX12_shortWord[k]? = some (pc, i, len, nx)) : Dc mX12_shortWord pc i len nx := dc_of ktX12_shortWord k hk
theorem iX12_shortWord : MiS mX12_shortWord := ⟨⟨gdw_of (i := 1613) (by decide +kernel) (by decide +kernel), gdw_of (i := 124) (by decide +kernel) (by decide +kernel), by decide, by decide, by decide⟩, gdw_of (i := 1612) (by decide +kernel) (by decide +kernel)⟩
abbrev mX12_lineWord : hMt := (yX12_lineWord, cX12_lineWord, 1, some .long)
def tX12_lineWord : hTb := [(0, .iload_n 0, 1, 1), (1, .tableswitch 226 0 11 #[63, 77, 90, 103, 117, 131, 144, 158, 172, 186, 199, 213], 63, 64), (64, .bipush 112, 2, 66), (66, .bipush 117, 2, 68), (68, .bipush 108, 2, 70), (70, .bipush 115, 2, 72), (72, .bipush 101, 2, 74), (74, .invokestatic 139, 3, 77), (77, .lreturn, 1, 78), (78, .bipush 102, 2, 80), (80, .bipush 111, 2, 82), (82, .bipush 114, 2, 84), (84, .bipush 101, 2, 86), (86, .iconst 0, 1, 87), (87, .invokestatic 139, 3, 90), (90, .lreturn, 1, 91), (91, .bipush 98, 2, 93), (93, .bipush 97, 2, 95), (95, .bipush 99, 2, 97), (97, .bipush 107, 2, 99), (99, .iconst 0, 1, 100), (100, .invokestatic 139, 3, 103), (103, .lreturn, 1, 104), (104, .bipush 100, 2, 106), (106, .bipush 101, 2, 108), (108, .bipush 108, 2, 110), (110, .bipush 97, 2, 112), (112, .bipush 121, 2, 114), (114, .invokestatic 139, 3, 117), (117, .lreturn, 1, 118), (118, .bipush 108, 2, 120), (120, .bipush 101, 2, 122), (122, .bipush 118, 2, 124), (124, .bipush 101, 2, 126), (126, .bipush 108, 2, 128), (128, .invokestatic 139, 3, 131), (131, .lreturn, 1, 132), (132, .bipush 103, 2, 134), (134, .bipush 101, 2, 136), (136, .bipush 97, 2, 138), (138, .bipush 114, 2, 140), (140, .iconst 0, 1, 141), (141, .invokestatic 139, 3, 144), (144, .lreturn, 1, 145), (145, .bipush 102, 2, 147), (147, .bipush 108, 2, 149), (149, .bipush 111, 2, 151), (151, .bipush 111, 2, 153), (153, .bipush 114, 2, 155), (155, .invokestatic 139, 3, 158), (158, .lreturn, 1, 159), (159, .bipush 110, 2, 161), (161, .bipush 111, 2, 163), (163, .bipush 105, 2, 165), (165, .bipush 115, 2, 167), (167, .bipush 101, 2, 169), (169, .invokestatic 139, 3, 172), (172, .lreturn, 1, 173), (173, .bipush 116, 2, 175), (175, .bipush 114, 2, 177), (177, .bipush 97, 2, 179), (179, .bipush 105, 2, 181), (181, .bipush 110, 2, 183), (183, .invokestatic 139, 3, 186), (186, .lreturn, 1, 187), (187, .bipush 115, 2, 189), (189, .bipush 101, 2, 191), (191, .bipush 101, 2, 193), (193, .bipush 100, 2, 195), (195, .iconst 0, 1, 196), (196, .invokestatic 139, 3, 199), (199, .lreturn, 1, 200), (200, .bipush 116, 2, 202), (202, .bipush 114, 2, 204), (204, .bipush 97, 2, 206), (206, .bipush 99, 2, 208), (208, .bipush 107, 2, 210), (210, .invokestatic 139, 3, 213), (213, .lreturn, 1, 214), (214, .bipush 108, 2, 216), (216, .bipush 111, 2, 218), (218, .bipush 99, 2, 220), (220, .bipush 107, 2, 222), (222, .iconst 0, 1, 223), (223, .invokestatic 139, 3, 226), (226, .lreturn, 1, 227), (227, .bipush 119, 2, 229), (229, .bipush 111, 2, 231), (231, .bipush 114, 2, 233), (233, .bipush 100, 2, 235), (235, .iconst 0, 1, 236), (236, .invokestatic 139, 3, 239), (239, .lreturn, 1, 240)]
theorem ktX12_lineWord : TbOK mX12_lineWord tX12_lineWord := by
  unfold TbOK
  decide +kernel
theorem kdX12_lineWord (k : Nat) {pc : Nat} {i : Instr} {len nx : Nat} (hk : tX12_lineWord[k]? = some (pc, i, len, nx)) : Dc mX12_lineWord pc i len nx := dc_of ktX12_lineWord k hk
theorem iX12_lineWord : MiS mX12_lineWord := ⟨⟨gdw_of (i := 1617) (by decide +kernel) (by decide +kernel), gdw_of (i := 124) (by decide +kernel) (by decide +kernel), by decide, by decide, by decide⟩, gdw_of (i := 1616) (by decide +kernel) (by decide +kernel)⟩
abbrev mX12_stepWord : hMt := (yX12_stepWord, cX12_stepWord, 1, some .long)
def tX12_stepWord : hTb := [(0, .iload_n 0, 1, 1), (1, .tableswitch 134 0 6 #[43, 56, 70, 83, 93, 106, 120], 43, 44), (44, .bipush 115, 2, 46), (46, .bipush 101, 2, 48), (48, .bipush 110, 2, 50), (50, .bipush 100, 2, 52), (52, .iconst 0, 1, 53), (53, .invokestatic 139, 3, 56), (56, .lreturn, 1, 57), (57, .bipush 112, 2, 59), (59, .bipush 104, 2, 61), (61, .bipush 97, 2, 63), (63, .bipush 115, 2, 65), (65, .bipush 101, 2, 67), (67, .invokestatic 139, 3, 70), (70, .lreturn, 1, 71), (71, .bipush 104, 2, 73), (73, .bipush 111, 2, 75), (75, .bipush 108, 2, 77), (77, .bipush 100, 2, 79), (79, .iconst 0, 1, 80), (80, .invokestatic 139, 3, 83), (83, .lreturn, 1, 84), (84, .bipush 116, 2, 86), (86, .bipush 97, 2, 88), (88, .bipush 112, 2, 90), (90, .invokestatic 143, 3, 93), (93, .lreturn, 1, 94), (94, .bipush 100, 2, 96), (96, .bipush 114, 2, 98), (98, .bipush 111, 2, 100), (100, .bipush 112, 2, 102), (102, .iconst 0, 1, 103), (103, .invokestatic 139, 3, 106), (106, .lreturn, 1, 107), (107, .bipush 110, 2, 109), (109, .bipush 111, 2, 111), (111, .bipush 105, 2, 113), (113, .bipush 115, 2, 115), (115, .bipush 101, 2, 117), (117, .invokestatic 139, 3, 120), (120, .lreturn, 1, 121), (121, .bipush 116, 2, 123), (123, .bipush 114, 2, 125), (125, .bipush 97, 2, 127), (127, .bipush 105, 2, 129), (129, .bipush 110, 2, 131), (131, .invokestatic 139, 3, 134), (134, .lreturn, 1, 135), (135, .bipush 115, 2, 137), (137, .bipush 101, 2, 139), (139, .bipush 101, 2, 141), (141, .bipush 107, 2, 143), (143, .iconst 0, 1, 144), (144, .invokestatic 139, 3, 147), (147, .lreturn, 1, 148)]
theorem ktX12_stepWord : TbOK mX12_stepWord tX12_stepWord := by
  unfold TbOK
  decide +kernel
theorem kdX12_stepWord (k : Nat) {pc : Nat} {i : Instr} {len nx : Nat} (hk : tX12_stepWord[k]? = some (pc, i, len, nx)) : Dc mX12_stepWord pc i len nx := dc_of ktX12_stepWord k hk
theorem iX12_stepWord : MiS mX12_stepWord := ⟨⟨gdw_of (i := 1606) (by decide +kernel) (by decide +kernel), gdw_of (i := 124) (by decide +kernel) (by decide +kernel), by decide, by decide, by decide⟩, gdw_of (i := 1605) (by decide +kernel) (by decide +kernel)⟩
abbrev mX12_lowest : hMt := (yX12_lowest, cX12_lowest, 1, some .int)
def tX12_lowest : hTb := [(0, .iload_n 0, 1, 1), (1, .tableswitch 60 0 9 #[55, 58, 60, 60, 58, 58, 60, 60, 60, 58], 55, 56), (56, .bipush (-60), 2, 58), (58, .ireturn, 1, 59), (59, .iconst 1, 1, 60), (60, .ireturn, 1, 61), (61, .iconst 0, 1, 62), (62, .ireturn, 1, 63)]
theorem ktX12_lowest : TbOK mX12_lowest tX12_lowest := by
  unfold TbOK
  decide +kernel
theorem kdX12_lowest (k : Nat) {pc : Nat} {i : Instr} {len nx : Nat} (hk : tX12_lowest[k]? = some (pc, i, len, nx)) : Dc mX12_lowest pc i len nx := dc_of ktX12_lowest k hk
theorem iX12_lowest : MiS mX12_lowest := ⟨⟨gdw_of (i := 1635) (by decide +kernel) (by decide +kernel), gdw_of (i := 124) (by decide +kernel) (by decide +kernel), by decide, by decide, by decide⟩, gdw_of (i := 1634) (by decide +kernel) (by decide +kernel)⟩
abbrev mX12_highest : hMt := (yX12_highest, cX12_highest, 1, some .int)
def tX12_highest : hTb := [(0, .iload_n 0, 1, 1), (1, .tableswitch 81 0 11 #[63, 66, 66, 68, 70, 73, 63, 76, 70, 78, 81, 73], 63, 64), (64, .bipush 60, 2, 66), (66, .ireturn, 1, 67), (67, .iconst 3, 1, 68), (68, .ireturn, 1, 69), (69, .iconst 2, 1, 70), (70, .ireturn, 1, 71), (71, .bipush 99, 2, 73), (73, .ireturn, 1, 74), (74, .bipush 9, 2, 76), (76, .ireturn, 1, 77), (77, .iconst 4, 1, 78), (78, .ireturn, 1, 79), (79, .bipush 127, 2, 81), (81, .ireturn, 1, 82), (82, .iconst 1, 1, 83), (83, .ireturn, 1, 84)]
theorem ktX12_highest : TbOK mX12_highest tX12_highest := by
  unfold TbOK
  decide +kernel
theorem kdX12_highest (k : Nat) {pc : Nat} {i : Instr} {len nx : Nat} (hk : tX12_highest[k]? = some (pc, i, len, nx)) : Dc mX12_highest pc i len nx := dc_of ktX12_highest k hk
theorem iX12_highest : MiS mX12_highest := ⟨⟨gdw_of (i := 1638) (by decide +kernel) (by decide +kernel), gdw_of (i := 124) (by decide +kernel) (by decide +kernel), by decide, by decide, by decide⟩, gdw_of (i := 1637) (by decide +kernel) (by decide +kernel)⟩
abbrev mX12_usual : hMt := (yX12_usual, cX12_usual, 1, some .int)
def tX12_usual : hTb := [(0, .iload_n 0, 1, 1), (1, .tableswitch 60 1 9 #[51, 51, 60, 53, 56, 58, 60, 60, 56], 51, 52), (52, .iconst 2, 1, 53), (53, .ireturn, 1, 54), (54, .bipush 40, 2, 56), (56, .ireturn, 1, 57), (57, .iconst 1, 1, 58), (58, .ireturn, 1, 59), (59, .iconst 4, 1, 60), (60, .ireturn, 1, 61), (61, .iconst 0, 1, 62), (62, .ireturn, 1, 63)]
theorem ktX12_usual : TbOK mX12_usual tX12_usual := by
  unfold TbOK
  decide +kernel
theorem kdX12_usual (k : Nat) {pc : Nat} {i : Instr} {len nx : Nat} (hk : tX12_usual[k]? = some (pc, i, len, nx)) : Dc mX12_usual pc i len nx := dc_of ktX12_usual k hk
theorem iX12_usual : MiS mX12_usual := ⟨⟨gdw_of (i := 1574) (by decide +kernel) (by decide +kernel), gdw_of (i := 124) (by decide +kernel) (by decide +kernel), by decide, by decide, by decide⟩, gdw_of (i := 1573) (by decide +kernel) (by decide +kernel)⟩
abbrev mX12_wordAsked : hMt := (yX12_wordAsked, cX12_wordAsked, 4, some .int)
def tX12_wordAsked : hTb := [(0, .iload_n 1, 1, 1), (1, .ifCond .eq 8, 3, 4), (4, .bipush 8, 2, 6), (6, .goto 5, 3, 9), (9, .bipush 13, 2, 11), (11, .istore_n 2, 1, 12), (12, .iconst 0, 1, 13), (13, .istore_n 3, 1, 14), (14, .iload_n 3, 1, 15), (15, .iload_n 2, 1, 16), (16, .if_icmp .ge 42, 3, 19), (19, .aload_n 0, 1, 20), (20, .getfield 96, 3, 23), (23, .iconst 1, 1, 24), (24, .if_icmp .ne 28, 3, 27), (27, .aload_n 0, 1, 28), (28, .getfield 99, 3, 31), (31, .iload_n 1, 1, 32), (32, .ifCond .eq 10, 3, 35), (35, .iload_n 3, 1, 36), (36, .invokestatic 147, 3, 39), (39, .goto 7, 3, 42), (42, .iload_n 3, 1, 43), (43, .invokestatic 151, 3, 46), (46, .lcmp, 1, 47), (47, .ifCond .ne 5, 3, 50), (50, .iload_n 3, 1, 51), (51, .ireturn, 1, 52), (52, .iinc 3 1, 3, 55), (55, .goto (-41), 3, 58), (58, .iconst (-1), 1, 59), (59, .ireturn, 1, 60)]
theorem ktX12_wordAsked : TbOK mX12_wordAsked tX12_wordAsked := by
  unfold TbOK
  decide +kernel
theorem kdX12_wordAsked (k : Nat) {pc : Nat} {i : Instr} {len nx : Nat} (hk : tX12_wordAsked[k]? = some (pc, i, len, nx)) : Dc mX12_wordAsked pc i len nx := dc_of ktX12_wordAsked k hk
theorem iX12_wordAsked : MiV mX12_wordAsked := ⟨⟨gdw_of (i := 1603) (by decide +kernel) (by decide +kernel), gdw_of (i := 124) (by decide +kernel) (by decide +kernel), by decide, by decide, by decide⟩, gdw_of (i := 1602) (by decide +kernel) (by decide +kernel), gdw_of (i := 62) (by decide +kernel) (by decide +kernel)⟩
abbrev mX12_manyNumbers : hMt := (yX12_manyNumbers, cX12_manyNumbers, 5, some .int)
def tX12_manyNumbers : hTb := [(0, .iconst 0, 1, 1), (1, .istore_n 3, 1, 2), (2, .iconst 1, 1, 3), (3, .istore 4, 2, 5), (5, .iload 4, 2, 7), (7, .ifCond .eq 77, 3, 10), (10, .aload_n 0, 1, 11), (11, .invokevirtual 154, 3, 14), (14, .aload_n 0, 1, 15), (15, .getfield 96, 3, 18), (18, .iconst 2, 1, 19), (19, .if_icmp .ne 21, 3, 22), (22, .aload_n 0, 1, 23), (23, .getfield 119, 3, 26), (26, .iload_n 1, 1, 27), (27, .invokestatic 157, 3, 30), (30, .iload_n 1, 1, 31), (31, .invokestatic 161, 3, 34), (34, .invokestatic 89, 3, 37), (37, .ifCond .ne 9, 3, 40), (40, .aload_n 0, 1, 41), (41, .invokevirtual 164, 3, 44), (44, .iload_n 3, 1, 45), (45, .ireturn, 1, 46), (46, .aload_n 2, 1, 47), (47, .iload_n 3, 1, 48), (48, .aload_n 0, 1, 49), (49, .getfield 119, 3, 52), (52, .iastore, 1, 53), (53, .iinc 3 1, 3, 56), (56, .aload_n 0, 1, 57), (57, .invokevirtual 154, 3, 60), (60, .aload_n 0, 1, 61), (61, .getfield 96, 3, 64), (64, .iconst 4, 1, 65), (65, .if_icmp .ne 13, 3, 68), (68, .iload_n 3, 1, 69), (69, .bipush 16, 2, 71), (71, .if_icmp .ge 7, 3, 74), (74, .iconst 1, 1, 75), (75, .goto 4, 3, 78), (78, .iconst 0, 1, 79), (79, .istore 4, 2, 81), (81, .goto (-76), 3, 84), (84, .iload_n 3, 1, 85), (85, .ireturn, 1, 86)]
theorem ktX12_manyNumbers : TbOK mX12_manyNumbers tX12_manyNumbers := by
  unfold TbOK
  decide +kernel
theorem kdX12_manyNumbers (k : Nat) {pc : Nat} {i : Instr} {len nx : Nat} (hk : tX12_manyNumbers[k]? = some (pc, i, len, nx)) : Dc mX12_manyNumbers pc i len nx := dc_of ktX12_manyNumbers k hk
theorem iX12_manyNumbers : MiV mX12_manyNumbers := ⟨⟨gdw_of (i := 1632) (by decide +kernel) (by decide +kernel), gdw_of (i := 124) (by decide +kernel) (by decide +kernel), by decide, by decide, by decide⟩, gdw_of (i := 1631) (by decide +kernel) (by decide +kernel), gdw_of (i := 65) (by decide +kernel) (by decide +kernel)⟩
abbrev mX12_clause : hMt := (yX12_clause, cX12_clause, 2, none)
def tX12_clause : hTb := [(0, .iload_n 1, 1, 1), (1, .ifCond .eq 9, 3, 4), (4, .iload_n 1, 1, 5), (5, .bipush 12, 2, 7), (7, .if_icmp .ne 30, 3, 10), (10, .aload_n 0, 1, 11), (11, .getfield 13, 3, 14), (14, .iload_n 1, 1, 15), (15, .aload_n 0, 1, 16), (16, .iload_n 1, 1, 17), (17, .iload_n 1, 1, 18), (18, .ifCond .ne 10, 3, 21), (21, .aload_n 0, 1, 22), (22, .getfield 16, 3, 25), (25, .goto 7, 3, 28), (28, .aload_n 0, 1, 29), (29, .getfield 19, 3, 32), (32, .invokevirtual 167, 3, 35), (35, .iastore, 1, 36), (36, .return_, 1, 37), (37, .aload_n 0, 1, 38), (38, .invokevirtual 154, 3, 41), (41, .aload_n 0, 1, 42), (42, .getfield 96, 3, 45), (45, .iconst 2, 1, 46), (46, .if_icmp .ne 21, 3, 49), (49, .aload_n 0, 1, 50), (50, .getfield 119, 3, 53), (53, .iload_n 1, 1, 54), (54, .invokestatic 157, 3, 57), (57, .iload_n 1, 1, 58), (58, .invokestatic 161, 3, 61), (61, .invokestatic 89, 3, 64), (64, .ifCond .ne 8, 3, 67), (67, .aload_n 0, 1, 68), (68, .invokevirtual 164, 3, 71), (71, .return_, 1, 72), (72, .aload_n 0, 1, 73), (73, .getfield 13, 3, 76), (76, .iload_n 1, 1, 77), (77, .aload_n 0, 1, 78), (78, .getfield 119, 3, 81), (81, .iastore, 1, 82), (82, .aload_n 0, 1, 83), (83, .invokevirtual 154, 3, 86), (86, .return_, 1, 87)]
theorem ktX12_clause : TbOK mX12_clause tX12_clause := by
  unfold TbOK
  decide +kernel
theorem kdX12_clause (k : Nat) {pc : Nat} {i : Instr} {len nx : Nat} (hk : tX12_clause[k]? = some (pc, i, len, nx)) : Dc mX12_clause pc i len nx := dc_of ktX12_clause k hk
theorem iX12_clause : MiV mX12_clause := ⟨⟨gdw_of (i := 1628) (by decide +kernel) (by decide +kernel), gdw_of (i := 124) (by decide +kernel) (by decide +kernel), by decide, by decide, by decide⟩, gdw_of (i := 1627) (by decide +kernel) (by decide +kernel), gdw_of (i := 64) (by decide +kernel) (by decide +kernel)⟩
abbrev mX12_readLine : hMt := (yX12_readLine, cX12_readLine, 4, some .int)
def tX12_readLine : hTb := [(0, .aload_n 0, 1, 1), (1, .iconst 0, 1, 2), (2, .putfield 93, 3, 5), (5, .aload_n 0, 1, 6), (6, .iconst (-1), 1, 7), (7, .putfield 132, 3, 10), (10, .iconst 0, 1, 11), (11, .istore_n 1, 1, 12), (12, .iload_n 1, 1, 13), (13, .bipush 13, 2, 15), (15, .if_icmp .ge 19, 3, 18), (18, .aload_n 0, 1, 19), (19, .getfield 13, 3, 22), (22, .iload_n 1, 1, 23), (23, .iload_n 1, 1, 24), (24, .invokestatic 171, 3, 27), (27, .iastore, 1, 28), (28, .iinc 1 1, 3, 31), (31, .goto (-19), 3, 34), (34, .iconst 0, 1, 35), (35, .istore_n 1, 1, 36), (36, .iconst 1, 1, 37), (37, .istore_n 2, 1, 38), (38, .iload_n 2, 1, 39), (39, .ifCond .eq 77, 3, 42), (42, .aload_n 0, 1, 43), (43, .getfield 132, 3, 46), (46, .iconst (-1), 1, 47), (47, .if_icmp .ne 69, 3, 50), (50, .aload_n 0, 1, 51), (51, .invokevirtual 154, 3, 54), (54, .aload_n 0, 1, 55), (55, .iconst 0, 1, 56), (56, .invokevirtual 174, 3, 59), (59, .istore_n 3, 1, 60), (60, .iload_n 3, 1, 61), (61, .iconst (-1), 1, 62), (62, .if_icmp .eq 11, 3, 65), (65, .iload_n 1, 1, 66), (66, .iload_n 3, 1, 67), (67, .invokestatic 178, 3, 70), (70, .ifCond .eq 10, 3, 73), (73, .aload_n 0, 1, 74), (74, .invokevirtual 164, 3, 77), (77, .goto 14, 3, 80), (80, .iload_n 1, 1, 81), (81, .iconst 1, 1, 82), (82, .iload_n 3, 1, 83), (83, .ishl, 1, 84), (84, .ior, 1, 85), (85, .istore_n 1, 1, 86), (86, .aload_n 0, 1, 87), (87, .iload_n 3, 1, 88), (88, .invokevirtual 182, 3, 91), (91, .aload_n 0, 1, 92), (92, .getfield 132, 3, 95), (95, .iconst (-1), 1, 96), (96, .if_icmp .ne 15, 3, 99), (99, .aload_n 0, 1, 100), (100, .getfield 96, 3, 103), (103, .iconst 3, 1, 104), (104, .if_icmp .ne 7, 3, 107), (107, .iconst 1, 1, 108), (108, .goto 4, 3, 111), (111, .iconst 0, 1, 112), (112, .istore_n 2, 1, 113), (113, .goto (-75), 3, 116), (116, .aload_n 0, 1, 117), (117, .getfield 132, 3, 120), (120, .iconst (-1), 1, 121), (121, .if_icmp .ne 22, 3, 124), (124, .aload_n 0, 1, 125), (125, .getfield 96, 3, 128), (128, .ifCond .ne 11, 3, 131), (131, .iload_n 1, 1, 132), (132, .iconst 0, 1, 133), (133, .invokestatic 178, 3, 136), (136, .ifCond .ne 7, 3, 139), (139, .aload_n 0, 1, 140), (140, .invokevirtual 164, 3, 143), (143, .aload_n 0, 1, 144), (144, .getfield 132, 3, 147), (147, .ireturn, 1, 148)]
theorem ktX12_readLine : TbOK mX12_readLine tX12_readLine := by
  unfold TbOK
  decide +kernel
theorem kdX12_readLine (k : Nat) {pc : Nat} {i : Instr} {len nx : Nat} (hk : tX12_readLine[k]? = some (pc, i, len, nx)) : Dc mX12_readLine pc i len nx := dc_of ktX12_readLine k hk
theorem iX12_readLine : MiV mX12_readLine := ⟨⟨gdw_of (i := 1571) (by decide +kernel) (by decide +kernel), gdw_of (i := 124) (by decide +kernel) (by decide +kernel), by decide, by decide, by decide⟩, gdw_of (i := 1570) (by decide +kernel) (by decide +kernel), gdw_of (i := 57) (by decide +kernel) (by decide +kernel)⟩
abbrev mX12_stepLow : hMt := (yX12_stepLow, cX12_stepLow, 2, some .int)
def tX12_stepLow : hTb := [(0, .iload_n 0, 1, 1), (1, .ifCond .ne 7, 3, 4), (4, .iconst 1, 1, 5), (5, .goto 20, 3, 8), (8, .iload_n 0, 1, 9), (9, .iconst 3, 1, 10), (10, .if_icmp .ne 14, 3, 13), (13, .iload_n 1, 1, 14), (14, .iconst 1, 1, 15), (15, .if_icmp .ne 9, 3, 18), (18, .sipush (-255), 3, 21), (21, .goto 4, 3, 24), (24, .iconst 0, 1, 25), (25, .ireturn, 1, 26)]
theorem ktX12_stepLow : TbOK mX12_stepLow tX12_stepLow := by
  unfold TbOK
  decide +kernel
theorem kdX12_stepLow (k : Nat) {pc : Nat} {i : Instr} {len nx : Nat} (hk : tX12_stepLow[k]? = some (pc, i, len, nx)) : Dc mX12_stepLow pc i len nx := dc_of ktX12_stepLow k hk
theorem iX12_stepLow : MiS mX12_stepLow := ⟨⟨gdw_of (i := 1649) (by decide +kernel) (by decide +kernel), gdw_of (i := 124) (by decide +kernel) (by decide +kernel), by decide, by decide, by decide⟩, gdw_of (i := 1648) (by decide +kernel) (by decide +kernel)⟩
abbrev mX12_stepHigh : hMt := (yX12_stepHigh, cX12_stepHigh, 2, some .int)
def tX12_stepHigh : hTb := [(0, .iload_n 0, 1, 1), (1, .tableswitch 60 0 5 #[39, 42, 44, 46, 60, 58], 39, 40), (40, .bipush 60, 2, 42), (42, .ireturn, 1, 43), (43, .iconst 3, 1, 44), (44, .ireturn, 1, 45), (45, .iconst 1, 1, 46), (46, .ireturn, 1, 47), (47, .iload_n 1, 1, 48), (48, .ifCond .ne 7, 3, 51), (51, .iconst 5, 1, 52), (52, .goto 6, 3, 55), (55, .sipush 255, 3, 58), (58, .ireturn, 1, 59), (59, .iconst 4, 1, 60), (60, .ireturn, 1, 61), (61, .bipush 99, 2, 63), (63, .ireturn, 1, 64)]
theorem ktX12_stepHigh : TbOK mX12_stepHigh tX12_stepHigh := by
  unfold TbOK
  decide +kernel
theorem kdX12_stepHigh (k : Nat) {pc : Nat} {i : Instr} {len nx : Nat} (hk : tX12_stepHigh[k]? = some (pc, i, len, nx)) : Dc mX12_stepHigh pc i len nx := dc_of ktX12_stepHigh k hk
theorem iX12_stepHigh : MiS mX12_stepHigh := ⟨⟨gdw_of (i := 1652) (by decide +kernel) (by decide +kernel), gdw_of (i := 124) (by decide +kernel) (by decide +kernel), by decide, by decide, by decide⟩, gdw_of (i := 1651) (by decide +kernel) (by decide +kernel)⟩
abbrev mX12_stepNumbers : hMt := (yX12_stepNumbers, cX12_stepNumbers, 5, none)
def tX12_stepNumbers : hTb := [(0, .iload_n 1, 1, 1), (1, .iconst 3, 1, 2), (2, .if_icmp .ne 7, 3, 5), (5, .iconst 2, 1, 6), (6, .goto 19, 3, 9), (9, .iload_n 1, 1, 10), (10, .iconst 4, 1, 11), (11, .if_icmp .eq 9, 3, 14), (14, .iload_n 1, 1, 15), (15, .bipush 7, 2, 17), (17, .if_icmp .ne 7, 3, 20), (20, .iconst 0, 1, 21), (21, .goto 4, 3, 24), (24, .iconst 1, 1, 25), (25, .istore_n 3, 1, 26), (26, .iconst 0, 1, 27), (27, .istore 4, 2, 29), (29, .iload 4, 2, 31), (31, .iload_n 3, 1, 32), (32, .if_icmp .ge 85, 3, 35), (35, .iload 4, 2, 37), (37, .ifCond .le 16, 3, 40), (40, .aload_n 0, 1, 41), (41, .getfield 96, 3, 44), (44, .iconst 4, 1, 45), (45, .if_icmp .eq 8, 3, 48), (48, .aload_n 0, 1, 49), (49, .invokevirtual 164, 3, 52), (52, .return_, 1, 53), (53, .aload_n 0, 1, 54), (54, .invokevirtual 154, 3, 57), (57, .aload_n 0, 1, 58), (58, .getfield 96, 3, 61), (61, .iconst 2, 1, 62), (62, .if_icmp .ne 25, 3, 65), (65, .aload_n 0, 1, 66), (66, .getfield 119, 3, 69), (69, .iload_n 1, 1, 70), (70, .iload 4, 2, 72), (72, .invokestatic 186, 3, 75), (75, .iload_n 1, 1, 76), (76, .iload 4, 2, 78), (78, .invokestatic 190, 3, 81), (81, .invokestatic 89, 3, 84), (84, .ifCond .ne 8, 3, 87), (87, .aload_n 0, 1, 88), (88, .invokevirtual 164, 3, 91), (91, .return_, 1, 92), (92, .aload_n 0, 1, 93), (93, .getfield 31, 3, 96), (96, .iload_n 2, 1, 97), (97, .iconst 1, 1, 98), (98, .iadd, 1, 99), (99, .iload 4, 2, 101), (101, .iadd, 1, 102), (102, .aload_n 0, 1, 103), (103, .getfield 119, 3, 106), (106, .iastore, 1, 107), (107, .aload_n 0, 1, 108), (108, .invokevirtual 154, 3, 111), (111, .iinc 4 1, 3, 114), (114, .goto (-85), 3, 117), (117, .iload_n 3, 1, 118), (118, .ifCond .ne 7, 3, 121), (121, .aload_n 0, 1, 122), (122, .invokevirtual 154, 3, 125), (125, .return_, 1, 126)]
theorem ktX12_stepNumbers : TbOK mX12_stepNumbers tX12_stepNumbers := by
  unfold TbOK
  decide +kernel
theorem kdX12_stepNumbers (k : Nat) {pc : Nat} {i : Instr} {len nx : Nat} (hk : tX12_stepNumbers[k]? = some (pc, i, len, nx)) : Dc mX12_stepNumbers pc i len nx := dc_of ktX12_stepNumbers k hk
theorem iX12_stepNumbers : MiV mX12_stepNumbers := ⟨⟨gdw_of (i := 1646) (by decide +kernel) (by decide +kernel), gdw_of (i := 124) (by decide +kernel) (by decide +kernel), by decide, by decide, by decide⟩, gdw_of (i := 1645) (by decide +kernel) (by decide +kernel), gdw_of (i := 67) (by decide +kernel) (by decide +kernel)⟩
theorem lX12_82 : Lk RX12 82 mX12_byteOf := Or.inl (gdw_of (i := 1554) (by decide +kernel) (by decide +kernel))
theorem lX12_89 : Lk RX12 89 mX12_in := Or.inl (gdw_of (i := 1561) (by decide +kernel) (by decide +kernel))
theorem lX12_103 : Lk RX12 103 mX12_here := Or.inl (gdw_of (i := 1579) (by decide +kernel) (by decide +kernel))
theorem lX12_107 : Lk RX12 107 mX12_isLetter := Or.inl (gdw_of (i := 1583) (by decide +kernel) (by decide +kernel))
theorem lX12_115 : Lk RX12 115 mX12_isDigit := Or.inl (gdw_of (i := 1592) (by decide +kernel) (by decide +kernel))
theorem lX12_125 : Lk RX12 125 mX12_nextWord := Or.inl (gdw_of (i := 1586) (by decide +kernel) (by decide +kernel))
theorem lX12_128 : Lk RX12 128 mX12_nextNumber := Or.inl (gdw_of (i := 1595) (by decide +kernel) (by decide +kernel))
theorem lX12_139 : Lk RX12 139 mX12_word := Or.inl (gdw_of (i := 1607) (by decide +kernel) (by decide +kernel))
theorem lX12_143 : Lk RX12 143 mX12_shortWord := Or.inl (gdw_of (i := 1611) (by decide +kernel) (by decide +kernel))
theorem lX12_147 : Lk RX12 147 mX12_stepWord := Or.inl (gdw_of (i := 1604) (by decide +kernel) (by decide +kernel))
theorem lX12_151 : Lk RX12 151 mX12_lineWord := Or.inl (gdw_of (i := 1615) (by decide +kernel) (by decide +kernel))
theorem lX12_154 : Lk RX12 154 mX12_next := Or.inl (gdw_of (i := 1575) (by decide +kernel) (by decide +kernel))
theorem lX12_157 : Lk RX12 157 mX12_lowest := Or.inl (gdw_of (i := 1633) (by decide +kernel) (by decide +kernel))
theorem lX12_161 : Lk RX12 161 mX12_highest := Or.inl (gdw_of (i := 1636) (by decide +kernel) (by decide +kernel))
theorem lX12_164 : Lk RX12 164 mX12_bad := Or.inl (gdw_of (i := 1621) (by decide +kernel) (by decide +kernel))
theorem lX12_167 : Lk RX12 167 mX12_manyNumbers := Or.inl (gdw_of (i := 1629) (by decide +kernel) (by decide +kernel))
theorem lX12_171 : Lk RX12 171 mX12_usual := Or.inl (gdw_of (i := 1572) (by decide +kernel) (by decide +kernel))
theorem lX12_174 : Lk RX12 174 mX12_wordAsked := Or.inl (gdw_of (i := 1600) (by decide +kernel) (by decide +kernel))
theorem lX12_178 : Lk RX12 178 mX12_has := Or.inl (gdw_of (i := 1618) (by decide +kernel) (by decide +kernel))
theorem lX12_182 : Lk RX12 182 mX12_clause := Or.inl (gdw_of (i := 1625) (by decide +kernel) (by decide +kernel))
theorem lX12_186 : Lk RX12 186 mX12_stepLow := Or.inl (gdw_of (i := 1647) (by decide +kernel) (by decide +kernel))
theorem lX12_190 : Lk RX12 190 mX12_stepHigh := Or.inl (gdw_of (i := 1650) (by decide +kernel) (by decide +kernel))
theorem lX12_193 : Lk RX12 193 mX12_stepNumbers := Or.inl (gdw_of (i := 1643) (by decide +kernel) (by decide +kernel))
theorem lX12_197 : Lk RX12 197 mX12_readLine := Or.inl (gdw_of (i := 1568) (by decide +kernel) (by decide +kernel))
theorem lX12_239 : Lk RX12 239 mX12_size := Or.inl (gdw_of (i := 1720) (by decide +kernel) (by decide +kernel))
theorem lX12_242 : Lk RX12 242 mX12_sign := Or.inl (gdw_of (i := 1717) (by decide +kernel) (by decide +kernel))
theorem lX12_245 : Lk RX12 245 mX12_held := Or.inl (gdw_of (i := 1736) (by decide +kernel) (by decide +kernel))
def JX12_in (a1 : Int32) (a2 : Int32) (a3 : Int32) (m : hM) : hR :=
  if a1 < a2 then (jretZ 0 m) else (if a3 < a1 then (jretZ 0 m) else (jretZ 1 m))
set_option maxRecDepth 20000 in
theorem CX12_in (a1 : Int32) (a2 : Int32) (a3 : Int32) (m : hM) : Cn mX12_in 0 [.inl a1, .inl a2, .inl a3] m (JX12_in a1 a2 a3 m) := by
  refine cn_of (by decide +kernel) (by simp only [List.map, vcat, List.sum_cons, List.sum_nil]; decide) ?_
  unfold JX12_in
  show G mX12_in 0 0 [(0, .inl a1), (1, .inl a2), (2, .inl a3)] [] m _
  refine g_iload_n 0 (kdX12_in 0 rfl) rfl ?_
  refine g_iload_n 1 (kdX12_in 1 rfl) rfl ?_
  refine g_icmp_lt (tgt := 14) (kdX12_in 2 rfl) (by decide) (fun _ => ?_) (fun _ => ?_)
  · refine g_iconst (v := 0) (kdX12_in 8 rfl) (by decide) ?_
    exact g_zret rfl (kdX12_in 9 rfl)
  · refine g_iload_n 0 (kdX12_in 3 rfl) rfl ?_
    refine g_iload_n 2 (kdX12_in 4 rfl) rfl ?_
    refine g_icmp_gt (tgt := 14) (kdX12_in 5 rfl) (by decide) (fun _ => ?_) (fun _ => ?_)
    · refine g_iconst (v := 0) (kdX12_in 8 rfl) (by decide) ?_
      exact g_zret rfl (kdX12_in 9 rfl)
    · refine g_iconst (v := 1) (kdX12_in 6 rfl) (by decide) ?_
      refine g_goto (tgt := 15) (kdX12_in 7 rfl) (by decide) ?_
      exact g_zret rfl (kdX12_in 9 rfl)
def JX12_has (a1 : Int32) (a2 : Int32) (m : hM) : hR :=
  if ((a1 >>> (a2 &&& 31)) &&& 1) = 1 then (jretZ 1 m) else (jretZ 0 m)
set_option maxRecDepth 20000 in
theorem CX12_has (a1 : Int32) (a2 : Int32) (m : hM) : Cn mX12_has 0 [.inl a1, .inl a2] m (JX12_has a1 a2 m) := by
  refine cn_of (by decide +kernel) (by simp only [List.map, vcat, List.sum_cons, List.sum_nil]; decide) ?_
  unfold JX12_has
  show G mX12_has 0 0 [(0, .inl a1), (1, .inl a2)] [] m _
  refine g_iload_n 0 (kdX12_has 0 rfl) rfl ?_
  refine g_iload_n 1 (kdX12_has 1 rfl) rfl ?_
  refine g_ishr (kdX12_has 2 rfl) ?_
  refine g_iconst (v := 1) (kdX12_has 3 rfl) (by decide) ?_
  refine g_iand (kdX12_has 4 rfl) ?_
  refine g_iconst (v := 1) (kdX12_has 5 rfl) (by decide) ?_
  refine g_icmp_ne (tgt := 13) (kdX12_has 6 rfl) (by decide) (fun _ => ?_) (fun _ => ?_)
  · refine g_iconst (v := 0) (kdX12_has 9 rfl) (by decide) ?_
    exact g_zret rfl (kdX12_has 10 rfl)
  · refine g_iconst (v := 1) (kdX12_has 7 rfl) (by decide) ?_
    refine g_goto (tgt := 14) (kdX12_has 8 rfl) (by decide) ?_
    exact g_zret rfl (kdX12_has 10 rfl)
def JX12_sign (a1 : Int32) (m : hM) : hR :=
  if a1 ≤ 0 then (if 0 ≤ a1 then (some (some (.inl 0), m)) else (some (some (.inl (-1)), m))) else (some (some (.inl 1), m))
set_option maxRecDepth 20000 in
theorem CX12_sign (a1 : Int32) (m : hM) : Cn mX12_sign 0 [.inl a1] m (JX12_sign a1 m) := by
  refine cn_of (by decide +kernel) (by simp only [List.map, vcat, List.sum_cons, List.sum_nil]; decide) ?_
  unfold JX12_sign
  show G mX12_sign 0 0 [(0, .inl a1)] [] m _
  refine g_iload_n 0 (kdX12_sign 0 rfl) rfl ?_
  refine g_if_le (tgt := 8) (kdX12_sign 1 rfl) (by decide) (fun _ => ?_) (fun _ => ?_)
  · refine g_iload_n 0 (kdX12_sign 4 rfl) rfl ?_
    refine g_if_ge (tgt := 16) (kdX12_sign 5 rfl) (by decide) (fun _ => ?_) (fun _ => ?_)
    · refine g_iconst (v := 0) (kdX12_sign 8 rfl) (by decide) ?_
      exact g_iret rfl (kdX12_sign 9 rfl)
    · refine g_iconst (v := (-1)) (kdX12_sign 6 rfl) (by decide) ?_
      refine g_goto (tgt := 17) (kdX12_sign 7 rfl) (by decide) ?_
      exact g_iret rfl (kdX12_sign 9 rfl)
  · refine g_iconst (v := 1) (kdX12_sign 2 rfl) (by decide) ?_
    refine g_goto (tgt := 17) (kdX12_sign 3 rfl) (by decide) ?_
    exact g_iret rfl (kdX12_sign 9 rfl)
def JX12_size (a1 : Int32) (m : hM) : hR :=
  if 0 ≤ a1 then (some (some (.inl a1), m)) else (some (some (.inl (-a1)), m))
set_option maxRecDepth 20000 in
theorem CX12_size (a1 : Int32) (m : hM) : Cn mX12_size 0 [.inl a1] m (JX12_size a1 m) := by
  refine cn_of (by decide +kernel) (by simp only [List.map, vcat, List.sum_cons, List.sum_nil]; decide) ?_
  unfold JX12_size
  show G mX12_size 0 0 [(0, .inl a1)] [] m _
  refine g_iload_n 0 (kdX12_size 0 rfl) rfl ?_
  refine g_if_ge (tgt := 9) (kdX12_size 1 rfl) (by decide) (fun _ => ?_) (fun _ => ?_)
  · refine g_iload_n 0 (kdX12_size 5 rfl) rfl ?_
    exact g_iret rfl (kdX12_size 6 rfl)
  · refine g_iload_n 0 (kdX12_size 2 rfl) rfl ?_
    refine g_ineg (kdX12_size 3 rfl) ?_
    refine g_goto (tgt := 10) (kdX12_size 4 rfl) (by decide) ?_
    exact g_iret rfl (kdX12_size 6 rfl)
def JX12_held (a1 : Int32) (a2 : Int32) (a3 : Int32) (m : hM) : hR :=
  if a2 ≤ a1 then (if a1 ≤ a3 then (some (some (.inl a1), m)) else (some (some (.inl a3), m))) else (some (some (.inl a2), m))
set_option maxRecDepth 20000 in
theorem CX12_held (a1 : Int32) (a2 : Int32) (a3 : Int32) (m : hM) : Cn mX12_held 0 [.inl a1, .inl a2, .inl a3] m (JX12_held a1 a2 a3 m) := by
  refine cn_of (by decide +kernel) (by simp only [List.map, vcat, List.sum_cons, List.sum_nil]; decide) ?_
  unfold JX12_held
  show G mX12_held 0 0 [(0, .inl a1), (1, .inl a2), (2, .inl a3)] [] m _
  refine g_iload_n 0 (kdX12_held 0 rfl) rfl ?_
  refine g_iload_n 1 (kdX12_held 1 rfl) rfl ?_
  refine g_icmp_ge (tgt := 9) (kdX12_held 2 rfl) (by decide) (fun _ => ?_) (fun _ => ?_)
  · refine g_iload_n 0 (kdX12_held 5 rfl) rfl ?_
    refine g_iload_n 2 (kdX12_held 6 rfl) rfl ?_
    refine g_icmp_le (tgt := 18) (kdX12_held 7 rfl) (by decide) (fun _ => ?_) (fun _ => ?_)
    · refine g_iload_n 0 (kdX12_held 10 rfl) rfl ?_
      exact g_iret rfl (kdX12_held 11 rfl)
    · refine g_iload_n 2 (kdX12_held 8 rfl) rfl ?_
      refine g_goto (tgt := 19) (kdX12_held 9 rfl) (by decide) ?_
      exact g_iret rfl (kdX12_held 11 rfl)
  · refine g_iload_n 1 (kdX12_held 3 rfl) rfl ?_
    refine g_goto (tgt := 19) (kdX12_held 4 rfl) (by decide) ?_
    exact g_iret rfl (kdX12_held 11 rfl)
def JX12_thrown  (m : hM) : hR :=
  some (some (.inl (m.1 40 0 0)), m)
set_option maxRecDepth 20000 in
theorem CX12_thrown  (m : hM) : Cn mX12_thrown 0 [.inr (.inr (40, 0))] m (JX12_thrown  m) := by
  refine cn_of (by decide +kernel) (by simp only [List.map, vcat, List.sum_cons, List.sum_nil]; decide) ?_
  unfold JX12_thrown
  show G mX12_thrown 0 0 [(0, .inr (.inr (40, 0)))] [] m _
  refine g_aload_n 0 (kdX12_thrown 0 rfl) rfl ?_
  refine g_get (v := .inl (m.1 40 0 0)) (kdX12_thrown 1 rfl) fX12_79 rfl ?_
  exact g_iret rfl (kdX12_thrown 2 rfl)
def JX12_byteOf_45 (v5 : Int32) (v100 : Int32) (m : hM) : hR :=
  jirem v5 4 fun x1 =>
  some (some (.inl ((v100 >>> ((24 - (8 * x1)) &&& 31)) &&& 255)), m)
set_option maxRecDepth 20000 in
theorem BX12_byteOf_45 (v5 : Int32) (v100 : Int32) (m : hM) : G mX12_byteOf 0 45 [(5, .inl v5)] [.inl v100] m (JX12_byteOf_45 v5 v100 m) := by
  unfold JX12_byteOf_45
  refine g_istore (L2 := [(6, .inl v100), (5, .inl v5)]) (kdX12_byteOf 21 rfl) rfl (by decide) ?_
  refine g_iload 0 (kdX12_byteOf 22 rfl) rfl ?_
  refine g_bipush (v := 24) (kdX12_byteOf 23 rfl) (by decide) ?_
  refine g_bipush (v := 8) (kdX12_byteOf 24 rfl) (by decide) ?_
  refine g_iload 1 (kdX12_byteOf 25 rfl) rfl ?_
  refine g_iconst (v := 4) (kdX12_byteOf 26 rfl) (by decide) ?_
  refine g_iremx (kdX12_byteOf 27 rfl) (fun x1 => ?_)
  refine g_imul (kdX12_byteOf 28 rfl) ?_
  refine g_isub (kdX12_byteOf 29 rfl) ?_
  refine g_ishr (kdX12_byteOf 30 rfl) ?_
  refine g_sipush (v := 255) (kdX12_byteOf 31 rfl) (by decide) ?_
  refine g_iand (kdX12_byteOf 32 rfl) ?_
  exact g_iret rfl (kdX12_byteOf 33 rfl)
def JX12_byteOf (a1 : Int32) (a2 : Int32) (a3 : Int32) (a4 : Int32) (a5 : Int32) (a6 : Int32) (m : hM) : hR :=
  if 4 ≤ a6 then (if 8 ≤ a6 then (if 12 ≤ a6 then (if 16 ≤ a6 then (JX12_byteOf_45 a6 a5 m) else (JX12_byteOf_45 a6 a4 m)) else (JX12_byteOf_45 a6 a3 m)) else (JX12_byteOf_45 a6 a2 m)) else (JX12_byteOf_45 a6 a1 m)
set_option maxRecDepth 20000 in
theorem CX12_byteOf (a1 : Int32) (a2 : Int32) (a3 : Int32) (a4 : Int32) (a5 : Int32) (a6 : Int32) (m : hM) : Cn mX12_byteOf 0 [.inl a1, .inl a2, .inl a3, .inl a4, .inl a5, .inl a6] m (JX12_byteOf a1 a2 a3 a4 a5 a6 m) := by
  refine cn_of (by decide +kernel) (by simp only [List.map, vcat, List.sum_cons, List.sum_nil]; decide) ?_
  unfold JX12_byteOf
  show G mX12_byteOf 0 0 [(0, .inl a1), (1, .inl a2), (2, .inl a3), (3, .inl a4), (4, .inl a5), (5, .inl a6)] [] m _
  refine g_iload 5 (kdX12_byteOf 0 rfl) rfl ?_
  refine g_iconst (v := 4) (kdX12_byteOf 1 rfl) (by decide) ?_
  refine g_icmp_ge (tgt := 10) (kdX12_byteOf 2 rfl) (by decide) (fun _ => ?_) (fun _ => ?_)
  · refine g_iload 5 (kdX12_byteOf 5 rfl) rfl ?_
    refine g_bipush (v := 8) (kdX12_byteOf 6 rfl) (by decide) ?_
    refine g_icmp_ge (tgt := 21) (kdX12_byteOf 7 rfl) (by decide) (fun _ => ?_) (fun _ => ?_)
    · refine g_iload 5 (kdX12_byteOf 10 rfl) rfl ?_
      refine g_bipush (v := 12) (kdX12_byteOf 11 rfl) (by decide) ?_
      refine g_icmp_ge (tgt := 32) (kdX12_byteOf 12 rfl) (by decide) (fun _ => ?_) (fun _ => ?_)
      · refine g_iload 5 (kdX12_byteOf 15 rfl) rfl ?_
        refine g_bipush (v := 16) (kdX12_byteOf 16 rfl) (by decide) ?_
        refine g_icmp_ge (tgt := 43) (kdX12_byteOf 17 rfl) (by decide) (fun _ => ?_) (fun _ => ?_)
        · refine g_iload 4 (kdX12_byteOf 20 rfl) rfl ?_
          exact g_fgt [5] rfl (BX12_byteOf_45 a6 a5 m)
        · refine g_iload_n 3 (kdX12_byteOf 18 rfl) rfl ?_
          refine g_goto (tgt := 45) (kdX12_byteOf 19 rfl) (by decide) ?_
          exact g_fgt [5] rfl (BX12_byteOf_45 a6 a4 m)
      · refine g_iload_n 2 (kdX12_byteOf 13 rfl) rfl ?_
        refine g_goto (tgt := 45) (kdX12_byteOf 14 rfl) (by decide) ?_
        exact g_fgt [5] rfl (BX12_byteOf_45 a6 a3 m)
    · refine g_iload_n 1 (kdX12_byteOf 8 rfl) rfl ?_
      refine g_goto (tgt := 45) (kdX12_byteOf 9 rfl) (by decide) ?_
      exact g_fgt [5] rfl (BX12_byteOf_45 a6 a2 m)
  · refine g_iload_n 0 (kdX12_byteOf 3 rfl) rfl ?_
    refine g_goto (tgt := 45) (kdX12_byteOf 4 rfl) (by decide) ?_
    exact g_fgt [5] rfl (BX12_byteOf_45 a6 a1 m)
def JX12_feed_35 (K6 : Int32 → Int32 → hM → hR) (K44 : Int32 → hM → hR) (v1 : Int32) (v2 : Int32) (v3 : Int32) (v4 : Int32) (v5 : Int32) (v7 : Int32) (v100 : Int32) (v101 : Int32) (m : hM) : hR :=
  lt (v101 + v100) fun x3 =>
  K6 x3 (v7 + 1) m
set_option maxRecDepth 20000 in
theorem BX12_feed_35 (v1 : Int32) (v2 : Int32) (v3 : Int32) (v4 : Int32) (v5 : Int32) (K6 : Int32 → Int32 → hM → hR) (K44 : Int32 → hM → hR) (h6 : ∀ (v6 : Int32) (v7 : Int32) (m : hM), G mX12_feed 1 6 [(0, .inr (.inr (40, 0))), (1, .inl v1), (2, .inl v2), (3, .inl v3), (4, .inl v4), (5, .inl v5), (6, .inl v6), (7, .inl v7)] [] m (K6 v6 v7 m)) (h44 : ∀ (v6 : Int32) (m : hM), G mX12_feed 1 44 [(0, .inr (.inr (40, 0))), (1, .inl v1), (2, .inl v2), (3, .inl v3), (4, .inl v4), (5, .inl v5), (6, .inl v6)] [] m (K44 v6 m)) (v7 : Int32) (v100 : Int32) (v101 : Int32) (m : hM) : G mX12_feed 1 35 [(0, .inr (.inr (40, 0))), (1, .inl v1), (2, .inl v2), (3, .inl v3), (4, .inl v4), (5, .inl v5), (7, .inl v7)] [.inl v100, .inl v101] m (JX12_feed_35 K6 K44 v1 v2 v3 v4 v5 v7 v100 v101 m) := by
  unfold JX12_feed_35
  refine g_iadd (kdX12_feed 19 rfl) ?_
  refine g_lt (fun x3 => ?_)
  refine g_istore (L2 := [(6, .inl x3), (0, .inr (.inr (40, 0))), (1, .inl v1), (2, .inl v2), (3, .inl v3), (4, .inl v4), (5, .inl v5), (7, .inl v7)]) (kdX12_feed 20 rfl) rfl (by decide) ?_
  refine g_iinc (v := v7 + 1) (L2 := [(7, .inl (v7 + 1)), (6, .inl x3), (0, .inr (.inr (40, 0))), (1, .inl v1), (2, .inl v2), (3, .inl v3), (4, .inl v4), (5, .inl v5)]) 7 (kdX12_feed 21 rfl) rfl rfl rfl (by decide) ?_
  refine g_goto (tgt := 6) (kdX12_feed 22 rfl) (by decide) ?_
  exact g_fgt [2, 3, 4, 5, 6, 7, 1, 0] rfl (h6 x3 (v7 + 1) m)
def bJX12_feed_6 (K6 : Int32 → Int32 → hM → hR) (K44 : Int32 → hM → hR) (v1 : Int32) (v2 : Int32) (v3 : Int32) (v4 : Int32) (v5 : Int32) (v6 : Int32) (v7 : Int32) (m : hM) : hR :=
  if 20 ≤ v7 then (K44 v6 m) else (calI (JX12_byteOf v1 v2 v3 v4 v5 v7 m) fun x2 m1 =>
  if x2 = 0 then (JX12_feed_35 K6 K44 v1 v2 v3 v4 v5 v7 0 v6 m1) else (JX12_feed_35 K6 K44 v1 v2 v3 v4 v5 v7 1 v6 m1))
set_option maxRecDepth 20000 in
theorem BbJX12_feed_6 (K6 : Int32 → Int32 → hM → hR) (K44 : Int32 → hM → hR) (v1 : Int32) (v2 : Int32) (v3 : Int32) (v4 : Int32) (v5 : Int32) (h6 : ∀ (v6 : Int32) (v7 : Int32) (m : hM), G mX12_feed 1 6 [(0, .inr (.inr (40, 0))), (1, .inl v1), (2, .inl v2), (3, .inl v3), (4, .inl v4), (5, .inl v5), (6, .inl v6), (7, .inl v7)] [] m (K6 v6 v7 m)) (h44 : ∀ (v6 : Int32) (m : hM), G mX12_feed 1 44 [(0, .inr (.inr (40, 0))), (1, .inl v1), (2, .inl v2), (3, .inl v3), (4, .inl v4), (5, .inl v5), (6, .inl v6)] [] m (K44 v6 m)) (v6 : Int32) (v7 : Int32) (m : hM) : G mX12_feed 1 6 [(0, .inr (.inr (40, 0))), (1, .inl v1), (2, .inl v2), (3, .inl v3), (4, .inl v4), (5, .inl v5), (6, .inl v6), (7, .inl v7)] [] m (bJX12_feed_6 K6 K44 v1 v2 v3 v4 v5 v6 v7 m) := by
  unfold bJX12_feed_6
  refine g_iload 7 (kdX12_feed 4 rfl) rfl ?_
  refine g_bipush (v := 20) (kdX12_feed 5 rfl) (by decide) ?_
  refine g_icmp_ge (tgt := 44) (kdX12_feed 6 rfl) (by decide) (fun _ => ?_) (fun _ => ?_)
  · exact g_fgt [0, 1, 2, 3, 4, 5, 6] rfl (h44 v6 m)
  · refine g_iload 6 (kdX12_feed 7 rfl) rfl ?_
    refine g_iload_n 1 (kdX12_feed 8 rfl) rfl ?_
    refine g_iload_n 2 (kdX12_feed 9 rfl) rfl ?_
    refine g_iload_n 3 (kdX12_feed 10 rfl) rfl ?_
    refine g_iload 4 (kdX12_feed 11 rfl) rfl ?_
    refine g_iload 5 (kdX12_feed 12 rfl) rfl ?_
    refine g_iload 7 (kdX12_feed 13 rfl) rfl ?_
    refine g_calI (ck_S (As := [.inl v1, .inl v2, .inl v3, .inl v4, .inl v5, .inl v7]) (S := [.inl v6]) (kdX12_feed 14 rfl) iX12_byteOf lX12_82 rfl rfl rfl (by decide) (by simp only [List.map, vcat, List.sum_cons, List.sum_nil]; decide)) (CX12_byteOf v1 v2 v3 v4 v5 v7 m) (fun x2 m1 => ?_)
    refine g_if_eq (tgt := 34) (kdX12_feed 15 rfl) (by decide) (fun _ => ?_) (fun _ => ?_)
    · refine g_iconst (v := 0) (kdX12_feed 18 rfl) (by decide) ?_
      exact g_fgt [0, 1, 2, 3, 4, 5, 7] rfl (BX12_feed_35 v1 v2 v3 v4 v5 _ _ h6 h44 v7 0 v6 m1)
    · refine g_iconst (v := 1) (kdX12_feed 16 rfl) (by decide) ?_
      refine g_goto (tgt := 35) (kdX12_feed 17 rfl) (by decide) ?_
      exact g_fgt [0, 1, 2, 3, 4, 5, 7] rfl (BX12_feed_35 v1 v2 v3 v4 v5 _ _ h6 h44 v7 1 v6 m1)
def JX12_feed_6 (K44 : Int32 → hM → hR) (v1 : Int32) (v2 : Int32) (v3 : Int32) (v4 : Int32) (v5 : Int32) : Nat → Int32 → Int32 → hM → hR
  | 0, _, _, _ => none
  | f + 1, v6, v7, m => bJX12_feed_6 (fun v6 v7 m => JX12_feed_6 K44 v1 v2 v3 v4 v5 f v6 v7 m) K44 v1 v2 v3 v4 v5 v6 v7 m
theorem BJX12_feed_6 (K44 : Int32 → hM → hR) (v1 : Int32) (v2 : Int32) (v3 : Int32) (v4 : Int32) (v5 : Int32) (h44 : ∀ (v6 : Int32) (m : hM), G mX12_feed 1 44 [(0, .inr (.inr (40, 0))), (1, .inl v1), (2, .inl v2), (3, .inl v3), (4, .inl v4), (5, .inl v5), (6, .inl v6)] [] m (K44 v6 m)) : ∀ (f : Nat) (v6 : Int32) (v7 : Int32) (m : hM), G mX12_feed 1 6 [(0, .inr (.inr (40, 0))), (1, .inl v1), (2, .inl v2), (3, .inl v3), (4, .inl v4), (5, .inl v5), (6, .inl v6), (7, .inl v7)] [] m (JX12_feed_6 K44 v1 v2 v3 v4 v5 f v6 v7 m)
  | 0, _, _, _ => g_none
  | f + 1, v6, v7, m => BbJX12_feed_6  _ K44 v1 v2 v3 v4 v5 (fun v6 v7 m => BJX12_feed_6  K44 v1 v2 v3 v4 v5 h44 f v6 v7 m) h44 v6 v7 m
def JX12_feed_109 (K62 : Int32 → hM → hR) (K115 : hM → hR) (v1 : Int32) (v2 : Int32) (v3 : Int32) (v4 : Int32) (v5 : Int32) (v7 : Int32) (m : hM) : hR :=
  K62 (v7 + 1) m
set_option maxRecDepth 20000 in
theorem BX12_feed_109 (v1 : Int32) (v2 : Int32) (v3 : Int32) (v4 : Int32) (v5 : Int32) (K62 : Int32 → hM → hR) (K115 : hM → hR) (h62 : ∀ (v7 : Int32) (m : hM), G mX12_feed 1 62 [(0, .inr (.inr (40, 0))), (1, .inl v1), (2, .inl v2), (3, .inl v3), (4, .inl v4), (5, .inl v5), (7, .inl v7)] [] m (K62 v7 m)) (h115 : ∀ (m : hM), G mX12_feed 1 115 [(0, .inr (.inr (40, 0)))] [] m (K115 m)) (v7 : Int32) (m : hM) : G mX12_feed 1 109 [(0, .inr (.inr (40, 0))), (1, .inl v1), (2, .inl v2), (3, .inl v3), (4, .inl v4), (5, .inl v5), (7, .inl v7)] [] m (JX12_feed_109 K62 K115 v1 v2 v3 v4 v5 v7 m) := by
  unfold JX12_feed_109
  refine g_iinc (v := v7 + 1) (L2 := [(7, .inl (v7 + 1)), (0, .inr (.inr (40, 0))), (1, .inl v1), (2, .inl v2), (3, .inl v3), (4, .inl v4), (5, .inl v5)]) 6 (kdX12_feed 58 rfl) rfl rfl rfl (by decide) ?_
  refine g_goto (tgt := 62) (kdX12_feed 59 rfl) (by decide) ?_
  exact g_fgt [1, 2, 3, 4, 5, 6, 0] rfl (h62 (v7 + 1) m)
def bJX12_feed_62 (K62 : Int32 → hM → hR) (K115 : hM → hR) (v1 : Int32) (v2 : Int32) (v3 : Int32) (v4 : Int32) (v5 : Int32) (v7 : Int32) (m : hM) : hR :=
  if 20 ≤ v7 then (K115 m) else (calI (JX12_byteOf v1 v2 v3 v4 v5 v7 m) fun x6 m5 =>
  if x6 = 0 then (JX12_feed_109 K62 K115 v1 v2 v3 v4 v5 v7 m5) else (ast m5 41 0 (m5.1 40 0 2) x6 fun m7 =>
  stI m7 40 0 2 ((m7.1 40 0 2) + 1) fun m8 =>
  JX12_feed_109 K62 K115 v1 v2 v3 v4 v5 v7 m8))
set_option maxRecDepth 20000 in
theorem BbJX12_feed_62 (K62 : Int32 → hM → hR) (K115 : hM → hR) (v1 : Int32) (v2 : Int32) (v3 : Int32) (v4 : Int32) (v5 : Int32) (h62 : ∀ (v7 : Int32) (m : hM), G mX12_feed 1 62 [(0, .inr (.inr (40, 0))), (1, .inl v1), (2, .inl v2), (3, .inl v3), (4, .inl v4), (5, .inl v5), (7, .inl v7)] [] m (K62 v7 m)) (h115 : ∀ (m : hM), G mX12_feed 1 115 [(0, .inr (.inr (40, 0)))] [] m (K115 m)) (v7 : Int32) (m : hM) : G mX12_feed 1 62 [(0, .inr (.inr (40, 0))), (1, .inl v1), (2, .inl v2), (3, .inl v3), (4, .inl v4), (5, .inl v5), (7, .inl v7)] [] m (bJX12_feed_62 K62 K115 v1 v2 v3 v4 v5 v7 m) := by
  unfold bJX12_feed_62
  refine g_iload 6 (kdX12_feed 33 rfl) rfl ?_
  refine g_bipush (v := 20) (kdX12_feed 34 rfl) (by decide) ?_
  refine g_icmp_ge (tgt := 115) (kdX12_feed 35 rfl) (by decide) (fun _ => ?_) (fun _ => ?_)
  · exact g_fgt [0] rfl (h115 m)
  · refine g_iload_n 1 (kdX12_feed 36 rfl) rfl ?_
    refine g_iload_n 2 (kdX12_feed 37 rfl) rfl ?_
    refine g_iload_n 3 (kdX12_feed 38 rfl) rfl ?_
    refine g_iload 4 (kdX12_feed 39 rfl) rfl ?_
    refine g_iload 5 (kdX12_feed 40 rfl) rfl ?_
    refine g_iload 6 (kdX12_feed 41 rfl) rfl ?_
    refine g_calI (ck_S (As := [.inl v1, .inl v2, .inl v3, .inl v4, .inl v5, .inl v7]) (S := []) (kdX12_feed 42 rfl) iX12_byteOf lX12_82 rfl rfl rfl (by decide) (by simp only [List.map, vcat, List.sum_cons, List.sum_nil]; decide)) (CX12_byteOf v1 v2 v3 v4 v5 v7 m) (fun x6 m5 => ?_)
    refine g_istore (L2 := [(8, .inl x6), (0, .inr (.inr (40, 0))), (1, .inl v1), (2, .inl v2), (3, .inl v3), (4, .inl v4), (5, .inl v5), (7, .inl v7)]) (kdX12_feed 43 rfl) rfl (by decide) ?_
    refine g_iload 0 (kdX12_feed 44 rfl) rfl ?_
    refine g_if_eq (tgt := 109) (kdX12_feed 45 rfl) (by decide) (fun _ => ?_) (fun _ => ?_)
    · exact g_fgt [1, 2, 3, 4, 5, 6, 7] rfl (BX12_feed_109 v1 v2 v3 v4 v5 _ _ h62 h115 v7 m5)
    · refine g_aload_n 1 (kdX12_feed 46 rfl) rfl ?_
      refine g_get (v := .inr (.inr (41, 0))) (kdX12_feed 47 rfl) fX12_9 rfl ?_
      refine g_aload_n 1 (kdX12_feed 48 rfl) rfl ?_
      refine g_get (v := .inl (m5.1 40 0 2)) (kdX12_feed 49 rfl) fX12_86 rfl ?_
      refine g_iload 0 (kdX12_feed 50 rfl) rfl ?_
      refine g_iast (kdX12_feed 51 rfl) (fun m7 => ?_)
      refine g_aload_n 1 (kdX12_feed 52 rfl) rfl ?_
      refine g_dup (kdX12_feed 53 rfl) rfl ?_
      refine g_get (v := .inl (m7.1 40 0 2)) (kdX12_feed 54 rfl) fX12_86 rfl ?_
      refine g_iconst (v := 1) (kdX12_feed 55 rfl) (by decide) ?_
      refine g_iadd (kdX12_feed 56 rfl) ?_
      refine g_putI (kdX12_feed 57 rfl) fX12_86 rfl (fun m8 => ?_)
      exact g_fgt [1, 2, 3, 4, 5, 6, 7] rfl (BX12_feed_109 v1 v2 v3 v4 v5 _ _ h62 h115 v7 m8)
def JX12_feed_62 (K115 : hM → hR) (v1 : Int32) (v2 : Int32) (v3 : Int32) (v4 : Int32) (v5 : Int32) : Nat → Int32 → hM → hR
  | 0, _, _ => none
  | f + 1, v7, m => bJX12_feed_62 (fun v7 m => JX12_feed_62 K115 v1 v2 v3 v4 v5 f v7 m) K115 v1 v2 v3 v4 v5 v7 m
theorem BJX12_feed_62 (K115 : hM → hR) (v1 : Int32) (v2 : Int32) (v3 : Int32) (v4 : Int32) (v5 : Int32) (h115 : ∀ (m : hM), G mX12_feed 1 115 [(0, .inr (.inr (40, 0)))] [] m (K115 m)) : ∀ (f : Nat) (v7 : Int32) (m : hM), G mX12_feed 1 62 [(0, .inr (.inr (40, 0))), (1, .inl v1), (2, .inl v2), (3, .inl v3), (4, .inl v4), (5, .inl v5), (7, .inl v7)] [] m (JX12_feed_62 K115 v1 v2 v3 v4 v5 f v7 m)
  | 0, _, _ => g_none
  | f + 1, v7, m => BbJX12_feed_62  _ K115 v1 v2 v3 v4 v5 (fun v7 m => BJX12_feed_62  K115 v1 v2 v3 v4 v5 h115 f v7 m) h115 v7 m
def JX12_feed (a1 : Int32) (a2 : Int32) (a3 : Int32) (a4 : Int32) (a5 : Int32) (m : hM) : hR :=
  JX12_feed_6 (fun v6 m4 => if ((m4.1 40 0 2) + v6) ≤ 240 then (JX12_feed_62 (fun m9 => some (some (.inl (m9.1 40 0 2)), m9)) a1 a2 a3 a4 a5 FU 0 m4) else (some (some (.inl (-1)), m4))) a1 a2 a3 a4 a5 FU 0 0 m
set_option maxRecDepth 20000 in
theorem CX12_feed (a1 : Int32) (a2 : Int32) (a3 : Int32) (a4 : Int32) (a5 : Int32) (m : hM) : Cn mX12_feed 1 [.inr (.inr (40, 0)), .inl a1, .inl a2, .inl a3, .inl a4, .inl a5] m (JX12_feed a1 a2 a3 a4 a5 m) := by
  refine cn_of (by decide +kernel) (by simp only [List.map, vcat, List.sum_cons, List.sum_nil]; decide) ?_
  unfold JX12_feed
  show G mX12_feed 1 0 [(0, .inr (.inr (40, 0))), (1, .inl a1), (2, .inl a2), (3, .inl a3), (4, .inl a4), (5, .inl a5)] [] m _
  refine g_iconst (v := 0) (kdX12_feed 0 rfl) (by decide) ?_
  refine g_istore (L2 := [(6, .inl 0), (0, .inr (.inr (40, 0))), (1, .inl a1), (2, .inl a2), (3, .inl a3), (4, .inl a4), (5, .inl a5)]) (kdX12_feed 1 rfl) rfl (by decide) ?_
  refine g_iconst (v := 0) (kdX12_feed 2 rfl) (by decide) ?_
  refine g_istore (L2 := [(7, .inl 0), (6, .inl 0), (0, .inr (.inr (40, 0))), (1, .inl a1), (2, .inl a2), (3, .inl a3), (4, .inl a4), (5, .inl a5)]) (kdX12_feed 3 rfl) rfl (by decide) ?_
  refine g_fgt [2, 3, 4, 5, 6, 7, 1, 0] rfl (BJX12_feed_6  _ a1 a2 a3 a4 a5 ?_ FU 0 0 m)
  · intro v6 m4
    refine g_aload_n 0 (kdX12_feed 23 rfl) rfl ?_
    refine g_get (v := .inl (m4.1 40 0 2)) (kdX12_feed 24 rfl) fX12_86 rfl ?_
    refine g_iload 6 (kdX12_feed 25 rfl) rfl ?_
    refine g_iadd (kdX12_feed 26 rfl) ?_
    refine g_sipush (v := 240) (kdX12_feed 27 rfl) (by decide) ?_
    refine g_icmp_le (tgt := 59) (kdX12_feed 28 rfl) (by decide) (fun _ => ?_) (fun _ => ?_)
    · refine g_iconst (v := 0) (kdX12_feed 31 rfl) (by decide) ?_
      refine g_istore (L2 := [(7, .inl 0), (0, .inr (.inr (40, 0))), (1, .inl a1), (2, .inl a2), (3, .inl a3), (4, .inl a4), (5, .inl a5), (6, .inl v6)]) (kdX12_feed 32 rfl) rfl (by decide) ?_
      refine g_fgt [1, 2, 3, 4, 5, 6, 0] rfl (BJX12_feed_62  _ a1 a2 a3 a4 a5 ?_ FU 0 m4)
      · intro m9
        refine g_aload_n 0 (kdX12_feed 60 rfl) rfl ?_
        refine g_get (v := .inl (m9.1 40 0 2)) (kdX12_feed 61 rfl) fX12_86 rfl ?_
        exact g_iret rfl (kdX12_feed 62 rfl)
    · refine g_iconst (v := (-1)) (kdX12_feed 29 rfl) (by decide) ?_
      exact g_iret rfl (kdX12_feed 30 rfl)
def JX12_end (a1 : Int32) (m : hM) : hR :=
  calI (JX12_in a1 0 (m.1 40 0 2) m) fun x2 m1 =>
  if x2 = 0 then (jretZ 0 m1) else (stI m1 40 0 2 a1 fun m3 =>
  jretZ 1 m3)
set_option maxRecDepth 20000 in
theorem CX12_end (a1 : Int32) (m : hM) : Cn mX12_end 1 [.inr (.inr (40, 0)), .inl a1] m (JX12_end a1 m) := by
  refine cn_of (by decide +kernel) (by simp only [List.map, vcat, List.sum_cons, List.sum_nil]; decide) ?_
  unfold JX12_end
  show G mX12_end 1 0 [(0, .inr (.inr (40, 0))), (1, .inl a1)] [] m _
  refine g_iload_n 1 (kdX12_end 0 rfl) rfl ?_
  refine g_iconst (v := 0) (kdX12_end 1 rfl) (by decide) ?_
  refine g_aload_n 0 (kdX12_end 2 rfl) rfl ?_
  refine g_get (v := .inl (m.1 40 0 2)) (kdX12_end 3 rfl) fX12_86 rfl ?_
  refine g_calI (ck_S (As := [.inl a1, .inl 0, .inl (m.1 40 0 2)]) (S := []) (kdX12_end 4 rfl) iX12_in lX12_89 rfl rfl rfl (by decide) (by simp only [List.map, vcat, List.sum_cons, List.sum_nil]; decide)) (CX12_in a1 0 (m.1 40 0 2) m) (fun x2 m1 => ?_)
  refine g_if_ne (tgt := 14) (kdX12_end 5 rfl) (by decide) (fun _ => ?_) (fun _ => ?_)
  · refine g_aload_n 0 (kdX12_end 8 rfl) rfl ?_
    refine g_iload_n 1 (kdX12_end 9 rfl) rfl ?_
    refine g_putI (kdX12_end 10 rfl) fX12_86 rfl (fun m3 => ?_)
    refine g_iconst (v := 1) (kdX12_end 11 rfl) (by decide) ?_
    exact g_zret rfl (kdX12_end 12 rfl)
  · refine g_iconst (v := 0) (kdX12_end 6 rfl) (by decide) ?_
    exact g_zret rfl (kdX12_end 7 rfl)
def JX12_here  (m : hM) : hR :=
  if (m.1 40 0 2) ≤ (m.1 40 0 3) then (some (some (.inl (-1)), m)) else (ald m 41 0 (m.1 40 0 3) fun x1 =>
  some (some (.inl x1), m))
set_option maxRecDepth 20000 in
theorem CX12_here  (m : hM) : Cn mX12_here 0 [.inr (.inr (40, 0))] m (JX12_here  m) := by
  refine cn_of (by decide +kernel) (by simp only [List.map, vcat, List.sum_cons, List.sum_nil]; decide) ?_
  unfold JX12_here
  show G mX12_here 0 0 [(0, .inr (.inr (40, 0)))] [] m _
  refine g_aload_n 0 (kdX12_here 0 rfl) rfl ?_
  refine g_get (v := .inl (m.1 40 0 3)) (kdX12_here 1 rfl) fX12_93 rfl ?_
  refine g_aload_n 0 (kdX12_here 2 rfl) rfl ?_
  refine g_get (v := .inl (m.1 40 0 2)) (kdX12_here 3 rfl) fX12_86 rfl ?_
  refine g_icmp_ge (tgt := 23) (kdX12_here 4 rfl) (by decide) (fun _ => ?_) (fun _ => ?_)
  · refine g_iconst (v := (-1)) (kdX12_here 11 rfl) (by decide) ?_
    exact g_iret rfl (kdX12_here 12 rfl)
  · refine g_aload_n 0 (kdX12_here 5 rfl) rfl ?_
    refine g_get (v := .inr (.inr (41, 0))) (kdX12_here 6 rfl) fX12_9 rfl ?_
    refine g_aload_n 0 (kdX12_here 7 rfl) rfl ?_
    refine g_get (v := .inl (m.1 40 0 3)) (kdX12_here 8 rfl) fX12_93 rfl ?_
    refine g_iald (kdX12_here 9 rfl) (fun x1 => ?_)
    refine g_goto (tgt := 24) (kdX12_here 10 rfl) (by decide) ?_
    exact g_iret rfl (kdX12_here 12 rfl)
def JX12_isDigit (a1 : Int32) (m : hM) : hR :=
  if a1 < 48 then (jretZ 0 m) else (if 57 < a1 then (jretZ 0 m) else (jretZ 1 m))
set_option maxRecDepth 20000 in
theorem CX12_isDigit (a1 : Int32) (m : hM) : Cn mX12_isDigit 0 [.inl a1] m (JX12_isDigit a1 m) := by
  refine cn_of (by decide +kernel) (by simp only [List.map, vcat, List.sum_cons, List.sum_nil]; decide) ?_
  unfold JX12_isDigit
  show G mX12_isDigit 0 0 [(0, .inl a1)] [] m _
  refine g_iload_n 0 (kdX12_isDigit 0 rfl) rfl ?_
  refine g_bipush (v := 48) (kdX12_isDigit 1 rfl) (by decide) ?_
  refine g_icmp_lt (tgt := 16) (kdX12_isDigit 2 rfl) (by decide) (fun _ => ?_) (fun _ => ?_)
  · refine g_iconst (v := 0) (kdX12_isDigit 8 rfl) (by decide) ?_
    exact g_zret rfl (kdX12_isDigit 9 rfl)
  · refine g_iload_n 0 (kdX12_isDigit 3 rfl) rfl ?_
    refine g_bipush (v := 57) (kdX12_isDigit 4 rfl) (by decide) ?_
    refine g_icmp_gt (tgt := 16) (kdX12_isDigit 5 rfl) (by decide) (fun _ => ?_) (fun _ => ?_)
    · refine g_iconst (v := 0) (kdX12_isDigit 8 rfl) (by decide) ?_
      exact g_zret rfl (kdX12_isDigit 9 rfl)
    · refine g_iconst (v := 1) (kdX12_isDigit 6 rfl) (by decide) ?_
      refine g_goto (tgt := 17) (kdX12_isDigit 7 rfl) (by decide) ?_
      exact g_zret rfl (kdX12_isDigit 9 rfl)
def JX12_isLetter (a1 : Int32) (m : hM) : hR :=
  if a1 < 97 then (jretZ 0 m) else (if 122 < a1 then (jretZ 0 m) else (jretZ 1 m))
set_option maxRecDepth 20000 in
theorem CX12_isLetter (a1 : Int32) (m : hM) : Cn mX12_isLetter 0 [.inl a1] m (JX12_isLetter a1 m) := by
  refine cn_of (by decide +kernel) (by simp only [List.map, vcat, List.sum_cons, List.sum_nil]; decide) ?_
  unfold JX12_isLetter
  show G mX12_isLetter 0 0 [(0, .inl a1)] [] m _
  refine g_iload_n 0 (kdX12_isLetter 0 rfl) rfl ?_
  refine g_bipush (v := 97) (kdX12_isLetter 1 rfl) (by decide) ?_
  refine g_icmp_lt (tgt := 16) (kdX12_isLetter 2 rfl) (by decide) (fun _ => ?_) (fun _ => ?_)
  · refine g_iconst (v := 0) (kdX12_isLetter 8 rfl) (by decide) ?_
    exact g_zret rfl (kdX12_isLetter 9 rfl)
  · refine g_iload_n 0 (kdX12_isLetter 3 rfl) rfl ?_
    refine g_bipush (v := 122) (kdX12_isLetter 4 rfl) (by decide) ?_
    refine g_icmp_gt (tgt := 16) (kdX12_isLetter 5 rfl) (by decide) (fun _ => ?_) (fun _ => ?_)
    · refine g_iconst (v := 0) (kdX12_isLetter 8 rfl) (by decide) ?_
      exact g_zret rfl (kdX12_isLetter 9 rfl)
    · refine g_iconst (v := 1) (kdX12_isLetter 6 rfl) (by decide) ?_
      refine g_goto (tgt := 17) (kdX12_isLetter 7 rfl) (by decide) ?_
      exact g_zret rfl (kdX12_isLetter 9 rfl)
def JX12_nextWord_64 (K12 : Int32 → hM → hR) (K80 : Int32 → hM → hR) (v1 : Int32) (v100 : Int64) (m : hM) : hR :=
  stL m 40 0 8 v100 fun m10 =>
  stI m10 40 0 3 ((m10.1 40 0 3) + 1) fun m11 =>
  K12 v1 m11
set_option maxRecDepth 20000 in
theorem BX12_nextWord_64 (K12 : Int32 → hM → hR) (K80 : Int32 → hM → hR) (h12 : ∀ (v1 : Int32) (m : hM), G mX12_nextWord 1 12 [(0, .inr (.inr (40, 0))), (1, .inl v1)] [] m (K12 v1 m)) (h80 : ∀ (v1 : Int32) (m : hM), G mX12_nextWord 1 80 [(0, .inr (.inr (40, 0))), (1, .inl v1)] [] m (K80 v1 m)) (v1 : Int32) (v100 : Int64) (m : hM) : G mX12_nextWord 1 64 [(0, .inr (.inr (40, 0))), (1, .inl v1)] [.inr (.inl v100), .inr (.inr (40, 0))] m (JX12_nextWord_64 K12 K80 v1 v100 m) := by
  unfold JX12_nextWord_64
  refine g_putL (kdX12_nextWord 35 rfl) fX12_99 rfl (fun m10 => ?_)
  refine g_aload_n 0 (kdX12_nextWord 36 rfl) rfl ?_
  refine g_dup (kdX12_nextWord 37 rfl) rfl ?_
  refine g_get (v := .inl (m10.1 40 0 3)) (kdX12_nextWord 38 rfl) fX12_93 rfl ?_
  refine g_iconst (v := 1) (kdX12_nextWord 39 rfl) (by decide) ?_
  refine g_iadd (kdX12_nextWord 40 rfl) ?_
  refine g_putI (kdX12_nextWord 41 rfl) fX12_93 rfl (fun m11 => ?_)
  refine g_goto (tgt := 12) (kdX12_nextWord 42 rfl) (by decide) ?_
  exact g_fgt [0, 1] rfl (h12 v1 m11)
def bJX12_nextWord_12 (K12 : Int32 → hM → hR) (K80 : Int32 → hM → hR) (v1 : Int32) (m : hM) : hR :=
  calI (JX12_here m) fun x4 m3 =>
  calI (JX12_isLetter x4 m3) fun x6 m5 =>
  if x6 = 0 then (K80 v1 m5) else (calI (JX12_here m5) fun x8 m7 =>
  stL m7 40 0 8 ((((32 * (m5.2 40 0 8)) + x8.toInt64) - 97) + 1) fun m9 =>
  if (v1 + 1) ≤ 6 then (JX12_nextWord_64 K12 K80 (v1 + 1) (m9.2 40 0 8) m9) else (JX12_nextWord_64 K12 K80 (v1 + 1) 0 m9))
set_option maxRecDepth 20000 in
theorem BbJX12_nextWord_12 (K12 : Int32 → hM → hR) (K80 : Int32 → hM → hR) (h12 : ∀ (v1 : Int32) (m : hM), G mX12_nextWord 1 12 [(0, .inr (.inr (40, 0))), (1, .inl v1)] [] m (K12 v1 m)) (h80 : ∀ (v1 : Int32) (m : hM), G mX12_nextWord 1 80 [(0, .inr (.inr (40, 0))), (1, .inl v1)] [] m (K80 v1 m)) (v1 : Int32) (m : hM) : G mX12_nextWord 1 12 [(0, .inr (.inr (40, 0))), (1, .inl v1)] [] m (bJX12_nextWord_12 K12 K80 v1 m) := by
  unfold bJX12_nextWord_12
  refine g_aload_n 0 (kdX12_nextWord 8 rfl) rfl ?_
  refine g_calI (ck_V (As := []) (S := []) (t := 40) (o := 0) (kdX12_nextWord 9 rfl) iX12_here lX12_103 rc_40 rfl rfl rfl (by decide) (by simp only [List.map, vcat, List.sum_cons, List.sum_nil]; decide)) (CX12_here m) (fun x4 m3 => ?_)
  refine g_calI (ck_S (As := [.inl x4]) (S := []) (kdX12_nextWord 10 rfl) iX12_isLetter lX12_107 rfl rfl rfl (by decide) (by simp only [List.map, vcat, List.sum_cons, List.sum_nil]; decide)) (CX12_isLetter x4 m3) (fun x6 m5 => ?_)
  refine g_if_eq (tgt := 80) (kdX12_nextWord 11 rfl) (by decide) (fun _ => ?_) (fun _ => ?_)
  · exact g_fgt [0, 1] rfl (h80 v1 m5)
  · refine g_aload_n 0 (kdX12_nextWord 12 rfl) rfl ?_
    refine g_ldc2 (kdX12_nextWord 13 rfl) cX12_111 ?_
    refine g_aload_n 0 (kdX12_nextWord 14 rfl) rfl ?_
    refine g_get (v := .inr (.inl (m5.2 40 0 8))) (kdX12_nextWord 15 rfl) fX12_99 rfl ?_
    refine g_lmul (kdX12_nextWord 16 rfl) ?_
    refine g_aload_n 0 (kdX12_nextWord 17 rfl) rfl ?_
    refine g_calI (ck_V (As := []) (S := [.inr (.inl (32 * (m5.2 40 0 8))), .inr (.inr (40, 0))]) (t := 40) (o := 0) (kdX12_nextWord 18 rfl) iX12_here lX12_103 rc_40 rfl rfl rfl (by decide) (by simp only [List.map, vcat, List.sum_cons, List.sum_nil]; decide)) (CX12_here m5) (fun x8 m7 => ?_)
    refine g_i2l (kdX12_nextWord 19 rfl) ?_
    refine g_ladd (kdX12_nextWord 20 rfl) ?_
    refine g_ldc2 (kdX12_nextWord 21 rfl) cX12_113 ?_
    refine g_lsub (kdX12_nextWord 22 rfl) ?_
    refine g_lconst (v := 1) (kdX12_nextWord 23 rfl) (by decide) ?_
    refine g_ladd (kdX12_nextWord 24 rfl) ?_
    refine g_putL (kdX12_nextWord 25 rfl) fX12_99 rfl (fun m9 => ?_)
    refine g_iinc (v := v1 + 1) (L2 := [(1, .inl (v1 + 1)), (0, .inr (.inr (40, 0)))]) 1 (kdX12_nextWord 26 rfl) rfl rfl rfl (by decide) ?_
    refine g_aload_n 1 (kdX12_nextWord 27 rfl) rfl ?_
    refine g_iload_n 0 (kdX12_nextWord 28 rfl) rfl ?_
    refine g_bipush (v := 6) (kdX12_nextWord 29 rfl) (by decide) ?_
    refine g_icmp_le (tgt := 60) (kdX12_nextWord 30 rfl) (by decide) (fun _ => ?_) (fun _ => ?_)
    · refine g_aload_n 1 (kdX12_nextWord 33 rfl) rfl ?_
      refine g_get (v := .inr (.inl (m9.2 40 0 8))) (kdX12_nextWord 34 rfl) fX12_99 rfl ?_
      exact g_fgt [1, 0] rfl (BX12_nextWord_64 _ _ h12 h80 (v1 + 1) (m9.2 40 0 8) m9)
    · refine g_lconst (v := 0) (kdX12_nextWord 31 rfl) (by decide) ?_
      refine g_goto (tgt := 64) (kdX12_nextWord 32 rfl) (by decide) ?_
      exact g_fgt [1, 0] rfl (BX12_nextWord_64 _ _ h12 h80 (v1 + 1) 0 m9)
def JX12_nextWord_12 (K80 : Int32 → hM → hR) : Nat → Int32 → hM → hR
  | 0, _, _ => none
  | f + 1, v1, m => bJX12_nextWord_12 (fun v1 m => JX12_nextWord_12 K80  f v1 m) K80  v1 m
theorem BJX12_nextWord_12 (K80 : Int32 → hM → hR) (h80 : ∀ (v1 : Int32) (m : hM), G mX12_nextWord 1 80 [(0, .inr (.inr (40, 0))), (1, .inl v1)] [] m (K80 v1 m)) : ∀ (f : Nat) (v1 : Int32) (m : hM), G mX12_nextWord 1 12 [(0, .inr (.inr (40, 0))), (1, .inl v1)] [] m (JX12_nextWord_12 K80  f v1 m)
  | 0, _, _ => g_none
  | f + 1, v1, m => BbJX12_nextWord_12  _ K80  (fun v1 m => BJX12_nextWord_12  K80  h80 f v1 m) h80 v1 m
def JX12_nextWord  (m : hM) : hR :=
  stI m 40 0 5 1 fun m1 =>
  stL m1 40 0 8 0 fun m2 =>
  JX12_nextWord_12 (fun v1 m12 => if v1 ≤ 6 then (stL m12 40 0 8 (m12.2 40 0 8) fun m13 =>
  some (none, m13)) else (stL m12 40 0 8 0 fun m14 =>
  some (none, m14)))  FU 0 m2
set_option maxRecDepth 20000 in
theorem CX12_nextWord  (m : hM) : Cn mX12_nextWord 1 [.inr (.inr (40, 0))] m (JX12_nextWord  m) := by
  refine cn_of (by decide +kernel) (by simp only [List.map, vcat, List.sum_cons, List.sum_nil]; decide) ?_
  unfold JX12_nextWord
  show G mX12_nextWord 1 0 [(0, .inr (.inr (40, 0)))] [] m _
  refine g_aload_n 0 (kdX12_nextWord 0 rfl) rfl ?_
  refine g_iconst (v := 1) (kdX12_nextWord 1 rfl) (by decide) ?_
  refine g_putI (kdX12_nextWord 2 rfl) fX12_96 rfl (fun m1 => ?_)
  refine g_aload_n 0 (kdX12_nextWord 3 rfl) rfl ?_
  refine g_lconst (v := 0) (kdX12_nextWord 4 rfl) (by decide) ?_
  refine g_putL (kdX12_nextWord 5 rfl) fX12_99 rfl (fun m2 => ?_)
  refine g_iconst (v := 0) (kdX12_nextWord 6 rfl) (by decide) ?_
  refine g_istore_n (L2 := [(1, .inl 0), (0, .inr (.inr (40, 0)))]) (kdX12_nextWord 7 rfl) rfl (by decide) ?_
  refine g_fgt [1, 0] rfl (BJX12_nextWord_12  _  ?_ FU 0 m2)
  · intro v1 m12
    refine g_aload_n 0 (kdX12_nextWord 43 rfl) rfl ?_
    refine g_iload_n 1 (kdX12_nextWord 44 rfl) rfl ?_
    refine g_bipush (v := 6) (kdX12_nextWord 45 rfl) (by decide) ?_
    refine g_icmp_le (tgt := 91) (kdX12_nextWord 46 rfl) (by decide) (fun _ => ?_) (fun _ => ?_)
    · refine g_aload_n 0 (kdX12_nextWord 49 rfl) rfl ?_
      refine g_get (v := .inr (.inl (m12.2 40 0 8))) (kdX12_nextWord 50 rfl) fX12_99 rfl ?_
      refine g_putL (kdX12_nextWord 51 rfl) fX12_99 rfl (fun m13 => ?_)
      exact g_vret rfl (kdX12_nextWord 52 rfl)
    · refine g_lconst (v := 0) (kdX12_nextWord 47 rfl) (by decide) ?_
      refine g_goto (tgt := 95) (kdX12_nextWord 48 rfl) (by decide) ?_
      refine g_putL (kdX12_nextWord 51 rfl) fX12_99 rfl (fun m14 => ?_)
      exact g_vret rfl (kdX12_nextWord 52 rfl)
def JX12_nextNumber_40 (K7 : Int32 → hM → hR) (K54 : Int32 → hM → hR) (v1 : Int32) (v100 : Int32) (m : hM) : hR :=
  stI m 40 0 3 ((m.1 40 0 3) + 1) fun m8 =>
  K7 v100 m8
set_option maxRecDepth 20000 in
theorem BX12_nextNumber_40 (v1 : Int32) (K7 : Int32 → hM → hR) (K54 : Int32 → hM → hR) (h7 : ∀ (v2 : Int32) (m : hM), G mX12_nextNumber 1 7 [(0, .inr (.inr (40, 0))), (1, .inl v1), (2, .inl v2)] [] m (K7 v2 m)) (h54 : ∀ (v2 : Int32) (m : hM), G mX12_nextNumber 1 54 [(0, .inr (.inr (40, 0))), (1, .inl v1), (2, .inl v2)] [] m (K54 v2 m)) (v100 : Int32) (m : hM) : G mX12_nextNumber 1 40 [(0, .inr (.inr (40, 0))), (1, .inl v1)] [.inl v100] m (JX12_nextNumber_40 K7 K54 v1 v100 m) := by
  unfold JX12_nextNumber_40
  refine g_istore_n (L2 := [(2, .inl v100), (0, .inr (.inr (40, 0))), (1, .inl v1)]) (kdX12_nextNumber 22 rfl) rfl (by decide) ?_
  refine g_aload_n 1 (kdX12_nextNumber 23 rfl) rfl ?_
  refine g_dup (kdX12_nextNumber 24 rfl) rfl ?_
  refine g_get (v := .inl (m.1 40 0 3)) (kdX12_nextNumber 25 rfl) fX12_93 rfl ?_
  refine g_iconst (v := 1) (kdX12_nextNumber 26 rfl) (by decide) ?_
  refine g_iadd (kdX12_nextNumber 27 rfl) ?_
  refine g_putI (kdX12_nextNumber 28 rfl) fX12_93 rfl (fun m8 => ?_)
  refine g_goto (tgt := 7) (kdX12_nextNumber 29 rfl) (by decide) ?_
  exact g_fgt [1, 2, 0] rfl (h7 v100 m8)
def bJX12_nextNumber_7 (K7 : Int32 → hM → hR) (K54 : Int32 → hM → hR) (v1 : Int32) (v2 : Int32) (m : hM) : hR :=
  calI (JX12_here m) fun x3 m2 =>
  calI (JX12_isDigit x3 m2) fun x5 m4 =>
  if x5 = 0 then (K54 v2 m4) else (if v2 < 1000000 then (calI (JX12_here m4) fun x7 m6 =>
  JX12_nextNumber_40 K7 K54 v1 (((10 * v2) + x7) - 48) m6) else (JX12_nextNumber_40 K7 K54 v1 1000000 m4))
set_option maxRecDepth 20000 in
theorem BbJX12_nextNumber_7 (K7 : Int32 → hM → hR) (K54 : Int32 → hM → hR) (v1 : Int32) (h7 : ∀ (v2 : Int32) (m : hM), G mX12_nextNumber 1 7 [(0, .inr (.inr (40, 0))), (1, .inl v1), (2, .inl v2)] [] m (K7 v2 m)) (h54 : ∀ (v2 : Int32) (m : hM), G mX12_nextNumber 1 54 [(0, .inr (.inr (40, 0))), (1, .inl v1), (2, .inl v2)] [] m (K54 v2 m)) (v2 : Int32) (m : hM) : G mX12_nextNumber 1 7 [(0, .inr (.inr (40, 0))), (1, .inl v1), (2, .inl v2)] [] m (bJX12_nextNumber_7 K7 K54 v1 v2 m) := by
  unfold bJX12_nextNumber_7
  refine g_aload_n 0 (kdX12_nextNumber 5 rfl) rfl ?_
  refine g_calI (ck_V (As := []) (S := []) (t := 40) (o := 0) (kdX12_nextNumber 6 rfl) iX12_here lX12_103 rc_40 rfl rfl rfl (by decide) (by simp only [List.map, vcat, List.sum_cons, List.sum_nil]; decide)) (CX12_here m) (fun x3 m2 => ?_)
  refine g_calI (ck_S (As := [.inl x3]) (S := []) (kdX12_nextNumber 7 rfl) iX12_isDigit lX12_115 rfl rfl rfl (by decide) (by simp only [List.map, vcat, List.sum_cons, List.sum_nil]; decide)) (CX12_isDigit x3 m2) (fun x5 m4 => ?_)
  refine g_if_eq (tgt := 54) (kdX12_nextNumber 8 rfl) (by decide) (fun _ => ?_) (fun _ => ?_)
  · exact g_fgt [0, 1, 2] rfl (h54 v2 m4)
  · refine g_iload_n 2 (kdX12_nextNumber 9 rfl) rfl ?_
    refine g_ldc (kdX12_nextNumber 10 rfl) cX12_118 ?_
    refine g_icmp_lt (tgt := 28) (kdX12_nextNumber 11 rfl) (by decide) (fun _ => ?_) (fun _ => ?_)
    · refine g_bipush (v := 10) (kdX12_nextNumber 14 rfl) (by decide) ?_
      refine g_iload_n 2 (kdX12_nextNumber 15 rfl) rfl ?_
      refine g_imul (kdX12_nextNumber 16 rfl) ?_
      refine g_aload_n 0 (kdX12_nextNumber 17 rfl) rfl ?_
      refine g_calI (ck_V (As := []) (S := [.inl (10 * v2)]) (t := 40) (o := 0) (kdX12_nextNumber 18 rfl) iX12_here lX12_103 rc_40 rfl rfl rfl (by decide) (by simp only [List.map, vcat, List.sum_cons, List.sum_nil]; decide)) (CX12_here m4) (fun x7 m6 => ?_)
      refine g_iadd (kdX12_nextNumber 19 rfl) ?_
      refine g_bipush (v := 48) (kdX12_nextNumber 20 rfl) (by decide) ?_
      refine g_isub (kdX12_nextNumber 21 rfl) ?_
      exact g_fgt [0, 1] rfl (BX12_nextNumber_40 v1 _ _ h7 h54 (((10 * v2) + x7) - 48) m6)
    · refine g_ldc (kdX12_nextNumber 12 rfl) cX12_118 ?_
      refine g_goto (tgt := 40) (kdX12_nextNumber 13 rfl) (by decide) ?_
      exact g_fgt [0, 1] rfl (BX12_nextNumber_40 v1 _ _ h7 h54 1000000 m4)
def JX12_nextNumber_7 (K54 : Int32 → hM → hR) (v1 : Int32) : Nat → Int32 → hM → hR
  | 0, _, _ => none
  | f + 1, v2, m => bJX12_nextNumber_7 (fun v2 m => JX12_nextNumber_7 K54 v1 f v2 m) K54 v1 v2 m
theorem BJX12_nextNumber_7 (K54 : Int32 → hM → hR) (v1 : Int32) (h54 : ∀ (v2 : Int32) (m : hM), G mX12_nextNumber 1 54 [(0, .inr (.inr (40, 0))), (1, .inl v1), (2, .inl v2)] [] m (K54 v2 m)) : ∀ (f : Nat) (v2 : Int32) (m : hM), G mX12_nextNumber 1 7 [(0, .inr (.inr (40, 0))), (1, .inl v1), (2, .inl v2)] [] m (JX12_nextNumber_7 K54 v1 f v2 m)
  | 0, _, _ => g_none
  | f + 1, v2, m => BbJX12_nextNumber_7  _ K54 v1 (fun v2 m => BJX12_nextNumber_7  K54 v1 h54 f v2 m) h54 v2 m
def JX12_nextNumber (a1 : Int32) (m : hM) : hR :=
  stI m 40 0 5 2 fun m1 =>
  JX12_nextNumber_7 (fun v2 m9 => if a1 = 0 then (stI m9 40 0 7 v2 fun m10 =>
  some (none, m10)) else (stI m9 40 0 7 (-v2) fun m11 =>
  some (none, m11))) a1 FU 0 m1
set_option maxRecDepth 20000 in
theorem CX12_nextNumber (a1 : Int32) (m : hM) : Cn mX12_nextNumber 1 [.inr (.inr (40, 0)), .inl a1] m (JX12_nextNumber a1 m) := by
  refine cn_of (by decide +kernel) (by simp only [List.map, vcat, List.sum_cons, List.sum_nil]; decide) ?_
  unfold JX12_nextNumber
  show G mX12_nextNumber 1 0 [(0, .inr (.inr (40, 0))), (1, .inl a1)] [] m _
  refine g_aload_n 0 (kdX12_nextNumber 0 rfl) rfl ?_
  refine g_iconst (v := 2) (kdX12_nextNumber 1 rfl) (by decide) ?_
  refine g_putI (kdX12_nextNumber 2 rfl) fX12_96 rfl (fun m1 => ?_)
  refine g_iconst (v := 0) (kdX12_nextNumber 3 rfl) (by decide) ?_
  refine g_istore_n (L2 := [(2, .inl 0), (0, .inr (.inr (40, 0))), (1, .inl a1)]) (kdX12_nextNumber 4 rfl) rfl (by decide) ?_
  refine g_fgt [1, 2, 0] rfl (BJX12_nextNumber_7  _ a1 ?_ FU 0 m1)
  · intro v2 m9
    refine g_aload_n 0 (kdX12_nextNumber 30 rfl) rfl ?_
    refine g_iload_n 1 (kdX12_nextNumber 31 rfl) rfl ?_
    refine g_if_eq (tgt := 64) (kdX12_nextNumber 32 rfl) (by decide) (fun _ => ?_) (fun _ => ?_)
    · refine g_iload_n 2 (kdX12_nextNumber 36 rfl) rfl ?_
      refine g_putI (kdX12_nextNumber 37 rfl) fX12_119 rfl (fun m10 => ?_)
      exact g_vret rfl (kdX12_nextNumber 38 rfl)
    · refine g_iload_n 2 (kdX12_nextNumber 33 rfl) rfl ?_
      refine g_ineg (kdX12_nextNumber 34 rfl) ?_
      refine g_goto (tgt := 65) (kdX12_nextNumber 35 rfl) (by decide) ?_
      refine g_putI (kdX12_nextNumber 37 rfl) fX12_119 rfl (fun m11 => ?_)
      exact g_vret rfl (kdX12_nextNumber 38 rfl)
def bJX12_next_0 (K0 : hM → hR) (K22 : hM → hR) (m : hM) : hR :=
  calI (JX12_here m) fun x2 m1 =>
  if x2 = 32 then (stI m1 40 0 3 ((m1.1 40 0 3) + 1) fun m3 =>
  K0 m3) else (K22 m1)
set_option maxRecDepth 20000 in
theorem BbJX12_next_0 (K0 : hM → hR) (K22 : hM → hR) (h0 : ∀ (m : hM), G mX12_next 2 0 [(0, .inr (.inr (40, 0)))] [] m (K0 m)) (h22 : ∀ (m : hM), G mX12_next 2 22 [(0, .inr (.inr (40, 0)))] [] m (K22 m)) (m : hM) : G mX12_next 2 0 [(0, .inr (.inr (40, 0)))] [] m (bJX12_next_0 K0 K22 m) := by
  unfold bJX12_next_0
  refine g_aload_n 0 (kdX12_next 0 rfl) rfl ?_
  refine g_calI (ck_V (As := []) (S := []) (t := 40) (o := 0) (kdX12_next 1 rfl) iX12_here lX12_103 rc_40 rfl rfl rfl (by decide) (by simp only [List.map, vcat, List.sum_cons, List.sum_nil]; decide)) (CX12_here m) (fun x2 m1 => ?_)
  refine g_bipush (v := 32) (kdX12_next 2 rfl) (by decide) ?_
  refine g_icmp_ne (tgt := 22) (kdX12_next 3 rfl) (by decide) (fun _ => ?_) (fun _ => ?_)
  · exact g_fgt [0] rfl (h22 m1)
  · refine g_aload_n 0 (kdX12_next 4 rfl) rfl ?_
    refine g_dup (kdX12_next 5 rfl) rfl ?_
    refine g_get (v := .inl (m1.1 40 0 3)) (kdX12_next 6 rfl) fX12_93 rfl ?_
    refine g_iconst (v := 1) (kdX12_next 7 rfl) (by decide) ?_
    refine g_iadd (kdX12_next 8 rfl) ?_
    refine g_putI (kdX12_next 9 rfl) fX12_93 rfl (fun m3 => ?_)
    refine g_goto (tgt := 0) (kdX12_next 10 rfl) (by decide) ?_
    exact g_fgt [0] rfl (h0 m3)
def JX12_next_0 (K22 : hM → hR) : Nat → hM → hR
  | 0, _ => none
  | f + 1, m => bJX12_next_0 (fun m => JX12_next_0 K22  f m) K22   m
theorem BJX12_next_0 (K22 : hM → hR) (h22 : ∀ (m : hM), G mX12_next 2 22 [(0, .inr (.inr (40, 0)))] [] m (K22 m)) : ∀ (f : Nat) (m : hM), G mX12_next 2 0 [(0, .inr (.inr (40, 0)))] [] m (JX12_next_0 K22  f  m)
  | 0, _ => g_none
  | f + 1, m => BbJX12_next_0  _ K22  (fun  m => BJX12_next_0  K22  h22 f  m) h22  m
def JX12_next  (m : hM) : hR :=
  JX12_next_0 (fun m4 => stI m4 40 0 6 (m4.1 40 0 3) fun m5 =>
  calI (JX12_here m5) fun x7 m6 =>
  if x7 = (-1) then (stI m6 40 0 5 0 fun m25 =>
  some (none, m25)) else (calI (JX12_isLetter x7 m6) fun x9 m8 =>
  if x9 = 0 then (calI (JX12_isDigit x7 m8) fun x11 m10 =>
  if x11 = 0 then (if x7 = 45 then (stI m10 40 0 3 ((m10.1 40 0 3) + 1) fun m16 =>
  stI m16 40 0 5 5 fun m17 =>
  calI (JX12_here m17) fun x19 m18 =>
  calI (JX12_isDigit x19 m18) fun x21 m20 =>
  if x21 = 0 then (some (none, m20)) else (calV (JX12_nextNumber 1 m20) fun m22 =>
  some (none, m22))) else (stI m10 40 0 3 ((m10.1 40 0 3) + 1) fun m12 =>
  if x7 = 59 then (stI m12 40 0 5 3 fun m15 =>
  some (none, m15)) else (if x7 = 44 then (stI m12 40 0 5 4 fun m14 =>
  some (none, m14)) else (stI m12 40 0 5 5 fun m13 =>
  some (none, m13))))) else (calV (JX12_nextNumber 0 m10) fun m23 =>
  some (none, m23))) else (calV (JX12_nextWord m8) fun m24 =>
  some (none, m24))))  FU  m
set_option maxRecDepth 20000 in
theorem CX12_next  (m : hM) : Cn mX12_next 2 [.inr (.inr (40, 0))] m (JX12_next  m) := by
  refine cn_of (by decide +kernel) (by simp only [List.map, vcat, List.sum_cons, List.sum_nil]; decide) ?_
  unfold JX12_next
  show G mX12_next 2 0 [(0, .inr (.inr (40, 0)))] [] m _
  refine g_fgt [0] rfl (BJX12_next_0  _  ?_ FU  m)
  · intro m4
    refine g_aload_n 0 (kdX12_next 11 rfl) rfl ?_
    refine g_aload_n 0 (kdX12_next 12 rfl) rfl ?_
    refine g_get (v := .inl (m4.1 40 0 3)) (kdX12_next 13 rfl) fX12_93 rfl ?_
    refine g_putI (kdX12_next 14 rfl) fX12_122 rfl (fun m5 => ?_)
    refine g_aload_n 0 (kdX12_next 15 rfl) rfl ?_
    refine g_calI (ck_V (As := []) (S := []) (t := 40) (o := 0) (kdX12_next 16 rfl) iX12_here lX12_103 rc_40 rfl rfl rfl (by decide) (by simp only [List.map, vcat, List.sum_cons, List.sum_nil]; decide)) (CX12_here m5) (fun x7 m6 => ?_)
    refine g_istore_n (L2 := [(1, .inl x7), (0, .inr (.inr (40, 0)))]) (kdX12_next 17 rfl) rfl (by decide) ?_
    refine g_iload_n 0 (kdX12_next 18 rfl) rfl ?_
    refine g_iconst (v := (-1)) (kdX12_next 19 rfl) (by decide) ?_
    refine g_icmp_ne (tgt := 48) (kdX12_next 20 rfl) (by decide) (fun _ => ?_) (fun _ => ?_)
    · refine g_iload_n 0 (kdX12_next 25 rfl) rfl ?_
      refine g_calI (ck_S (As := [.inl x7]) (S := []) (kdX12_next 26 rfl) iX12_isLetter lX12_107 rfl rfl rfl (by decide) (by simp only [List.map, vcat, List.sum_cons, List.sum_nil]; decide)) (CX12_isLetter x7 m6) (fun x9 m8 => ?_)
      refine g_if_eq (tgt := 62) (kdX12_next 27 rfl) (by decide) (fun _ => ?_) (fun _ => ?_)
      · refine g_iload_n 0 (kdX12_next 31 rfl) rfl ?_
        refine g_calI (ck_S (As := [.inl x7]) (S := []) (kdX12_next 32 rfl) iX12_isDigit lX12_115 rfl rfl rfl (by decide) (by simp only [List.map, vcat, List.sum_cons, List.sum_nil]; decide)) (CX12_isDigit x7 m8) (fun x11 m10 => ?_)
        refine g_if_eq (tgt := 77) (kdX12_next 33 rfl) (by decide) (fun _ => ?_) (fun _ => ?_)
        · refine g_iload_n 0 (kdX12_next 38 rfl) rfl ?_
          refine g_bipush (v := 45) (kdX12_next 39 rfl) (by decide) ?_
          refine g_icmp_ne (tgt := 116) (kdX12_next 40 rfl) (by decide) (fun _ => ?_) (fun _ => ?_)
          · refine g_aload_n 1 (kdX12_next 58 rfl) rfl ?_
            refine g_dup (kdX12_next 59 rfl) rfl ?_
            refine g_get (v := .inl (m10.1 40 0 3)) (kdX12_next 60 rfl) fX12_93 rfl ?_
            refine g_iconst (v := 1) (kdX12_next 61 rfl) (by decide) ?_
            refine g_iadd (kdX12_next 62 rfl) ?_
            refine g_putI (kdX12_next 63 rfl) fX12_93 rfl (fun m12 => ?_)
            refine g_aload_n 1 (kdX12_next 64 rfl) rfl ?_
            refine g_iload_n 0 (kdX12_next 65 rfl) rfl ?_
            refine g_bipush (v := 59) (kdX12_next 66 rfl) (by decide) ?_
            refine g_icmp_ne (tgt := 137) (kdX12_next 67 rfl) (by decide) (fun _ => ?_) (fun _ => ?_)
            · refine g_iload_n 0 (kdX12_next 70 rfl) rfl ?_
              refine g_bipush (v := 44) (kdX12_next 71 rfl) (by decide) ?_
              refine g_icmp_ne (tgt := 147) (kdX12_next 72 rfl) (by decide) (fun _ => ?_) (fun _ => ?_)
              · refine g_iconst (v := 5) (kdX12_next 75 rfl) (by decide) ?_
                refine g_putI (kdX12_next 76 rfl) fX12_96 rfl (fun m13 => ?_)
                exact g_vret rfl (kdX12_next 77 rfl)
              · refine g_iconst (v := 4) (kdX12_next 73 rfl) (by decide) ?_
                refine g_goto (tgt := 148) (kdX12_next 74 rfl) (by decide) ?_
                refine g_putI (kdX12_next 76 rfl) fX12_96 rfl (fun m14 => ?_)
                exact g_vret rfl (kdX12_next 77 rfl)
            · refine g_iconst (v := 3) (kdX12_next 68 rfl) (by decide) ?_
              refine g_goto (tgt := 148) (kdX12_next 69 rfl) (by decide) ?_
              refine g_putI (kdX12_next 76 rfl) fX12_96 rfl (fun m15 => ?_)
              exact g_vret rfl (kdX12_next 77 rfl)
          · refine g_aload_n 1 (kdX12_next 41 rfl) rfl ?_
            refine g_dup (kdX12_next 42 rfl) rfl ?_
            refine g_get (v := .inl (m10.1 40 0 3)) (kdX12_next 43 rfl) fX12_93 rfl ?_
            refine g_iconst (v := 1) (kdX12_next 44 rfl) (by decide) ?_
            refine g_iadd (kdX12_next 45 rfl) ?_
            refine g_putI (kdX12_next 46 rfl) fX12_93 rfl (fun m16 => ?_)
            refine g_aload_n 1 (kdX12_next 47 rfl) rfl ?_
            refine g_iconst (v := 5) (kdX12_next 48 rfl) (by decide) ?_
            refine g_putI (kdX12_next 49 rfl) fX12_96 rfl (fun m17 => ?_)
            refine g_aload_n 1 (kdX12_next 50 rfl) rfl ?_
            refine g_calI (ck_V (As := []) (S := []) (t := 40) (o := 0) (kdX12_next 51 rfl) iX12_here lX12_103 rc_40 rfl rfl rfl (by decide) (by simp only [List.map, vcat, List.sum_cons, List.sum_nil]; decide)) (CX12_here m17) (fun x19 m18 => ?_)
            refine g_calI (ck_S (As := [.inl x19]) (S := []) (kdX12_next 52 rfl) iX12_isDigit lX12_115 rfl rfl rfl (by decide) (by simp only [List.map, vcat, List.sum_cons, List.sum_nil]; decide)) (CX12_isDigit x19 m18) (fun x21 m20 => ?_)
            refine g_if_eq (tgt := 151) (kdX12_next 53 rfl) (by decide) (fun _ => ?_) (fun _ => ?_)
            · exact g_vret rfl (kdX12_next 77 rfl)
            · refine g_aload_n 1 (kdX12_next 54 rfl) rfl ?_
              refine g_iconst (v := 1) (kdX12_next 55 rfl) (by decide) ?_
              refine g_calV (ck_V (As := [.inl 1]) (S := []) (t := 40) (o := 0) (kdX12_next 56 rfl) iX12_nextNumber lX12_128 rc_40 rfl rfl rfl (by decide) (by simp only [List.map, vcat, List.sum_cons, List.sum_nil]; decide)) (CX12_nextNumber 1 m20) (fun m22 => ?_)
              refine g_goto (tgt := 151) (kdX12_next 57 rfl) (by decide) ?_
              exact g_vret rfl (kdX12_next 77 rfl)
        · refine g_aload_n 1 (kdX12_next 34 rfl) rfl ?_
          refine g_iconst (v := 0) (kdX12_next 35 rfl) (by decide) ?_
          refine g_calV (ck_V (As := [.inl 0]) (S := []) (t := 40) (o := 0) (kdX12_next 36 rfl) iX12_nextNumber lX12_128 rc_40 rfl rfl rfl (by decide) (by simp only [List.map, vcat, List.sum_cons, List.sum_nil]; decide)) (CX12_nextNumber 0 m10) (fun m23 => ?_)
          refine g_goto (tgt := 151) (kdX12_next 37 rfl) (by decide) ?_
          exact g_vret rfl (kdX12_next 77 rfl)
      · refine g_aload_n 1 (kdX12_next 28 rfl) rfl ?_
        refine g_calV (ck_V (As := []) (S := []) (t := 40) (o := 0) (kdX12_next 29 rfl) iX12_nextWord lX12_125 rc_40 rfl rfl rfl (by decide) (by simp only [List.map, vcat, List.sum_cons, List.sum_nil]; decide)) (CX12_nextWord m8) (fun m24 => ?_)
        refine g_goto (tgt := 151) (kdX12_next 30 rfl) (by decide) ?_
        exact g_vret rfl (kdX12_next 77 rfl)
    · refine g_aload_n 1 (kdX12_next 21 rfl) rfl ?_
      refine g_iconst (v := 0) (kdX12_next 22 rfl) (by decide) ?_
      refine g_putI (kdX12_next 23 rfl) fX12_96 rfl (fun m25 => ?_)
      refine g_goto (tgt := 151) (kdX12_next 24 rfl) (by decide) ?_
      exact g_vret rfl (kdX12_next 77 rfl)
def JX12_bad  (m : hM) : hR :=
  if (m.1 40 0 4) = (-1) then (stI m 40 0 4 (m.1 40 0 6) fun m2 =>
  some (none, m2)) else (stI m 40 0 4 (m.1 40 0 4) fun m1 =>
  some (none, m1))
set_option maxRecDepth 20000 in
theorem CX12_bad  (m : hM) : Cn mX12_bad 0 [.inr (.inr (40, 0))] m (JX12_bad  m) := by
  refine cn_of (by decide +kernel) (by simp only [List.map, vcat, List.sum_cons, List.sum_nil]; decide) ?_
  unfold JX12_bad
  show G mX12_bad 0 0 [(0, .inr (.inr (40, 0)))] [] m _
  refine g_aload_n 0 (kdX12_bad 0 rfl) rfl ?_
  refine g_aload_n 0 (kdX12_bad 1 rfl) rfl ?_
  refine g_get (v := .inl (m.1 40 0 4)) (kdX12_bad 2 rfl) fX12_132 rfl ?_
  refine g_iconst (v := (-1)) (kdX12_bad 3 rfl) (by decide) ?_
  refine g_icmp_ne (tgt := 16) (kdX12_bad 4 rfl) (by decide) (fun _ => ?_) (fun _ => ?_)
  · refine g_aload_n 0 (kdX12_bad 8 rfl) rfl ?_
    refine g_get (v := .inl (m.1 40 0 4)) (kdX12_bad 9 rfl) fX12_132 rfl ?_
    refine g_putI (kdX12_bad 10 rfl) fX12_132 rfl (fun m1 => ?_)
    exact g_vret rfl (kdX12_bad 11 rfl)
  · refine g_aload_n 0 (kdX12_bad 5 rfl) rfl ?_
    refine g_get (v := .inl (m.1 40 0 6)) (kdX12_bad 6 rfl) fX12_122 rfl ?_
    refine g_goto (tgt := 20) (kdX12_bad 7 rfl) (by decide) ?_
    refine g_putI (kdX12_bad 10 rfl) fX12_132 rfl (fun m2 => ?_)
    exact g_vret rfl (kdX12_bad 11 rfl)
def JX12_word (a1 : Int32) (a2 : Int32) (a3 : Int32) (a4 : Int32) (a5 : Int32) (m : hM) : hR :=
  lt (((32 * ((a1 - 96).toInt64)) + a2.toInt64) - 96) fun x1 =>
  lt (((32 * x1) + a3.toInt64) - 96) fun x2 =>
  lt (((32 * x2) + a4.toInt64) - 96) fun x3 =>
  if a5 = 0 then (some (some (.inr (.inl x3)), m)) else (some (some (.inr (.inl (((32 * x3) + a5.toInt64) - 96))), m))
set_option maxRecDepth 20000 in
theorem CX12_word (a1 : Int32) (a2 : Int32) (a3 : Int32) (a4 : Int32) (a5 : Int32) (m : hM) : Cn mX12_word 0 [.inl a1, .inl a2, .inl a3, .inl a4, .inl a5] m (JX12_word a1 a2 a3 a4 a5 m) := by
  refine cn_of (by decide +kernel) (by simp only [List.map, vcat, List.sum_cons, List.sum_nil]; decide) ?_
  unfold JX12_word
  show G mX12_word 0 0 [(0, .inl a1), (1, .inl a2), (2, .inl a3), (3, .inl a4), (4, .inl a5)] [] m _
  refine g_ldc2 (kdX12_word 0 rfl) cX12_111 ?_
  refine g_iload_n 0 (kdX12_word 1 rfl) rfl ?_
  refine g_bipush (v := 96) (kdX12_word 2 rfl) (by decide) ?_
  refine g_isub (kdX12_word 3 rfl) ?_
  refine g_i2l (kdX12_word 4 rfl) ?_
  refine g_lmul (kdX12_word 5 rfl) ?_
  refine g_iload_n 1 (kdX12_word 6 rfl) rfl ?_
  refine g_i2l (kdX12_word 7 rfl) ?_
  refine g_ladd (kdX12_word 8 rfl) ?_
  refine g_ldc2 (kdX12_word 9 rfl) cX12_135 ?_
  refine g_lsub (kdX12_word 10 rfl) ?_
  refine g_ltl (fun x1 => ?_)
  refine g_lstore (L2 := [(5, .inr (.inl x1)), (0, .inl a1), (1, .inl a2), (2, .inl a3), (3, .inl a4), (4, .inl a5)]) (kdX12_word 11 rfl) rfl (by decide) ?_
  refine g_ldc2 (kdX12_word 12 rfl) cX12_111 ?_
  refine g_lload 0 (kdX12_word 13 rfl) rfl ?_
  refine g_lmul (kdX12_word 14 rfl) ?_
  refine g_iload_n 3 (kdX12_word 15 rfl) rfl ?_
  refine g_i2l (kdX12_word 16 rfl) ?_
  refine g_ladd (kdX12_word 17 rfl) ?_
  refine g_ldc2 (kdX12_word 18 rfl) cX12_135 ?_
  refine g_lsub (kdX12_word 19 rfl) ?_
  refine g_ltl (fun x2 => ?_)
  refine g_lstore (L2 := [(5, .inr (.inl x2)), (0, .inl a1), (1, .inl a2), (2, .inl a3), (3, .inl a4), (4, .inl a5)]) (kdX12_word 20 rfl) rfl (by decide) ?_
  refine g_ldc2 (kdX12_word 21 rfl) cX12_111 ?_
  refine g_lload 0 (kdX12_word 22 rfl) rfl ?_
  refine g_lmul (kdX12_word 23 rfl) ?_
  refine g_iload_n 4 (kdX12_word 24 rfl) rfl ?_
  refine g_i2l (kdX12_word 25 rfl) ?_
  refine g_ladd (kdX12_word 26 rfl) ?_
  refine g_ldc2 (kdX12_word 27 rfl) cX12_135 ?_
  refine g_lsub (kdX12_word 28 rfl) ?_
  refine g_ltl (fun x3 => ?_)
  refine g_lstore (L2 := [(5, .inr (.inl x3)), (0, .inl a1), (1, .inl a2), (2, .inl a3), (3, .inl a4), (4, .inl a5)]) (kdX12_word 29 rfl) rfl (by decide) ?_
  refine g_iload 5 (kdX12_word 30 rfl) rfl ?_
  refine g_if_ne (tgt := 58) (kdX12_word 31 rfl) (by decide) (fun _ => ?_) (fun _ => ?_)
  · refine g_ldc2 (kdX12_word 34 rfl) cX12_111 ?_
    refine g_lload 0 (kdX12_word 35 rfl) rfl ?_
    refine g_lmul (kdX12_word 36 rfl) ?_
    refine g_iload 5 (kdX12_word 37 rfl) rfl ?_
    refine g_i2l (kdX12_word 38 rfl) ?_
    refine g_ladd (kdX12_word 39 rfl) ?_
    refine g_ldc2 (kdX12_word 40 rfl) cX12_135 ?_
    refine g_lsub (kdX12_word 41 rfl) ?_
    exact g_lret rfl (kdX12_word 42 rfl)
  · refine g_lload 0 (kdX12_word 32 rfl) rfl ?_
    refine g_goto (tgt := 72) (kdX12_word 33 rfl) (by decide) ?_
    exact g_lret rfl (kdX12_word 42 rfl)
def JX12_shortWord (a1 : Int32) (a2 : Int32) (a3 : Int32) (m : hM) : hR :=
  some (some (.inr (.inl ((((1024 * ((a1 - 96).toInt64)) + (32 * ((a2 - 96).toInt64))) + a3.toInt64) - 96))), m)
set_option maxRecDepth 20000 in
theorem CX12_shortWord (a1 : Int32) (a2 : Int32) (a3 : Int32) (m : hM) : Cn mX12_shortWord 0 [.inl a1, .inl a2, .inl a3] m (JX12_shortWord a1 a2 a3 m) := by
  refine cn_of (by decide +kernel) (by simp only [List.map, vcat, List.sum_cons, List.sum_nil]; decide) ?_
  unfold JX12_shortWord
  show G mX12_shortWord 0 0 [(0, .inl a1), (1, .inl a2), (2, .inl a3)] [] m _
  refine g_ldc2 (kdX12_shortWord 0 rfl) cX12_137 ?_
  refine g_iload_n 0 (kdX12_shortWord 1 rfl) rfl ?_
  refine g_bipush (v := 96) (kdX12_shortWord 2 rfl) (by decide) ?_
  refine g_isub (kdX12_shortWord 3 rfl) ?_
  refine g_i2l (kdX12_shortWord 4 rfl) ?_
  refine g_lmul (kdX12_shortWord 5 rfl) ?_
  refine g_ldc2 (kdX12_shortWord 6 rfl) cX12_111 ?_
  refine g_iload_n 1 (kdX12_shortWord 7 rfl) rfl ?_
  refine g_bipush (v := 96) (kdX12_shortWord 8 rfl) (by decide) ?_
  refine g_isub (kdX12_shortWord 9 rfl) ?_
  refine g_i2l (kdX12_shortWord 10 rfl) ?_
  refine g_lmul (kdX12_shortWord 11 rfl) ?_
  refine g_ladd (kdX12_shortWord 12 rfl) ?_
  refine g_iload_n 2 (kdX12_shortWord 13 rfl) rfl ?_
  refine g_i2l (kdX12_shortWord 14 rfl) ?_
  refine g_ladd (kdX12_shortWord 15 rfl) ?_
  refine g_ldc2 (kdX12_shortWord 16 rfl) cX12_135 ?_
  refine g_lsub (kdX12_shortWord 17 rfl) ?_
  exact g_lret rfl (kdX12_shortWord 18 rfl)
def JX12_lineWord (a1 : Int32) (m : hM) : hR :=
  swL a1 [(0, calL (JX12_word 112 117 108 115 101 m) fun x2 m1 =>
  some (some (.inr (.inl x2)), m1)), (1, calL (JX12_word 102 111 114 101 0 m) fun x4 m3 =>
  some (some (.inr (.inl x4)), m3)), (2, calL (JX12_word 98 97 99 107 0 m) fun x6 m5 =>
  some (some (.inr (.inl x6)), m5)), (3, calL (JX12_word 100 101 108 97 121 m) fun x8 m7 =>
  some (some (.inr (.inl x8)), m7)), (4, calL (JX12_word 108 101 118 101 108 m) fun x10 m9 =>
  some (some (.inr (.inl x10)), m9)), (5, calL (JX12_word 103 101 97 114 0 m) fun x12 m11 =>
  some (some (.inr (.inl x12)), m11)), (6, calL (JX12_word 102 108 111 111 114 m) fun x14 m13 =>
  some (some (.inr (.inl x14)), m13)), (7, calL (JX12_word 110 111 105 115 101 m) fun x16 m15 =>
  some (some (.inr (.inl x16)), m15)), (8, calL (JX12_word 116 114 97 105 110 m) fun x18 m17 =>
  some (some (.inr (.inl x18)), m17)), (9, calL (JX12_word 115 101 101 100 0 m) fun x20 m19 =>
  some (some (.inr (.inl x20)), m19)), (10, calL (JX12_word 116 114 97 99 107 m) fun x22 m21 =>
  some (some (.inr (.inl x22)), m21)), (11, calL (JX12_word 108 111 99 107 0 m) fun x24 m23 =>
  some (some (.inr (.inl x24)), m23))] (calL (JX12_word 119 111 114 100 0 m) fun x26 m25 =>
  some (some (.inr (.inl x26)), m25))
set_option maxRecDepth 20000 in
theorem CX12_lineWord (a1 : Int32) (m : hM) : Cn mX12_lineWord 1 [.inl a1] m (JX12_lineWord a1 m) := by
  refine cn_of (by decide +kernel) (by simp only [List.map, vcat, List.sum_cons, List.sum_nil]; decide) ?_
  unfold JX12_lineWord
  show G mX12_lineWord 1 0 [(0, .inl a1)] [] m _
  refine g_iload_n 0 (kdX12_lineWord 0 rfl) rfl ?_
  refine g_table (offs := [63, 77, 90, 103, 117, 131, 144, 158, 172, 186, 199, 213]) (dt := 227) (kdX12_lineWord 1 rfl) (by simp only [swK]; decide) rfl (by decide) ⟨⟨64, by decide, ?_⟩, ⟨78, by decide, ?_⟩, ⟨91, by decide, ?_⟩, ⟨104, by decide, ?_⟩, ⟨118, by decide, ?_⟩, ⟨132, by decide, ?_⟩, ⟨145, by decide, ?_⟩, ⟨159, by decide, ?_⟩, ⟨173, by decide, ?_⟩, ⟨187, by decide, ?_⟩, ⟨200, by decide, ?_⟩, ⟨214, by decide, ?_⟩, trivial⟩ ?_
  · refine g_bipush (v := 112) (kdX12_lineWord 2 rfl) (by decide) ?_
    refine g_bipush (v := 117) (kdX12_lineWord 3 rfl) (by decide) ?_
    refine g_bipush (v := 108) (kdX12_lineWord 4 rfl) (by decide) ?_
    refine g_bipush (v := 115) (kdX12_lineWord 5 rfl) (by decide) ?_
    refine g_bipush (v := 101) (kdX12_lineWord 6 rfl) (by decide) ?_
    refine g_calL (ck_S (As := [.inl 112, .inl 117, .inl 108, .inl 115, .inl 101]) (S := []) (kdX12_lineWord 7 rfl) iX12_word lX12_139 rfl rfl rfl (by decide) (by simp only [List.map, vcat, List.sum_cons, List.sum_nil]; decide)) (CX12_word 112 117 108 115 101 m) (fun x2 m1 => ?_)
    exact g_lret rfl (kdX12_lineWord 8 rfl)
  · refine g_bipush (v := 102) (kdX12_lineWord 9 rfl) (by decide) ?_
    refine g_bipush (v := 111) (kdX12_lineWord 10 rfl) (by decide) ?_
    refine g_bipush (v := 114) (kdX12_lineWord 11 rfl) (by decide) ?_
    refine g_bipush (v := 101) (kdX12_lineWord 12 rfl) (by decide) ?_
    refine g_iconst (v := 0) (kdX12_lineWord 13 rfl) (by decide) ?_
    refine g_calL (ck_S (As := [.inl 102, .inl 111, .inl 114, .inl 101, .inl 0]) (S := []) (kdX12_lineWord 14 rfl) iX12_word lX12_139 rfl rfl rfl (by decide) (by simp only [List.map, vcat, List.sum_cons, List.sum_nil]; decide)) (CX12_word 102 111 114 101 0 m) (fun x4 m3 => ?_)
    exact g_lret rfl (kdX12_lineWord 15 rfl)
  · refine g_bipush (v := 98) (kdX12_lineWord 16 rfl) (by decide) ?_
    refine g_bipush (v := 97) (kdX12_lineWord 17 rfl) (by decide) ?_
    refine g_bipush (v := 99) (kdX12_lineWord 18 rfl) (by decide) ?_
    refine g_bipush (v := 107) (kdX12_lineWord 19 rfl) (by decide) ?_
    refine g_iconst (v := 0) (kdX12_lineWord 20 rfl) (by decide) ?_
    refine g_calL (ck_S (As := [.inl 98, .inl 97, .inl 99, .inl 107, .inl 0]) (S := []) (kdX12_lineWord 21 rfl) iX12_word lX12_139 rfl rfl rfl (by decide) (by simp only [List.map, vcat, List.sum_cons, List.sum_nil]; decide)) (CX12_word 98 97 99 107 0 m) (fun x6 m5 => ?_)
    exact g_lret rfl (kdX12_lineWord 22 rfl)
  · refine g_bipush (v := 100) (kdX12_lineWord 23 rfl) (by decide) ?_
    refine g_bipush (v := 101) (kdX12_lineWord 24 rfl) (by decide) ?_
    refine g_bipush (v := 108) (kdX12_lineWord 25 rfl) (by decide) ?_
    refine g_bipush (v := 97) (kdX12_lineWord 26 rfl) (by decide) ?_
    refine g_bipush (v := 121) (kdX12_lineWord 27 rfl) (by decide) ?_
    refine g_calL (ck_S (As := [.inl 100, .inl 101, .inl 108, .inl 97, .inl 121]) (S := []) (kdX12_lineWord 28 rfl) iX12_word lX12_139 rfl rfl rfl (by decide) (by simp only [List.map, vcat, List.sum_cons, List.sum_nil]; decide)) (CX12_word 100 101 108 97 121 m) (fun x8 m7 => ?_)
    exact g_lret rfl (kdX12_lineWord 29 rfl)
  · refine g_bipush (v := 108) (kdX12_lineWord 30 rfl) (by decide) ?_
    refine g_bipush (v := 101) (kdX12_lineWord 31 rfl) (by decide) ?_
    refine g_bipush (v := 118) (kdX12_lineWord 32 rfl) (by decide) ?_
    refine g_bipush (v := 101) (kdX12_lineWord 33 rfl) (by decide) ?_
    refine g_bipush (v := 108) (kdX12_lineWord 34 rfl) (by decide) ?_
    refine g_calL (ck_S (As := [.inl 108, .inl 101, .inl 118, .inl 101, .inl 108]) (S := []) (kdX12_lineWord 35 rfl) iX12_word lX12_139 rfl rfl rfl (by decide) (by simp only [List.map, vcat, List.sum_cons, List.sum_nil]; decide)) (CX12_word 108 101 118 101 108 m) (fun x10 m9 => ?_)
    exact g_lret rfl (kdX12_lineWord 36 rfl)
  · refine g_bipush (v := 103) (kdX12_lineWord 37 rfl) (by decide) ?_
    refine g_bipush (v := 101) (kdX12_lineWord 38 rfl) (by decide) ?_
    refine g_bipush (v := 97) (kdX12_lineWord 39 rfl) (by decide) ?_
    refine g_bipush (v := 114) (kdX12_lineWord 40 rfl) (by decide) ?_
    refine g_iconst (v := 0) (kdX12_lineWord 41 rfl) (by decide) ?_
    refine g_calL (ck_S (As := [.inl 103, .inl 101, .inl 97, .inl 114, .inl 0]) (S := []) (kdX12_lineWord 42 rfl) iX12_word lX12_139 rfl rfl rfl (by decide) (by simp only [List.map, vcat, List.sum_cons, List.sum_nil]; decide)) (CX12_word 103 101 97 114 0 m) (fun x12 m11 => ?_)
    exact g_lret rfl (kdX12_lineWord 43 rfl)
  · refine g_bipush (v := 102) (kdX12_lineWord 44 rfl) (by decide) ?_
    refine g_bipush (v := 108) (kdX12_lineWord 45 rfl) (by decide) ?_
    refine g_bipush (v := 111) (kdX12_lineWord 46 rfl) (by decide) ?_
    refine g_bipush (v := 111) (kdX12_lineWord 47 rfl) (by decide) ?_
    refine g_bipush (v := 114) (kdX12_lineWord 48 rfl) (by decide) ?_
    refine g_calL (ck_S (As := [.inl 102, .inl 108, .inl 111, .inl 111, .inl 114]) (S := []) (kdX12_lineWord 49 rfl) iX12_word lX12_139 rfl rfl rfl (by decide) (by simp only [List.map, vcat, List.sum_cons, List.sum_nil]; decide)) (CX12_word 102 108 111 111 114 m) (fun x14 m13 => ?_)
    exact g_lret rfl (kdX12_lineWord 50 rfl)
  · refine g_bipush (v := 110) (kdX12_lineWord 51 rfl) (by decide) ?_
    refine g_bipush (v := 111) (kdX12_lineWord 52 rfl) (by decide) ?_
    refine g_bipush (v := 105) (kdX12_lineWord 53 rfl) (by decide) ?_
    refine g_bipush (v := 115) (kdX12_lineWord 54 rfl) (by decide) ?_
    refine g_bipush (v := 101) (kdX12_lineWord 55 rfl) (by decide) ?_
    refine g_calL (ck_S (As := [.inl 110, .inl 111, .inl 105, .inl 115, .inl 101]) (S := []) (kdX12_lineWord 56 rfl) iX12_word lX12_139 rfl rfl rfl (by decide) (by simp only [List.map, vcat, List.sum_cons, List.sum_nil]; decide)) (CX12_word 110 111 105 115 101 m) (fun x16 m15 => ?_)
    exact g_lret rfl (kdX12_lineWord 57 rfl)
  · refine g_bipush (v := 116) (kdX12_lineWord 58 rfl) (by decide) ?_
    refine g_bipush (v := 114) (kdX12_lineWord 59 rfl) (by decide) ?_
    refine g_bipush (v := 97) (kdX12_lineWord 60 rfl) (by decide) ?_
    refine g_bipush (v := 105) (kdX12_lineWord 61 rfl) (by decide) ?_
    refine g_bipush (v := 110) (kdX12_lineWord 62 rfl) (by decide) ?_
    refine g_calL (ck_S (As := [.inl 116, .inl 114, .inl 97, .inl 105, .inl 110]) (S := []) (kdX12_lineWord 63 rfl) iX12_word lX12_139 rfl rfl rfl (by decide) (by simp only [List.map, vcat, List.sum_cons, List.sum_nil]; decide)) (CX12_word 116 114 97 105 110 m) (fun x18 m17 => ?_)
    exact g_lret rfl (kdX12_lineWord 64 rfl)
  · refine g_bipush (v := 115) (kdX12_lineWord 65 rfl) (by decide) ?_
    refine g_bipush (v := 101) (kdX12_lineWord 66 rfl) (by decide) ?_
    refine g_bipush (v := 101) (kdX12_lineWord 67 rfl) (by decide) ?_
    refine g_bipush (v := 100) (kdX12_lineWord 68 rfl) (by decide) ?_
    refine g_iconst (v := 0) (kdX12_lineWord 69 rfl) (by decide) ?_
    refine g_calL (ck_S (As := [.inl 115, .inl 101, .inl 101, .inl 100, .inl 0]) (S := []) (kdX12_lineWord 70 rfl) iX12_word lX12_139 rfl rfl rfl (by decide) (by simp only [List.map, vcat, List.sum_cons, List.sum_nil]; decide)) (CX12_word 115 101 101 100 0 m) (fun x20 m19 => ?_)
    exact g_lret rfl (kdX12_lineWord 71 rfl)
  · refine g_bipush (v := 116) (kdX12_lineWord 72 rfl) (by decide) ?_
    refine g_bipush (v := 114) (kdX12_lineWord 73 rfl) (by decide) ?_
    refine g_bipush (v := 97) (kdX12_lineWord 74 rfl) (by decide) ?_
    refine g_bipush (v := 99) (kdX12_lineWord 75 rfl) (by decide) ?_
    refine g_bipush (v := 107) (kdX12_lineWord 76 rfl) (by decide) ?_
    refine g_calL (ck_S (As := [.inl 116, .inl 114, .inl 97, .inl 99, .inl 107]) (S := []) (kdX12_lineWord 77 rfl) iX12_word lX12_139 rfl rfl rfl (by decide) (by simp only [List.map, vcat, List.sum_cons, List.sum_nil]; decide)) (CX12_word 116 114 97 99 107 m) (fun x22 m21 => ?_)
    exact g_lret rfl (kdX12_lineWord 78 rfl)
  · refine g_bipush (v := 108) (kdX12_lineWord 79 rfl) (by decide) ?_
    refine g_bipush (v := 111) (kdX12_lineWord 80 rfl) (by decide) ?_
    refine g_bipush (v := 99) (kdX12_lineWord 81 rfl) (by decide) ?_
    refine g_bipush (v := 107) (kdX12_lineWord 82 rfl) (by decide) ?_
    refine g_iconst (v := 0) (kdX12_lineWord 83 rfl) (by decide) ?_
    refine g_calL (ck_S (As := [.inl 108, .inl 111, .inl 99, .inl 107, .inl 0]) (S := []) (kdX12_lineWord 84 rfl) iX12_word lX12_139 rfl rfl rfl (by decide) (by simp only [List.map, vcat, List.sum_cons, List.sum_nil]; decide)) (CX12_word 108 111 99 107 0 m) (fun x24 m23 => ?_)
    exact g_lret rfl (kdX12_lineWord 85 rfl)
  · refine g_bipush (v := 119) (kdX12_lineWord 86 rfl) (by decide) ?_
    refine g_bipush (v := 111) (kdX12_lineWord 87 rfl) (by decide) ?_
    refine g_bipush (v := 114) (kdX12_lineWord 88 rfl) (by decide) ?_
    refine g_bipush (v := 100) (kdX12_lineWord 89 rfl) (by decide) ?_
    refine g_iconst (v := 0) (kdX12_lineWord 90 rfl) (by decide) ?_
    refine g_calL (ck_S (As := [.inl 119, .inl 111, .inl 114, .inl 100, .inl 0]) (S := []) (kdX12_lineWord 91 rfl) iX12_word lX12_139 rfl rfl rfl (by decide) (by simp only [List.map, vcat, List.sum_cons, List.sum_nil]; decide)) (CX12_word 119 111 114 100 0 m) (fun x26 m25 => ?_)
    exact g_lret rfl (kdX12_lineWord 92 rfl)
def JX12_stepWord (a1 : Int32) (m : hM) : hR :=
  swL a1 [(0, calL (JX12_word 115 101 110 100 0 m) fun x2 m1 =>
  some (some (.inr (.inl x2)), m1)), (1, calL (JX12_word 112 104 97 115 101 m) fun x4 m3 =>
  some (some (.inr (.inl x4)), m3)), (2, calL (JX12_word 104 111 108 100 0 m) fun x6 m5 =>
  some (some (.inr (.inl x6)), m5)), (3, calL (JX12_shortWord 116 97 112 m) fun x8 m7 =>
  some (some (.inr (.inl x8)), m7)), (4, calL (JX12_word 100 114 111 112 0 m) fun x10 m9 =>
  some (some (.inr (.inl x10)), m9)), (5, calL (JX12_word 110 111 105 115 101 m) fun x12 m11 =>
  some (some (.inr (.inl x12)), m11)), (6, calL (JX12_word 116 114 97 105 110 m) fun x14 m13 =>
  some (some (.inr (.inl x14)), m13))] (calL (JX12_word 115 101 101 107 0 m) fun x16 m15 =>
  some (some (.inr (.inl x16)), m15))
set_option maxRecDepth 20000 in
theorem CX12_stepWord (a1 : Int32) (m : hM) : Cn mX12_stepWord 1 [.inl a1] m (JX12_stepWord a1 m) := by
  refine cn_of (by decide +kernel) (by simp only [List.map, vcat, List.sum_cons, List.sum_nil]; decide) ?_
  unfold JX12_stepWord
  show G mX12_stepWord 1 0 [(0, .inl a1)] [] m _
  refine g_iload_n 0 (kdX12_stepWord 0 rfl) rfl ?_
  refine g_table (offs := [43, 56, 70, 83, 93, 106, 120]) (dt := 135) (kdX12_stepWord 1 rfl) (by simp only [swK]; decide) rfl (by decide) ⟨⟨44, by decide, ?_⟩, ⟨57, by decide, ?_⟩, ⟨71, by decide, ?_⟩, ⟨84, by decide, ?_⟩, ⟨94, by decide, ?_⟩, ⟨107, by decide, ?_⟩, ⟨121, by decide, ?_⟩, trivial⟩ ?_
  · refine g_bipush (v := 115) (kdX12_stepWord 2 rfl) (by decide) ?_
    refine g_bipush (v := 101) (kdX12_stepWord 3 rfl) (by decide) ?_
    refine g_bipush (v := 110) (kdX12_stepWord 4 rfl) (by decide) ?_
    refine g_bipush (v := 100) (kdX12_stepWord 5 rfl) (by decide) ?_
    refine g_iconst (v := 0) (kdX12_stepWord 6 rfl) (by decide) ?_
    refine g_calL (ck_S (As := [.inl 115, .inl 101, .inl 110, .inl 100, .inl 0]) (S := []) (kdX12_stepWord 7 rfl) iX12_word lX12_139 rfl rfl rfl (by decide) (by simp only [List.map, vcat, List.sum_cons, List.sum_nil]; decide)) (CX12_word 115 101 110 100 0 m) (fun x2 m1 => ?_)
    exact g_lret rfl (kdX12_stepWord 8 rfl)
  · refine g_bipush (v := 112) (kdX12_stepWord 9 rfl) (by decide) ?_
    refine g_bipush (v := 104) (kdX12_stepWord 10 rfl) (by decide) ?_
    refine g_bipush (v := 97) (kdX12_stepWord 11 rfl) (by decide) ?_
    refine g_bipush (v := 115) (kdX12_stepWord 12 rfl) (by decide) ?_
    refine g_bipush (v := 101) (kdX12_stepWord 13 rfl) (by decide) ?_
    refine g_calL (ck_S (As := [.inl 112, .inl 104, .inl 97, .inl 115, .inl 101]) (S := []) (kdX12_stepWord 14 rfl) iX12_word lX12_139 rfl rfl rfl (by decide) (by simp only [List.map, vcat, List.sum_cons, List.sum_nil]; decide)) (CX12_word 112 104 97 115 101 m) (fun x4 m3 => ?_)
    exact g_lret rfl (kdX12_stepWord 15 rfl)
  · refine g_bipush (v := 104) (kdX12_stepWord 16 rfl) (by decide) ?_
    refine g_bipush (v := 111) (kdX12_stepWord 17 rfl) (by decide) ?_
    refine g_bipush (v := 108) (kdX12_stepWord 18 rfl) (by decide) ?_
    refine g_bipush (v := 100) (kdX12_stepWord 19 rfl) (by decide) ?_
    refine g_iconst (v := 0) (kdX12_stepWord 20 rfl) (by decide) ?_
    refine g_calL (ck_S (As := [.inl 104, .inl 111, .inl 108, .inl 100, .inl 0]) (S := []) (kdX12_stepWord 21 rfl) iX12_word lX12_139 rfl rfl rfl (by decide) (by simp only [List.map, vcat, List.sum_cons, List.sum_nil]; decide)) (CX12_word 104 111 108 100 0 m) (fun x6 m5 => ?_)
    exact g_lret rfl (kdX12_stepWord 22 rfl)
  · refine g_bipush (v := 116) (kdX12_stepWord 23 rfl) (by decide) ?_
    refine g_bipush (v := 97) (kdX12_stepWord 24 rfl) (by decide) ?_
    refine g_bipush (v := 112) (kdX12_stepWord 25 rfl) (by decide) ?_
    refine g_calL (ck_S (As := [.inl 116, .inl 97, .inl 112]) (S := []) (kdX12_stepWord 26 rfl) iX12_shortWord lX12_143 rfl rfl rfl (by decide) (by simp only [List.map, vcat, List.sum_cons, List.sum_nil]; decide)) (CX12_shortWord 116 97 112 m) (fun x8 m7 => ?_)
    exact g_lret rfl (kdX12_stepWord 27 rfl)
  · refine g_bipush (v := 100) (kdX12_stepWord 28 rfl) (by decide) ?_
    refine g_bipush (v := 114) (kdX12_stepWord 29 rfl) (by decide) ?_
    refine g_bipush (v := 111) (kdX12_stepWord 30 rfl) (by decide) ?_
    refine g_bipush (v := 112) (kdX12_stepWord 31 rfl) (by decide) ?_
    refine g_iconst (v := 0) (kdX12_stepWord 32 rfl) (by decide) ?_
    refine g_calL (ck_S (As := [.inl 100, .inl 114, .inl 111, .inl 112, .inl 0]) (S := []) (kdX12_stepWord 33 rfl) iX12_word lX12_139 rfl rfl rfl (by decide) (by simp only [List.map, vcat, List.sum_cons, List.sum_nil]; decide)) (CX12_word 100 114 111 112 0 m) (fun x10 m9 => ?_)
    exact g_lret rfl (kdX12_stepWord 34 rfl)
  · refine g_bipush (v := 110) (kdX12_stepWord 35 rfl) (by decide) ?_
    refine g_bipush (v := 111) (kdX12_stepWord 36 rfl) (by decide) ?_
    refine g_bipush (v := 105) (kdX12_stepWord 37 rfl) (by decide) ?_
    refine g_bipush (v := 115) (kdX12_stepWord 38 rfl) (by decide) ?_
    refine g_bipush (v := 101) (kdX12_stepWord 39 rfl) (by decide) ?_
    refine g_calL (ck_S (As := [.inl 110, .inl 111, .inl 105, .inl 115, .inl 101]) (S := []) (kdX12_stepWord 40 rfl) iX12_word lX12_139 rfl rfl rfl (by decide) (by simp only [List.map, vcat, List.sum_cons, List.sum_nil]; decide)) (CX12_word 110 111 105 115 101 m) (fun x12 m11 => ?_)
    exact g_lret rfl (kdX12_stepWord 41 rfl)
  · refine g_bipush (v := 116) (kdX12_stepWord 42 rfl) (by decide) ?_
    refine g_bipush (v := 114) (kdX12_stepWord 43 rfl) (by decide) ?_
    refine g_bipush (v := 97) (kdX12_stepWord 44 rfl) (by decide) ?_
    refine g_bipush (v := 105) (kdX12_stepWord 45 rfl) (by decide) ?_
    refine g_bipush (v := 110) (kdX12_stepWord 46 rfl) (by decide) ?_
    refine g_calL (ck_S (As := [.inl 116, .inl 114, .inl 97, .inl 105, .inl 110]) (S := []) (kdX12_stepWord 47 rfl) iX12_word lX12_139 rfl rfl rfl (by decide) (by simp only [List.map, vcat, List.sum_cons, List.sum_nil]; decide)) (CX12_word 116 114 97 105 110 m) (fun x14 m13 => ?_)
    exact g_lret rfl (kdX12_stepWord 48 rfl)
  · refine g_bipush (v := 115) (kdX12_stepWord 49 rfl) (by decide) ?_
    refine g_bipush (v := 101) (kdX12_stepWord 50 rfl) (by decide) ?_
    refine g_bipush (v := 101) (kdX12_stepWord 51 rfl) (by decide) ?_
    refine g_bipush (v := 107) (kdX12_stepWord 52 rfl) (by decide) ?_
    refine g_iconst (v := 0) (kdX12_stepWord 53 rfl) (by decide) ?_
    refine g_calL (ck_S (As := [.inl 115, .inl 101, .inl 101, .inl 107, .inl 0]) (S := []) (kdX12_stepWord 54 rfl) iX12_word lX12_139 rfl rfl rfl (by decide) (by simp only [List.map, vcat, List.sum_cons, List.sum_nil]; decide)) (CX12_word 115 101 101 107 0 m) (fun x16 m15 => ?_)
    exact g_lret rfl (kdX12_stepWord 55 rfl)
def JX12_lowest (a1 : Int32) (m : hM) : hR :=
  swL a1 [(0, some (some (.inl (-60)), m)), (1, some (some (.inl 1), m)), (2, some (some (.inl 0), m)), (3, some (some (.inl 0), m)), (4, some (some (.inl 1), m)), (5, some (some (.inl 1), m)), (6, some (some (.inl 0), m)), (7, some (some (.inl 0), m)), (8, some (some (.inl 0), m)), (9, some (some (.inl 1), m))] (some (some (.inl 0), m))
set_option maxRecDepth 20000 in
theorem CX12_lowest (a1 : Int32) (m : hM) : Cn mX12_lowest 0 [.inl a1] m (JX12_lowest a1 m) := by
  refine cn_of (by decide +kernel) (by simp only [List.map, vcat, List.sum_cons, List.sum_nil]; decide) ?_
  unfold JX12_lowest
  show G mX12_lowest 0 0 [(0, .inl a1)] [] m _
  refine g_iload_n 0 (kdX12_lowest 0 rfl) rfl ?_
  refine g_table (offs := [55, 58, 60, 60, 58, 58, 60, 60, 60, 58]) (dt := 61) (kdX12_lowest 1 rfl) (by simp only [swK]; decide) rfl (by decide) ⟨⟨56, by decide, ?_⟩, ⟨59, by decide, ?_⟩, ⟨61, by decide, ?_⟩, ⟨61, by decide, ?_⟩, ⟨59, by decide, ?_⟩, ⟨59, by decide, ?_⟩, ⟨61, by decide, ?_⟩, ⟨61, by decide, ?_⟩, ⟨61, by decide, ?_⟩, ⟨59, by decide, ?_⟩, trivial⟩ ?_
  · refine g_bipush (v := (-60)) (kdX12_lowest 2 rfl) (by decide) ?_
    exact g_iret rfl (kdX12_lowest 3 rfl)
  · refine g_iconst (v := 1) (kdX12_lowest 4 rfl) (by decide) ?_
    exact g_iret rfl (kdX12_lowest 5 rfl)
  · refine g_iconst (v := 0) (kdX12_lowest 6 rfl) (by decide) ?_
    exact g_iret rfl (kdX12_lowest 7 rfl)
  · refine g_iconst (v := 0) (kdX12_lowest 6 rfl) (by decide) ?_
    exact g_iret rfl (kdX12_lowest 7 rfl)
  · refine g_iconst (v := 1) (kdX12_lowest 4 rfl) (by decide) ?_
    exact g_iret rfl (kdX12_lowest 5 rfl)
  · refine g_iconst (v := 1) (kdX12_lowest 4 rfl) (by decide) ?_
    exact g_iret rfl (kdX12_lowest 5 rfl)
  · refine g_iconst (v := 0) (kdX12_lowest 6 rfl) (by decide) ?_
    exact g_iret rfl (kdX12_lowest 7 rfl)
  · refine g_iconst (v := 0) (kdX12_lowest 6 rfl) (by decide) ?_
    exact g_iret rfl (kdX12_lowest 7 rfl)
  · refine g_iconst (v := 0) (kdX12_lowest 6 rfl) (by decide) ?_
    exact g_iret rfl (kdX12_lowest 7 rfl)
  · refine g_iconst (v := 1) (kdX12_lowest 4 rfl) (by decide) ?_
    exact g_iret rfl (kdX12_lowest 5 rfl)
  · refine g_iconst (v := 0) (kdX12_lowest 6 rfl) (by decide) ?_
    exact g_iret rfl (kdX12_lowest 7 rfl)
def JX12_highest (a1 : Int32) (m : hM) : hR :=
  swL a1 [(0, some (some (.inl 60), m)), (1, some (some (.inl 3), m)), (2, some (some (.inl 3), m)), (3, some (some (.inl 2), m)), (4, some (some (.inl 99), m)), (5, some (some (.inl 9), m)), (6, some (some (.inl 60), m)), (7, some (some (.inl 4), m)), (8, some (some (.inl 99), m)), (9, some (some (.inl 127), m)), (10, some (some (.inl 1), m)), (11, some (some (.inl 9), m))] (some (some (.inl 1), m))
set_option maxRecDepth 20000 in
theorem CX12_highest (a1 : Int32) (m : hM) : Cn mX12_highest 0 [.inl a1] m (JX12_highest a1 m) := by
  refine cn_of (by decide +kernel) (by simp only [List.map, vcat, List.sum_cons, List.sum_nil]; decide) ?_
  unfold JX12_highest
  show G mX12_highest 0 0 [(0, .inl a1)] [] m _
  refine g_iload_n 0 (kdX12_highest 0 rfl) rfl ?_
  refine g_table (offs := [63, 66, 66, 68, 70, 73, 63, 76, 70, 78, 81, 73]) (dt := 82) (kdX12_highest 1 rfl) (by simp only [swK]; decide) rfl (by decide) ⟨⟨64, by decide, ?_⟩, ⟨67, by decide, ?_⟩, ⟨67, by decide, ?_⟩, ⟨69, by decide, ?_⟩, ⟨71, by decide, ?_⟩, ⟨74, by decide, ?_⟩, ⟨64, by decide, ?_⟩, ⟨77, by decide, ?_⟩, ⟨71, by decide, ?_⟩, ⟨79, by decide, ?_⟩, ⟨82, by decide, ?_⟩, ⟨74, by decide, ?_⟩, trivial⟩ ?_
  · refine g_bipush (v := 60) (kdX12_highest 2 rfl) (by decide) ?_
    exact g_iret rfl (kdX12_highest 3 rfl)
  · refine g_iconst (v := 3) (kdX12_highest 4 rfl) (by decide) ?_
    exact g_iret rfl (kdX12_highest 5 rfl)
  · refine g_iconst (v := 3) (kdX12_highest 4 rfl) (by decide) ?_
    exact g_iret rfl (kdX12_highest 5 rfl)
  · refine g_iconst (v := 2) (kdX12_highest 6 rfl) (by decide) ?_
    exact g_iret rfl (kdX12_highest 7 rfl)
  · refine g_bipush (v := 99) (kdX12_highest 8 rfl) (by decide) ?_
    exact g_iret rfl (kdX12_highest 9 rfl)
  · refine g_bipush (v := 9) (kdX12_highest 10 rfl) (by decide) ?_
    exact g_iret rfl (kdX12_highest 11 rfl)
  · refine g_bipush (v := 60) (kdX12_highest 2 rfl) (by decide) ?_
    exact g_iret rfl (kdX12_highest 3 rfl)
  · refine g_iconst (v := 4) (kdX12_highest 12 rfl) (by decide) ?_
    exact g_iret rfl (kdX12_highest 13 rfl)
  · refine g_bipush (v := 99) (kdX12_highest 8 rfl) (by decide) ?_
    exact g_iret rfl (kdX12_highest 9 rfl)
  · refine g_bipush (v := 127) (kdX12_highest 14 rfl) (by decide) ?_
    exact g_iret rfl (kdX12_highest 15 rfl)
  · refine g_iconst (v := 1) (kdX12_highest 16 rfl) (by decide) ?_
    exact g_iret rfl (kdX12_highest 17 rfl)
  · refine g_bipush (v := 9) (kdX12_highest 10 rfl) (by decide) ?_
    exact g_iret rfl (kdX12_highest 11 rfl)
  · refine g_iconst (v := 1) (kdX12_highest 16 rfl) (by decide) ?_
    exact g_iret rfl (kdX12_highest 17 rfl)
def JX12_usual (a1 : Int32) (m : hM) : hR :=
  swL a1 [(1, some (some (.inl 2), m)), (2, some (some (.inl 2), m)), (3, some (some (.inl 0), m)), (4, some (some (.inl 40), m)), (5, some (some (.inl 1), m)), (6, some (some (.inl 4), m)), (7, some (some (.inl 0), m)), (8, some (some (.inl 0), m)), (9, some (some (.inl 1), m))] (some (some (.inl 0), m))
set_option maxRecDepth 20000 in
theorem CX12_usual (a1 : Int32) (m : hM) : Cn mX12_usual 0 [.inl a1] m (JX12_usual a1 m) := by
  refine cn_of (by decide +kernel) (by simp only [List.map, vcat, List.sum_cons, List.sum_nil]; decide) ?_
  unfold JX12_usual
  show G mX12_usual 0 0 [(0, .inl a1)] [] m _
  refine g_iload_n 0 (kdX12_usual 0 rfl) rfl ?_
  refine g_table (offs := [51, 51, 60, 53, 56, 58, 60, 60, 56]) (dt := 61) (kdX12_usual 1 rfl) (by simp only [swK]; decide) rfl (by decide) ⟨⟨52, by decide, ?_⟩, ⟨52, by decide, ?_⟩, ⟨61, by decide, ?_⟩, ⟨54, by decide, ?_⟩, ⟨57, by decide, ?_⟩, ⟨59, by decide, ?_⟩, ⟨61, by decide, ?_⟩, ⟨61, by decide, ?_⟩, ⟨57, by decide, ?_⟩, trivial⟩ ?_
  · refine g_iconst (v := 2) (kdX12_usual 2 rfl) (by decide) ?_
    exact g_iret rfl (kdX12_usual 3 rfl)
  · refine g_iconst (v := 2) (kdX12_usual 2 rfl) (by decide) ?_
    exact g_iret rfl (kdX12_usual 3 rfl)
  · refine g_iconst (v := 0) (kdX12_usual 10 rfl) (by decide) ?_
    exact g_iret rfl (kdX12_usual 11 rfl)
  · refine g_bipush (v := 40) (kdX12_usual 4 rfl) (by decide) ?_
    exact g_iret rfl (kdX12_usual 5 rfl)
  · refine g_iconst (v := 1) (kdX12_usual 6 rfl) (by decide) ?_
    exact g_iret rfl (kdX12_usual 7 rfl)
  · refine g_iconst (v := 4) (kdX12_usual 8 rfl) (by decide) ?_
    exact g_iret rfl (kdX12_usual 9 rfl)
  · refine g_iconst (v := 0) (kdX12_usual 10 rfl) (by decide) ?_
    exact g_iret rfl (kdX12_usual 11 rfl)
  · refine g_iconst (v := 0) (kdX12_usual 10 rfl) (by decide) ?_
    exact g_iret rfl (kdX12_usual 11 rfl)
  · refine g_iconst (v := 1) (kdX12_usual 6 rfl) (by decide) ?_
    exact g_iret rfl (kdX12_usual 7 rfl)
  · refine g_iconst (v := 0) (kdX12_usual 10 rfl) (by decide) ?_
    exact g_iret rfl (kdX12_usual 11 rfl)
def JX12_wordAsked_52 (K14 : Int32 → hM → hR) (K50 : Int32 → hM → hR) (K58 : hM → hR) (v1 : Int32) (v2 : Int32) (v3 : Int32) (m : hM) : hR :=
  K14 (v3 + 1) m
set_option maxRecDepth 20000 in
theorem BX12_wordAsked_52 (v1 : Int32) (v2 : Int32) (K14 : Int32 → hM → hR) (K50 : Int32 → hM → hR) (K58 : hM → hR) (h14 : ∀ (v3 : Int32) (m : hM), G mX12_wordAsked 2 14 [(0, .inr (.inr (40, 0))), (1, .inl v1), (2, .inl v2), (3, .inl v3)] [] m (K14 v3 m)) (h50 : ∀ (v3 : Int32) (m : hM), G mX12_wordAsked 2 50 [(3, .inl v3)] [] m (K50 v3 m)) (h58 : ∀ (m : hM), G mX12_wordAsked 2 58 [] [] m (K58 m)) (v3 : Int32) (m : hM) : G mX12_wordAsked 2 52 [(0, .inr (.inr (40, 0))), (1, .inl v1), (2, .inl v2), (3, .inl v3)] [] m (JX12_wordAsked_52 K14 K50 K58 v1 v2 v3 m) := by
  unfold JX12_wordAsked_52
  refine g_iinc (v := v3 + 1) (L2 := [(3, .inl (v3 + 1)), (0, .inr (.inr (40, 0))), (1, .inl v1), (2, .inl v2)]) 3 (kdX12_wordAsked 28 rfl) rfl rfl rfl (by decide) ?_
  refine g_goto (tgt := 14) (kdX12_wordAsked 29 rfl) (by decide) ?_
  exact g_fgt [1, 2, 3, 0] rfl (h14 (v3 + 1) m)
def JX12_wordAsked_46 (K14 : Int32 → hM → hR) (K50 : Int32 → hM → hR) (K58 : hM → hR) (v1 : Int32) (v2 : Int32) (v3 : Int32) (v100 : Int64) (v101 : Int64) (m : hM) : hR :=
  if (lg_cmp v101 v100) = 0 then (K50 v3 m) else (JX12_wordAsked_52 K14 K50 K58 v1 v2 v3 m)
set_option maxRecDepth 20000 in
theorem BX12_wordAsked_46 (v1 : Int32) (v2 : Int32) (K14 : Int32 → hM → hR) (K50 : Int32 → hM → hR) (K58 : hM → hR) (h14 : ∀ (v3 : Int32) (m : hM), G mX12_wordAsked 2 14 [(0, .inr (.inr (40, 0))), (1, .inl v1), (2, .inl v2), (3, .inl v3)] [] m (K14 v3 m)) (h50 : ∀ (v3 : Int32) (m : hM), G mX12_wordAsked 2 50 [(3, .inl v3)] [] m (K50 v3 m)) (h58 : ∀ (m : hM), G mX12_wordAsked 2 58 [] [] m (K58 m)) (v3 : Int32) (v100 : Int64) (v101 : Int64) (m : hM) : G mX12_wordAsked 2 46 [(0, .inr (.inr (40, 0))), (1, .inl v1), (2, .inl v2), (3, .inl v3)] [.inr (.inl v100), .inr (.inl v101)] m (JX12_wordAsked_46 K14 K50 K58 v1 v2 v3 v100 v101 m) := by
  unfold JX12_wordAsked_46
  refine g_lcmp (kdX12_wordAsked 24 rfl) ?_
  refine g_if_ne (tgt := 52) (kdX12_wordAsked 25 rfl) (by decide) (fun _ => ?_) (fun _ => ?_)
  · exact g_fgt [0, 1, 2, 3] rfl (BX12_wordAsked_52 v1 v2 _ _ _ h14 h50 h58 v3 m)
  · exact g_fgt [3] rfl (h50 v3 m)
def bJX12_wordAsked_14 (K14 : Int32 → hM → hR) (K50 : Int32 → hM → hR) (K58 : hM → hR) (v1 : Int32) (v2 : Int32) (v3 : Int32) (m : hM) : hR :=
  if v2 ≤ v3 then (K58 m) else (if (m.1 40 0 5) = 1 then (if v1 = 0 then (calL (JX12_lineWord v3 m) fun x2 m1 =>
  JX12_wordAsked_46 K14 K50 K58 v1 v2 v3 x2 (m.2 40 0 8) m1) else (calL (JX12_stepWord v3 m) fun x4 m3 =>
  JX12_wordAsked_46 K14 K50 K58 v1 v2 v3 x4 (m.2 40 0 8) m3)) else (JX12_wordAsked_52 K14 K50 K58 v1 v2 v3 m))
set_option maxRecDepth 20000 in
theorem BbJX12_wordAsked_14 (K14 : Int32 → hM → hR) (K50 : Int32 → hM → hR) (K58 : hM → hR) (v1 : Int32) (v2 : Int32) (h14 : ∀ (v3 : Int32) (m : hM), G mX12_wordAsked 2 14 [(0, .inr (.inr (40, 0))), (1, .inl v1), (2, .inl v2), (3, .inl v3)] [] m (K14 v3 m)) (h50 : ∀ (v3 : Int32) (m : hM), G mX12_wordAsked 2 50 [(3, .inl v3)] [] m (K50 v3 m)) (h58 : ∀ (m : hM), G mX12_wordAsked 2 58 [] [] m (K58 m)) (v3 : Int32) (m : hM) : G mX12_wordAsked 2 14 [(0, .inr (.inr (40, 0))), (1, .inl v1), (2, .inl v2), (3, .inl v3)] [] m (bJX12_wordAsked_14 K14 K50 K58 v1 v2 v3 m) := by
  unfold bJX12_wordAsked_14
  refine g_iload_n 3 (kdX12_wordAsked 8 rfl) rfl ?_
  refine g_iload_n 2 (kdX12_wordAsked 9 rfl) rfl ?_
  refine g_icmp_ge (tgt := 58) (kdX12_wordAsked 10 rfl) (by decide) (fun _ => ?_) (fun _ => ?_)
  · exact g_fgt [] rfl (h58 m)
  · refine g_aload_n 0 (kdX12_wordAsked 11 rfl) rfl ?_
    refine g_get (v := .inl (m.1 40 0 5)) (kdX12_wordAsked 12 rfl) fX12_96 rfl ?_
    refine g_iconst (v := 1) (kdX12_wordAsked 13 rfl) (by decide) ?_
    refine g_icmp_ne (tgt := 52) (kdX12_wordAsked 14 rfl) (by decide) (fun _ => ?_) (fun _ => ?_)
    · exact g_fgt [0, 1, 2, 3] rfl (BX12_wordAsked_52 v1 v2 _ _ _ h14 h50 h58 v3 m)
    · refine g_aload_n 0 (kdX12_wordAsked 15 rfl) rfl ?_
      refine g_get (v := .inr (.inl (m.2 40 0 8))) (kdX12_wordAsked 16 rfl) fX12_99 rfl ?_
      refine g_iload_n 1 (kdX12_wordAsked 17 rfl) rfl ?_
      refine g_if_eq (tgt := 42) (kdX12_wordAsked 18 rfl) (by decide) (fun _ => ?_) (fun _ => ?_)
      · refine g_iload_n 3 (kdX12_wordAsked 22 rfl) rfl ?_
        refine g_calL (ck_S (As := [.inl v3]) (S := [.inr (.inl (m.2 40 0 8))]) (kdX12_wordAsked 23 rfl) iX12_lineWord lX12_151 rfl rfl rfl (by decide) (by simp only [List.map, vcat, List.sum_cons, List.sum_nil]; decide)) (CX12_lineWord v3 m) (fun x2 m1 => ?_)
        exact g_fgt [0, 1, 2, 3] rfl (BX12_wordAsked_46 v1 v2 _ _ _ h14 h50 h58 v3 x2 (m.2 40 0 8) m1)
      · refine g_iload_n 3 (kdX12_wordAsked 19 rfl) rfl ?_
        refine g_calL (ck_S (As := [.inl v3]) (S := [.inr (.inl (m.2 40 0 8))]) (kdX12_wordAsked 20 rfl) iX12_stepWord lX12_147 rfl rfl rfl (by decide) (by simp only [List.map, vcat, List.sum_cons, List.sum_nil]; decide)) (CX12_stepWord v3 m) (fun x4 m3 => ?_)
        refine g_goto (tgt := 46) (kdX12_wordAsked 21 rfl) (by decide) ?_
        exact g_fgt [0, 1, 2, 3] rfl (BX12_wordAsked_46 v1 v2 _ _ _ h14 h50 h58 v3 x4 (m.2 40 0 8) m3)
def JX12_wordAsked_14 (K50 : Int32 → hM → hR) (K58 : hM → hR) (v1 : Int32) (v2 : Int32) : Nat → Int32 → hM → hR
  | 0, _, _ => none
  | f + 1, v3, m => bJX12_wordAsked_14 (fun v3 m => JX12_wordAsked_14 K50 K58 v1 v2 f v3 m) K50 K58 v1 v2 v3 m
theorem BJX12_wordAsked_14 (K50 : Int32 → hM → hR) (K58 : hM → hR) (v1 : Int32) (v2 : Int32) (h50 : ∀ (v3 : Int32) (m : hM), G mX12_wordAsked 2 50 [(3, .inl v3)] [] m (K50 v3 m)) (h58 : ∀ (m : hM), G mX12_wordAsked 2 58 [] [] m (K58 m)) : ∀ (f : Nat) (v3 : Int32) (m : hM), G mX12_wordAsked 2 14 [(0, .inr (.inr (40, 0))), (1, .inl v1), (2, .inl v2), (3, .inl v3)] [] m (JX12_wordAsked_14 K50 K58 v1 v2 f v3 m)
  | 0, _, _ => g_none
  | f + 1, v3, m => BbJX12_wordAsked_14  _ K50 K58 v1 v2 (fun v3 m => BJX12_wordAsked_14  K50 K58 v1 v2 h50 h58 f v3 m) h50 h58 v3 m
def JX12_wordAsked_11 (v1 : Int32) (v100 : Int32) (m : hM) : hR :=
  JX12_wordAsked_14 (fun v3 m5 => some (some (.inl v3), m5)) (fun m6 => some (some (.inl (-1)), m6)) v1 v100 FU 0 m
set_option maxRecDepth 20000 in
theorem BX12_wordAsked_11 (v1 : Int32) (v100 : Int32) (m : hM) : G mX12_wordAsked 2 11 [(0, .inr (.inr (40, 0))), (1, .inl v1)] [.inl v100] m (JX12_wordAsked_11 v1 v100 m) := by
  unfold JX12_wordAsked_11
  refine g_istore_n (L2 := [(2, .inl v100), (0, .inr (.inr (40, 0))), (1, .inl v1)]) (kdX12_wordAsked 5 rfl) rfl (by decide) ?_
  refine g_iconst (v := 0) (kdX12_wordAsked 6 rfl) (by decide) ?_
  refine g_istore_n (L2 := [(3, .inl 0), (2, .inl v100), (0, .inr (.inr (40, 0))), (1, .inl v1)]) (kdX12_wordAsked 7 rfl) rfl (by decide) ?_
  refine g_fgt [2, 3, 1, 0] rfl (BJX12_wordAsked_14  _ _ v1 v100 ?_ ?_ FU 0 m)
  · intro v3 m5
    refine g_iload_n 0 (kdX12_wordAsked 26 rfl) rfl ?_
    exact g_iret rfl (kdX12_wordAsked 27 rfl)
  · intro m6
    refine g_iconst (v := (-1)) (kdX12_wordAsked 30 rfl) (by decide) ?_
    exact g_iret rfl (kdX12_wordAsked 31 rfl)
def JX12_wordAsked (a1 : Int32) (m : hM) : hR :=
  if a1 = 0 then (JX12_wordAsked_11 a1 13 m) else (JX12_wordAsked_11 a1 8 m)
set_option maxRecDepth 20000 in
theorem CX12_wordAsked (a1 : Int32) (m : hM) : Cn mX12_wordAsked 2 [.inr (.inr (40, 0)), .inl a1] m (JX12_wordAsked a1 m) := by
  refine cn_of (by decide +kernel) (by simp only [List.map, vcat, List.sum_cons, List.sum_nil]; decide) ?_
  unfold JX12_wordAsked
  show G mX12_wordAsked 2 0 [(0, .inr (.inr (40, 0))), (1, .inl a1)] [] m _
  refine g_iload_n 1 (kdX12_wordAsked 0 rfl) rfl ?_
  refine g_if_eq (tgt := 9) (kdX12_wordAsked 1 rfl) (by decide) (fun _ => ?_) (fun _ => ?_)
  · refine g_bipush (v := 13) (kdX12_wordAsked 4 rfl) (by decide) ?_
    exact g_fgt [0, 1] rfl (BX12_wordAsked_11 a1 13 m)
  · refine g_bipush (v := 8) (kdX12_wordAsked 2 rfl) (by decide) ?_
    refine g_goto (tgt := 11) (kdX12_wordAsked 3 rfl) (by decide) ?_
    exact g_fgt [0, 1] rfl (BX12_wordAsked_11 a1 8 m)
def JX12_manyNumbers_79 (K5 : Int32 → Int32 → hM → hR) (K40 : Int32 → hM → hR) (K84 : Int32 → hM → hR) (v1 : Int32) (u2 : Nat) (w2 : Nat) (v3 : Int32) (v100 : Int32) (m : hM) : hR :=
  K5 v3 v100 m
set_option maxRecDepth 20000 in
theorem BX12_manyNumbers_79 (v1 : Int32) (u2 : Nat) (w2 : Nat) (K5 : Int32 → Int32 → hM → hR) (K40 : Int32 → hM → hR) (K84 : Int32 → hM → hR) (h5 : ∀ (v3 : Int32) (v4 : Int32) (m : hM), G mX12_manyNumbers 3 5 [(0, .inr (.inr (40, 0))), (1, .inl v1), (2, .inr (.inr (u2, w2))), (3, .inl v3), (4, .inl v4)] [] m (K5 v3 v4 m)) (h40 : ∀ (v3 : Int32) (m : hM), G mX12_manyNumbers 3 40 [(0, .inr (.inr (40, 0))), (3, .inl v3)] [] m (K40 v3 m)) (h84 : ∀ (v3 : Int32) (m : hM), G mX12_manyNumbers 3 84 [(3, .inl v3)] [] m (K84 v3 m)) (v3 : Int32) (v100 : Int32) (m : hM) : G mX12_manyNumbers 3 79 [(0, .inr (.inr (40, 0))), (1, .inl v1), (2, .inr (.inr (u2, w2))), (3, .inl v3)] [.inl v100] m (JX12_manyNumbers_79 K5 K40 K84 v1 u2 w2 v3 v100 m) := by
  unfold JX12_manyNumbers_79
  refine g_istore (L2 := [(4, .inl v100), (0, .inr (.inr (40, 0))), (1, .inl v1), (2, .inr (.inr (u2, w2))), (3, .inl v3)]) (kdX12_manyNumbers 42 rfl) rfl (by decide) ?_
  refine g_goto (tgt := 5) (kdX12_manyNumbers 43 rfl) (by decide) ?_
  exact g_fgt [1, 2, 3, 4, 0] rfl (h5 v3 v100 m)
def JX12_manyNumbers_78 (K5 : Int32 → Int32 → hM → hR) (K40 : Int32 → hM → hR) (K84 : Int32 → hM → hR) (v1 : Int32) (u2 : Nat) (w2 : Nat) (v3 : Int32) (m : hM) : hR :=
  JX12_manyNumbers_79 K5 K40 K84 v1 u2 w2 v3 0 m
set_option maxRecDepth 20000 in
theorem BX12_manyNumbers_78 (v1 : Int32) (u2 : Nat) (w2 : Nat) (K5 : Int32 → Int32 → hM → hR) (K40 : Int32 → hM → hR) (K84 : Int32 → hM → hR) (h5 : ∀ (v3 : Int32) (v4 : Int32) (m : hM), G mX12_manyNumbers 3 5 [(0, .inr (.inr (40, 0))), (1, .inl v1), (2, .inr (.inr (u2, w2))), (3, .inl v3), (4, .inl v4)] [] m (K5 v3 v4 m)) (h40 : ∀ (v3 : Int32) (m : hM), G mX12_manyNumbers 3 40 [(0, .inr (.inr (40, 0))), (3, .inl v3)] [] m (K40 v3 m)) (h84 : ∀ (v3 : Int32) (m : hM), G mX12_manyNumbers 3 84 [(3, .inl v3)] [] m (K84 v3 m)) (v3 : Int32) (m : hM) : G mX12_manyNumbers 3 78 [(0, .inr (.inr (40, 0))), (1, .inl v1), (2, .inr (.inr (u2, w2))), (3, .inl v3)] [] m (JX12_manyNumbers_78 K5 K40 K84 v1 u2 w2 v3 m) := by
  unfold JX12_manyNumbers_78
  refine g_iconst (v := 0) (kdX12_manyNumbers 41 rfl) (by decide) ?_
  exact g_fgt [0, 1, 2, 3] rfl (BX12_manyNumbers_79 v1 u2 w2 _ _ _ h5 h40 h84 v3 0 m)
def bJX12_manyNumbers_5 (K5 : Int32 → Int32 → hM → hR) (K40 : Int32 → hM → hR) (K84 : Int32 → hM → hR) (v1 : Int32) (u2 : Nat) (w2 : Nat) (v3 : Int32) (v4 : Int32) (m : hM) : hR :=
  if v4 = 0 then (K84 v3 m) else (calV (JX12_next m) fun m1 =>
  if (m1.1 40 0 5) = 2 then (calI (JX12_lowest v1 m1) fun x3 m2 =>
  calI (JX12_highest v1 m2) fun x5 m4 =>
  calI (JX12_in (m1.1 40 0 7) x3 x5 m4) fun x7 m6 =>
  if x7 = 0 then (K40 v3 m6) else (ast m6 u2 w2 v3 (m6.1 40 0 7) fun m8 =>
  calV (JX12_next m8) fun m9 =>
  if (m9.1 40 0 5) = 4 then (if 16 ≤ (v3 + 1) then (JX12_manyNumbers_78 K5 K40 K84 v1 u2 w2 (v3 + 1) m9) else (JX12_manyNumbers_79 K5 K40 K84 v1 u2 w2 (v3 + 1) 1 m9)) else (JX12_manyNumbers_78 K5 K40 K84 v1 u2 w2 (v3 + 1) m9))) else (K40 v3 m1))
set_option maxRecDepth 20000 in
theorem BbJX12_manyNumbers_5 (K5 : Int32 → Int32 → hM → hR) (K40 : Int32 → hM → hR) (K84 : Int32 → hM → hR) (v1 : Int32) (u2 : Nat) (w2 : Nat) (h5 : ∀ (v3 : Int32) (v4 : Int32) (m : hM), G mX12_manyNumbers 3 5 [(0, .inr (.inr (40, 0))), (1, .inl v1), (2, .inr (.inr (u2, w2))), (3, .inl v3), (4, .inl v4)] [] m (K5 v3 v4 m)) (h40 : ∀ (v3 : Int32) (m : hM), G mX12_manyNumbers 3 40 [(0, .inr (.inr (40, 0))), (3, .inl v3)] [] m (K40 v3 m)) (h84 : ∀ (v3 : Int32) (m : hM), G mX12_manyNumbers 3 84 [(3, .inl v3)] [] m (K84 v3 m)) (v3 : Int32) (v4 : Int32) (m : hM) : G mX12_manyNumbers 3 5 [(0, .inr (.inr (40, 0))), (1, .inl v1), (2, .inr (.inr (u2, w2))), (3, .inl v3), (4, .inl v4)] [] m (bJX12_manyNumbers_5 K5 K40 K84 v1 u2 w2 v3 v4 m) := by
  unfold bJX12_manyNumbers_5
  refine g_iload 4 (kdX12_manyNumbers 4 rfl) rfl ?_
  refine g_if_eq (tgt := 84) (kdX12_manyNumbers 5 rfl) (by decide) (fun _ => ?_) (fun _ => ?_)
  · exact g_fgt [3] rfl (h84 v3 m)
  · refine g_aload_n 0 (kdX12_manyNumbers 6 rfl) rfl ?_
    refine g_calV (ck_V (As := []) (S := []) (t := 40) (o := 0) (kdX12_manyNumbers 7 rfl) iX12_next lX12_154 rc_40 rfl rfl rfl (by decide) (by simp only [List.map, vcat, List.sum_cons, List.sum_nil]; decide)) (CX12_next m) (fun m1 => ?_)
    refine g_aload_n 0 (kdX12_manyNumbers 8 rfl) rfl ?_
    refine g_get (v := .inl (m1.1 40 0 5)) (kdX12_manyNumbers 9 rfl) fX12_96 rfl ?_
    refine g_iconst (v := 2) (kdX12_manyNumbers 10 rfl) (by decide) ?_
    refine g_icmp_ne (tgt := 40) (kdX12_manyNumbers 11 rfl) (by decide) (fun _ => ?_) (fun _ => ?_)
    · exact g_fgt [0, 3] rfl (h40 v3 m1)
    · refine g_aload_n 0 (kdX12_manyNumbers 12 rfl) rfl ?_
      refine g_get (v := .inl (m1.1 40 0 7)) (kdX12_manyNumbers 13 rfl) fX12_119 rfl ?_
      refine g_iload_n 1 (kdX12_manyNumbers 14 rfl) rfl ?_
      refine g_calI (ck_S (As := [.inl v1]) (S := [.inl (m1.1 40 0 7)]) (kdX12_manyNumbers 15 rfl) iX12_lowest lX12_157 rfl rfl rfl (by decide) (by simp only [List.map, vcat, List.sum_cons, List.sum_nil]; decide)) (CX12_lowest v1 m1) (fun x3 m2 => ?_)
      refine g_iload_n 1 (kdX12_manyNumbers 16 rfl) rfl ?_
      refine g_calI (ck_S (As := [.inl v1]) (S := [.inl x3, .inl (m1.1 40 0 7)]) (kdX12_manyNumbers 17 rfl) iX12_highest lX12_161 rfl rfl rfl (by decide) (by simp only [List.map, vcat, List.sum_cons, List.sum_nil]; decide)) (CX12_highest v1 m2) (fun x5 m4 => ?_)
      refine g_calI (ck_S (As := [.inl (m1.1 40 0 7), .inl x3, .inl x5]) (S := []) (kdX12_manyNumbers 18 rfl) iX12_in lX12_89 rfl rfl rfl (by decide) (by simp only [List.map, vcat, List.sum_cons, List.sum_nil]; decide)) (CX12_in (m1.1 40 0 7) x3 x5 m4) (fun x7 m6 => ?_)
      refine g_if_ne (tgt := 46) (kdX12_manyNumbers 19 rfl) (by decide) (fun _ => ?_) (fun _ => ?_)
      · refine g_aload_n 2 (kdX12_manyNumbers 24 rfl) rfl ?_
        refine g_iload_n 3 (kdX12_manyNumbers 25 rfl) rfl ?_
        refine g_aload_n 0 (kdX12_manyNumbers 26 rfl) rfl ?_
        refine g_get (v := .inl (m6.1 40 0 7)) (kdX12_manyNumbers 27 rfl) fX12_119 rfl ?_
        refine g_iast (kdX12_manyNumbers 28 rfl) (fun m8 => ?_)
        refine g_iinc (v := v3 + 1) (L2 := [(3, .inl (v3 + 1)), (0, .inr (.inr (40, 0))), (1, .inl v1), (2, .inr (.inr (u2, w2))), (4, .inl v4)]) 3 (kdX12_manyNumbers 29 rfl) rfl rfl rfl (by decide) ?_
        refine g_aload_n 1 (kdX12_manyNumbers 30 rfl) rfl ?_
        refine g_calV (ck_V (As := []) (S := []) (t := 40) (o := 0) (kdX12_manyNumbers 31 rfl) iX12_next lX12_154 rc_40 rfl rfl rfl (by decide) (by simp only [List.map, vcat, List.sum_cons, List.sum_nil]; decide)) (CX12_next m8) (fun m9 => ?_)
        refine g_aload_n 1 (kdX12_manyNumbers 32 rfl) rfl ?_
        refine g_get (v := .inl (m9.1 40 0 5)) (kdX12_manyNumbers 33 rfl) fX12_96 rfl ?_
        refine g_iconst (v := 4) (kdX12_manyNumbers 34 rfl) (by decide) ?_
        refine g_icmp_ne (tgt := 78) (kdX12_manyNumbers 35 rfl) (by decide) (fun _ => ?_) (fun _ => ?_)
        · exact g_fgt [1, 2, 3, 0] rfl (BX12_manyNumbers_78 v1 u2 w2 _ _ _ h5 h40 h84 (v3 + 1) m9)
        · refine g_iload_n 0 (kdX12_manyNumbers 36 rfl) rfl ?_
          refine g_bipush (v := 16) (kdX12_manyNumbers 37 rfl) (by decide) ?_
          refine g_icmp_ge (tgt := 78) (kdX12_manyNumbers 38 rfl) (by decide) (fun _ => ?_) (fun _ => ?_)
          · exact g_fgt [1, 2, 3, 0] rfl (BX12_manyNumbers_78 v1 u2 w2 _ _ _ h5 h40 h84 (v3 + 1) m9)
          · refine g_iconst (v := 1) (kdX12_manyNumbers 39 rfl) (by decide) ?_
            refine g_goto (tgt := 79) (kdX12_manyNumbers 40 rfl) (by decide) ?_
            exact g_fgt [1, 2, 3, 0] rfl (BX12_manyNumbers_79 v1 u2 w2 _ _ _ h5 h40 h84 (v3 + 1) 1 m9)
      · exact g_fgt [0, 3] rfl (h40 v3 m6)
def JX12_manyNumbers_5 (K40 : Int32 → hM → hR) (K84 : Int32 → hM → hR) (v1 : Int32) (u2 : Nat) (w2 : Nat) : Nat → Int32 → Int32 → hM → hR
  | 0, _, _, _ => none
  | f + 1, v3, v4, m => bJX12_manyNumbers_5 (fun v3 v4 m => JX12_manyNumbers_5 K40 K84 v1 u2 w2 f v3 v4 m) K40 K84 v1 u2 w2 v3 v4 m
theorem BJX12_manyNumbers_5 (K40 : Int32 → hM → hR) (K84 : Int32 → hM → hR) (v1 : Int32) (u2 : Nat) (w2 : Nat) (h40 : ∀ (v3 : Int32) (m : hM), G mX12_manyNumbers 3 40 [(0, .inr (.inr (40, 0))), (3, .inl v3)] [] m (K40 v3 m)) (h84 : ∀ (v3 : Int32) (m : hM), G mX12_manyNumbers 3 84 [(3, .inl v3)] [] m (K84 v3 m)) : ∀ (f : Nat) (v3 : Int32) (v4 : Int32) (m : hM), G mX12_manyNumbers 3 5 [(0, .inr (.inr (40, 0))), (1, .inl v1), (2, .inr (.inr (u2, w2))), (3, .inl v3), (4, .inl v4)] [] m (JX12_manyNumbers_5 K40 K84 v1 u2 w2 f v3 v4 m)
  | 0, _, _, _ => g_none
  | f + 1, v3, v4, m => BbJX12_manyNumbers_5  _ K40 K84 v1 u2 w2 (fun v3 v4 m => BJX12_manyNumbers_5  K40 K84 v1 u2 w2 h40 h84 f v3 v4 m) h40 h84 v3 v4 m
def JX12_manyNumbers_40 (v3 : Int32) (m : hM) : hR :=
  calV (JX12_bad m) fun m11 =>
  some (some (.inl v3), m11)
set_option maxRecDepth 20000 in
theorem BX12_manyNumbers_40 (v3 : Int32) (m : hM) : G mX12_manyNumbers 3 40 [(0, .inr (.inr (40, 0))), (3, .inl v3)] [] m (JX12_manyNumbers_40 v3 m) := by
  unfold JX12_manyNumbers_40
  refine g_aload_n 0 (kdX12_manyNumbers 20 rfl) rfl ?_
  refine g_calV (ck_V (As := []) (S := []) (t := 40) (o := 0) (kdX12_manyNumbers 21 rfl) iX12_bad lX12_164 rc_40 rfl rfl rfl (by decide) (by simp only [List.map, vcat, List.sum_cons, List.sum_nil]; decide)) (CX12_bad m) (fun m11 => ?_)
  refine g_iload_n 1 (kdX12_manyNumbers 22 rfl) rfl ?_
  exact g_iret rfl (kdX12_manyNumbers 23 rfl)
def JX12_manyNumbers (a1 : Int32) (t2 : Nat) (n2 : Nat) (m : hM) : hR :=
  JX12_manyNumbers_5 (fun v3 m10 => JX12_manyNumbers_40 v3 m10) (fun v3 m12 => some (some (.inl v3), m12)) a1 t2 n2 FU 0 1 m
set_option maxRecDepth 20000 in
theorem CX12_manyNumbers (a1 : Int32) (t2 : Nat) (n2 : Nat) (m : hM) : Cn mX12_manyNumbers 3 [.inr (.inr (40, 0)), .inl a1, .inr (.inr (t2, n2))] m (JX12_manyNumbers a1 t2 n2 m) := by
  refine cn_of (by decide +kernel) (by simp only [List.map, vcat, List.sum_cons, List.sum_nil]; decide) ?_
  unfold JX12_manyNumbers
  show G mX12_manyNumbers 3 0 [(0, .inr (.inr (40, 0))), (1, .inl a1), (2, .inr (.inr (t2, n2)))] [] m _
  refine g_iconst (v := 0) (kdX12_manyNumbers 0 rfl) (by decide) ?_
  refine g_istore_n (L2 := [(3, .inl 0), (0, .inr (.inr (40, 0))), (1, .inl a1), (2, .inr (.inr (t2, n2)))]) (kdX12_manyNumbers 1 rfl) rfl (by decide) ?_
  refine g_iconst (v := 1) (kdX12_manyNumbers 2 rfl) (by decide) ?_
  refine g_istore (L2 := [(4, .inl 1), (3, .inl 0), (0, .inr (.inr (40, 0))), (1, .inl a1), (2, .inr (.inr (t2, n2)))]) (kdX12_manyNumbers 3 rfl) rfl (by decide) ?_
  refine g_fgt [2, 3, 4, 1, 0] rfl (BJX12_manyNumbers_5  _ _ a1 t2 n2 ?_ ?_ FU 0 1 m)
  · intro v3 m10
    exact g_fgt [0, 1] rfl (BX12_manyNumbers_40 v3 m10)
  · intro v3 m12
    refine g_iload_n 0 (kdX12_manyNumbers 44 rfl) rfl ?_
    exact g_iret rfl (kdX12_manyNumbers 45 rfl)
def JX12_clause_10 (v1 : Int32) (m : hM) : hR :=
  if v1 = 0 then (calI (JX12_manyNumbers v1 43 0 m) fun x5 m4 =>
  ast m4 42 0 v1 x5 fun m6 =>
  some (none, m6)) else (calI (JX12_manyNumbers v1 44 0 m) fun x2 m1 =>
  ast m1 42 0 v1 x2 fun m3 =>
  some (none, m3))
set_option maxRecDepth 20000 in
theorem BX12_clause_10 (v1 : Int32) (m : hM) : G mX12_clause 4 10 [(0, .inr (.inr (40, 0))), (1, .inl v1)] [] m (JX12_clause_10 v1 m) := by
  unfold JX12_clause_10
  refine g_aload_n 0 (kdX12_clause 5 rfl) rfl ?_
  refine g_get (v := .inr (.inr (42, 0))) (kdX12_clause 6 rfl) fX12_13 rfl ?_
  refine g_iload_n 1 (kdX12_clause 7 rfl) rfl ?_
  refine g_aload_n 0 (kdX12_clause 8 rfl) rfl ?_
  refine g_iload_n 1 (kdX12_clause 9 rfl) rfl ?_
  refine g_iload_n 1 (kdX12_clause 10 rfl) rfl ?_
  refine g_if_ne (tgt := 28) (kdX12_clause 11 rfl) (by decide) (fun _ => ?_) (fun _ => ?_)
  · refine g_aload_n 0 (kdX12_clause 15 rfl) rfl ?_
    refine g_get (v := .inr (.inr (44, 0))) (kdX12_clause 16 rfl) fX12_19 rfl ?_
    refine g_calI (ck_V (As := [.inl v1, .inr (.inr (44, 0))]) (S := [.inl v1, .inr (.inr (42, 0))]) (t := 40) (o := 0) (kdX12_clause 17 rfl) iX12_manyNumbers lX12_167 rc_40 rfl rfl rfl (by decide) (by simp only [List.map, vcat, List.sum_cons, List.sum_nil]; decide)) (CX12_manyNumbers v1 44 0 m) (fun x2 m1 => ?_)
    refine g_iast (kdX12_clause 18 rfl) (fun m3 => ?_)
    exact g_vret rfl (kdX12_clause 19 rfl)
  · refine g_aload_n 0 (kdX12_clause 12 rfl) rfl ?_
    refine g_get (v := .inr (.inr (43, 0))) (kdX12_clause 13 rfl) fX12_16 rfl ?_
    refine g_goto (tgt := 32) (kdX12_clause 14 rfl) (by decide) ?_
    refine g_calI (ck_V (As := [.inl v1, .inr (.inr (43, 0))]) (S := [.inl v1, .inr (.inr (42, 0))]) (t := 40) (o := 0) (kdX12_clause 17 rfl) iX12_manyNumbers lX12_167 rc_40 rfl rfl rfl (by decide) (by simp only [List.map, vcat, List.sum_cons, List.sum_nil]; decide)) (CX12_manyNumbers v1 43 0 m) (fun x5 m4 => ?_)
    refine g_iast (kdX12_clause 18 rfl) (fun m6 => ?_)
    exact g_vret rfl (kdX12_clause 19 rfl)
def JX12_clause_67 (m : hM) : hR :=
  calV (JX12_bad m) fun m8 =>
  some (none, m8)
set_option maxRecDepth 20000 in
theorem BX12_clause_67 (m : hM) : G mX12_clause 4 67 [(0, .inr (.inr (40, 0)))] [] m (JX12_clause_67 m) := by
  unfold JX12_clause_67
  refine g_aload_n 0 (kdX12_clause 34 rfl) rfl ?_
  refine g_calV (ck_V (As := []) (S := []) (t := 40) (o := 0) (kdX12_clause 35 rfl) iX12_bad lX12_164 rc_40 rfl rfl rfl (by decide) (by simp only [List.map, vcat, List.sum_cons, List.sum_nil]; decide)) (CX12_bad m) (fun m8 => ?_)
  exact g_vret rfl (kdX12_clause 36 rfl)
def JX12_clause (a1 : Int32) (m : hM) : hR :=
  if a1 = 0 then (JX12_clause_10 a1 m) else (if a1 = 12 then (JX12_clause_10 a1 m) else (calV (JX12_next m) fun m7 =>
  if (m7.1 40 0 5) = 2 then (calI (JX12_lowest a1 m7) fun x10 m9 =>
  calI (JX12_highest a1 m9) fun x12 m11 =>
  calI (JX12_in (m7.1 40 0 7) x10 x12 m11) fun x14 m13 =>
  if x14 = 0 then (JX12_clause_67 m13) else (ast m13 42 0 a1 (m13.1 40 0 7) fun m15 =>
  calV (JX12_next m15) fun m16 =>
  some (none, m16))) else (JX12_clause_67 m7)))
set_option maxRecDepth 20000 in
theorem CX12_clause (a1 : Int32) (m : hM) : Cn mX12_clause 4 [.inr (.inr (40, 0)), .inl a1] m (JX12_clause a1 m) := by
  refine cn_of (by decide +kernel) (by simp only [List.map, vcat, List.sum_cons, List.sum_nil]; decide) ?_
  unfold JX12_clause
  show G mX12_clause 4 0 [(0, .inr (.inr (40, 0))), (1, .inl a1)] [] m _
  refine g_iload_n 1 (kdX12_clause 0 rfl) rfl ?_
  refine g_if_eq (tgt := 10) (kdX12_clause 1 rfl) (by decide) (fun _ => ?_) (fun _ => ?_)
  · exact g_fgt [0, 1] rfl (BX12_clause_10 a1 m)
  · refine g_iload_n 1 (kdX12_clause 2 rfl) rfl ?_
    refine g_bipush (v := 12) (kdX12_clause 3 rfl) (by decide) ?_
    refine g_icmp_ne (tgt := 37) (kdX12_clause 4 rfl) (by decide) (fun _ => ?_) (fun _ => ?_)
    · refine g_aload_n 0 (kdX12_clause 20 rfl) rfl ?_
      refine g_calV (ck_V (As := []) (S := []) (t := 40) (o := 0) (kdX12_clause 21 rfl) iX12_next lX12_154 rc_40 rfl rfl rfl (by decide) (by simp only [List.map, vcat, List.sum_cons, List.sum_nil]; decide)) (CX12_next m) (fun m7 => ?_)
      refine g_aload_n 0 (kdX12_clause 22 rfl) rfl ?_
      refine g_get (v := .inl (m7.1 40 0 5)) (kdX12_clause 23 rfl) fX12_96 rfl ?_
      refine g_iconst (v := 2) (kdX12_clause 24 rfl) (by decide) ?_
      refine g_icmp_ne (tgt := 67) (kdX12_clause 25 rfl) (by decide) (fun _ => ?_) (fun _ => ?_)
      · exact g_fgt [0] rfl (BX12_clause_67 m7)
      · refine g_aload_n 0 (kdX12_clause 26 rfl) rfl ?_
        refine g_get (v := .inl (m7.1 40 0 7)) (kdX12_clause 27 rfl) fX12_119 rfl ?_
        refine g_iload_n 1 (kdX12_clause 28 rfl) rfl ?_
        refine g_calI (ck_S (As := [.inl a1]) (S := [.inl (m7.1 40 0 7)]) (kdX12_clause 29 rfl) iX12_lowest lX12_157 rfl rfl rfl (by decide) (by simp only [List.map, vcat, List.sum_cons, List.sum_nil]; decide)) (CX12_lowest a1 m7) (fun x10 m9 => ?_)
        refine g_iload_n 1 (kdX12_clause 30 rfl) rfl ?_
        refine g_calI (ck_S (As := [.inl a1]) (S := [.inl x10, .inl (m7.1 40 0 7)]) (kdX12_clause 31 rfl) iX12_highest lX12_161 rfl rfl rfl (by decide) (by simp only [List.map, vcat, List.sum_cons, List.sum_nil]; decide)) (CX12_highest a1 m9) (fun x12 m11 => ?_)
        refine g_calI (ck_S (As := [.inl (m7.1 40 0 7), .inl x10, .inl x12]) (S := []) (kdX12_clause 32 rfl) iX12_in lX12_89 rfl rfl rfl (by decide) (by simp only [List.map, vcat, List.sum_cons, List.sum_nil]; decide)) (CX12_in (m7.1 40 0 7) x10 x12 m11) (fun x14 m13 => ?_)
        refine g_if_ne (tgt := 72) (kdX12_clause 33 rfl) (by decide) (fun _ => ?_) (fun _ => ?_)
        · refine g_aload_n 0 (kdX12_clause 37 rfl) rfl ?_
          refine g_get (v := .inr (.inr (42, 0))) (kdX12_clause 38 rfl) fX12_13 rfl ?_
          refine g_iload_n 1 (kdX12_clause 39 rfl) rfl ?_
          refine g_aload_n 0 (kdX12_clause 40 rfl) rfl ?_
          refine g_get (v := .inl (m13.1 40 0 7)) (kdX12_clause 41 rfl) fX12_119 rfl ?_
          refine g_iast (kdX12_clause 42 rfl) (fun m15 => ?_)
          refine g_aload_n 0 (kdX12_clause 43 rfl) rfl ?_
          refine g_calV (ck_V (As := []) (S := []) (t := 40) (o := 0) (kdX12_clause 44 rfl) iX12_next lX12_154 rc_40 rfl rfl rfl (by decide) (by simp only [List.map, vcat, List.sum_cons, List.sum_nil]; decide)) (CX12_next m15) (fun m16 => ?_)
          exact g_vret rfl (kdX12_clause 45 rfl)
        · exact g_fgt [0] rfl (BX12_clause_67 m13)
    · exact g_fgt [0, 1] rfl (BX12_clause_10 a1 m)
def bJX12_readLine_12 (K12 : Int32 → hM → hR) (K34 : hM → hR) (v1 : Int32) (m : hM) : hR :=
  if 13 ≤ v1 then (K34 m) else (calI (JX12_usual v1 m) fun x4 m3 =>
  ast m3 42 0 v1 x4 fun m5 =>
  K12 (v1 + 1) m5)
set_option maxRecDepth 20000 in
theorem BbJX12_readLine_12 (K12 : Int32 → hM → hR) (K34 : hM → hR) (h12 : ∀ (v1 : Int32) (m : hM), G mX12_readLine 5 12 [(0, .inr (.inr (40, 0))), (1, .inl v1)] [] m (K12 v1 m)) (h34 : ∀ (m : hM), G mX12_readLine 5 34 [(0, .inr (.inr (40, 0)))] [] m (K34 m)) (v1 : Int32) (m : hM) : G mX12_readLine 5 12 [(0, .inr (.inr (40, 0))), (1, .inl v1)] [] m (bJX12_readLine_12 K12 K34 v1 m) := by
  unfold bJX12_readLine_12
  refine g_iload_n 1 (kdX12_readLine 8 rfl) rfl ?_
  refine g_bipush (v := 13) (kdX12_readLine 9 rfl) (by decide) ?_
  refine g_icmp_ge (tgt := 34) (kdX12_readLine 10 rfl) (by decide) (fun _ => ?_) (fun _ => ?_)
  · exact g_fgt [0] rfl (h34 m)
  · refine g_aload_n 0 (kdX12_readLine 11 rfl) rfl ?_
    refine g_get (v := .inr (.inr (42, 0))) (kdX12_readLine 12 rfl) fX12_13 rfl ?_
    refine g_iload_n 1 (kdX12_readLine 13 rfl) rfl ?_
    refine g_iload_n 1 (kdX12_readLine 14 rfl) rfl ?_
    refine g_calI (ck_S (As := [.inl v1]) (S := [.inl v1, .inr (.inr (42, 0))]) (kdX12_readLine 15 rfl) iX12_usual lX12_171 rfl rfl rfl (by decide) (by simp only [List.map, vcat, List.sum_cons, List.sum_nil]; decide)) (CX12_usual v1 m) (fun x4 m3 => ?_)
    refine g_iast (kdX12_readLine 16 rfl) (fun m5 => ?_)
    refine g_iinc (v := v1 + 1) (L2 := [(1, .inl (v1 + 1)), (0, .inr (.inr (40, 0)))]) 1 (kdX12_readLine 17 rfl) rfl rfl rfl (by decide) ?_
    refine g_goto (tgt := 12) (kdX12_readLine 18 rfl) (by decide) ?_
    exact g_fgt [1, 0] rfl (h12 (v1 + 1) m5)
def JX12_readLine_12 (K34 : hM → hR) : Nat → Int32 → hM → hR
  | 0, _, _ => none
  | f + 1, v1, m => bJX12_readLine_12 (fun v1 m => JX12_readLine_12 K34  f v1 m) K34  v1 m
theorem BJX12_readLine_12 (K34 : hM → hR) (h34 : ∀ (m : hM), G mX12_readLine 5 34 [(0, .inr (.inr (40, 0)))] [] m (K34 m)) : ∀ (f : Nat) (v1 : Int32) (m : hM), G mX12_readLine 5 12 [(0, .inr (.inr (40, 0))), (1, .inl v1)] [] m (JX12_readLine_12 K34  f v1 m)
  | 0, _, _ => g_none
  | f + 1, v1, m => BbJX12_readLine_12  _ K34  (fun v1 m => BJX12_readLine_12  K34  h34 f v1 m) h34 v1 m
def JX12_readLine_112 (K38 : Int32 → Int32 → hM → hR) (K116 : Int32 → hM → hR) (v1 : Int32) (v100 : Int32) (m : hM) : hR :=
  K38 v1 v100 m
set_option maxRecDepth 20000 in
theorem BX12_readLine_112 (K38 : Int32 → Int32 → hM → hR) (K116 : Int32 → hM → hR) (h38 : ∀ (v1 : Int32) (v2 : Int32) (m : hM), G mX12_readLine 5 38 [(0, .inr (.inr (40, 0))), (1, .inl v1), (2, .inl v2)] [] m (K38 v1 v2 m)) (h116 : ∀ (v1 : Int32) (m : hM), G mX12_readLine 5 116 [(0, .inr (.inr (40, 0))), (1, .inl v1)] [] m (K116 v1 m)) (v1 : Int32) (v100 : Int32) (m : hM) : G mX12_readLine 5 112 [(0, .inr (.inr (40, 0))), (1, .inl v1)] [.inl v100] m (JX12_readLine_112 K38 K116 v1 v100 m) := by
  unfold JX12_readLine_112
  refine g_istore_n (L2 := [(2, .inl v100), (0, .inr (.inr (40, 0))), (1, .inl v1)]) (kdX12_readLine 65 rfl) rfl (by decide) ?_
  refine g_goto (tgt := 38) (kdX12_readLine 66 rfl) (by decide) ?_
  exact g_fgt [1, 2, 0] rfl (h38 v1 v100 m)
def JX12_readLine_111 (K38 : Int32 → Int32 → hM → hR) (K116 : Int32 → hM → hR) (v1 : Int32) (m : hM) : hR :=
  JX12_readLine_112 K38 K116 v1 0 m
set_option maxRecDepth 20000 in
theorem BX12_readLine_111 (K38 : Int32 → Int32 → hM → hR) (K116 : Int32 → hM → hR) (h38 : ∀ (v1 : Int32) (v2 : Int32) (m : hM), G mX12_readLine 5 38 [(0, .inr (.inr (40, 0))), (1, .inl v1), (2, .inl v2)] [] m (K38 v1 v2 m)) (h116 : ∀ (v1 : Int32) (m : hM), G mX12_readLine 5 116 [(0, .inr (.inr (40, 0))), (1, .inl v1)] [] m (K116 v1 m)) (v1 : Int32) (m : hM) : G mX12_readLine 5 111 [(0, .inr (.inr (40, 0))), (1, .inl v1)] [] m (JX12_readLine_111 K38 K116 v1 m) := by
  unfold JX12_readLine_111
  refine g_iconst (v := 0) (kdX12_readLine 64 rfl) (by decide) ?_
  exact g_fgt [0, 1] rfl (BX12_readLine_112 _ _ h38 h116 v1 0 m)
def JX12_readLine_91 (K38 : Int32 → Int32 → hM → hR) (K116 : Int32 → hM → hR) (v1 : Int32) (m : hM) : hR :=
  if (m.1 40 0 4) = (-1) then (if (m.1 40 0 5) = 3 then (JX12_readLine_112 K38 K116 v1 1 m) else (JX12_readLine_111 K38 K116 v1 m)) else (JX12_readLine_111 K38 K116 v1 m)
set_option maxRecDepth 20000 in
theorem BX12_readLine_91 (K38 : Int32 → Int32 → hM → hR) (K116 : Int32 → hM → hR) (h38 : ∀ (v1 : Int32) (v2 : Int32) (m : hM), G mX12_readLine 5 38 [(0, .inr (.inr (40, 0))), (1, .inl v1), (2, .inl v2)] [] m (K38 v1 v2 m)) (h116 : ∀ (v1 : Int32) (m : hM), G mX12_readLine 5 116 [(0, .inr (.inr (40, 0))), (1, .inl v1)] [] m (K116 v1 m)) (v1 : Int32) (m : hM) : G mX12_readLine 5 91 [(0, .inr (.inr (40, 0))), (1, .inl v1)] [] m (JX12_readLine_91 K38 K116 v1 m) := by
  unfold JX12_readLine_91
  refine g_aload_n 0 (kdX12_readLine 54 rfl) rfl ?_
  refine g_get (v := .inl (m.1 40 0 4)) (kdX12_readLine 55 rfl) fX12_132 rfl ?_
  refine g_iconst (v := (-1)) (kdX12_readLine 56 rfl) (by decide) ?_
  refine g_icmp_ne (tgt := 111) (kdX12_readLine 57 rfl) (by decide) (fun _ => ?_) (fun _ => ?_)
  · exact g_fgt [0, 1] rfl (BX12_readLine_111 _ _ h38 h116 v1 m)
  · refine g_aload_n 0 (kdX12_readLine 58 rfl) rfl ?_
    refine g_get (v := .inl (m.1 40 0 5)) (kdX12_readLine 59 rfl) fX12_96 rfl ?_
    refine g_iconst (v := 3) (kdX12_readLine 60 rfl) (by decide) ?_
    refine g_icmp_ne (tgt := 111) (kdX12_readLine 61 rfl) (by decide) (fun _ => ?_) (fun _ => ?_)
    · exact g_fgt [0, 1] rfl (BX12_readLine_111 _ _ h38 h116 v1 m)
    · refine g_iconst (v := 1) (kdX12_readLine 62 rfl) (by decide) ?_
      refine g_goto (tgt := 112) (kdX12_readLine 63 rfl) (by decide) ?_
      exact g_fgt [0, 1] rfl (BX12_readLine_112 _ _ h38 h116 v1 1 m)
def JX12_readLine_73 (K38 : Int32 → Int32 → hM → hR) (K116 : Int32 → hM → hR) (v1 : Int32) (m : hM) : hR :=
  calV (JX12_bad m) fun m10 =>
  JX12_readLine_91 K38 K116 v1 m10
set_option maxRecDepth 20000 in
theorem BX12_readLine_73 (K38 : Int32 → Int32 → hM → hR) (K116 : Int32 → hM → hR) (h38 : ∀ (v1 : Int32) (v2 : Int32) (m : hM), G mX12_readLine 5 38 [(0, .inr (.inr (40, 0))), (1, .inl v1), (2, .inl v2)] [] m (K38 v1 v2 m)) (h116 : ∀ (v1 : Int32) (m : hM), G mX12_readLine 5 116 [(0, .inr (.inr (40, 0))), (1, .inl v1)] [] m (K116 v1 m)) (v1 : Int32) (m : hM) : G mX12_readLine 5 73 [(0, .inr (.inr (40, 0))), (1, .inl v1)] [] m (JX12_readLine_73 K38 K116 v1 m) := by
  unfold JX12_readLine_73
  refine g_aload_n 0 (kdX12_readLine 42 rfl) rfl ?_
  refine g_calV (ck_V (As := []) (S := []) (t := 40) (o := 0) (kdX12_readLine 43 rfl) iX12_bad lX12_164 rc_40 rfl rfl rfl (by decide) (by simp only [List.map, vcat, List.sum_cons, List.sum_nil]; decide)) (CX12_bad m) (fun m10 => ?_)
  refine g_goto (tgt := 91) (kdX12_readLine 44 rfl) (by decide) ?_
  exact g_fgt [0, 1] rfl (BX12_readLine_91 _ _ h38 h116 v1 m10)
def bJX12_readLine_38 (K38 : Int32 → Int32 → hM → hR) (K116 : Int32 → hM → hR) (v1 : Int32) (v2 : Int32) (m : hM) : hR :=
  if v2 = 0 then (K116 v1 m) else (if (m.1 40 0 4) = (-1) then (calV (JX12_next m) fun m7 =>
  calI (JX12_wordAsked 0 m7) fun x9 m8 =>
  if x9 = (-1) then (JX12_readLine_73 K38 K116 v1 m8) else (calI (JX12_has v1 x9 m8) fun x12 m11 =>
  if x12 = 0 then (lt (v1 ||| ((1 : Int32) <<< (x9 &&& 31))) fun x13 =>
  calV (JX12_clause x9 m11) fun m14 =>
  JX12_readLine_91 K38 K116 x13 m14) else (JX12_readLine_73 K38 K116 v1 m11))) else (K116 v1 m))
set_option maxRecDepth 20000 in
theorem BbJX12_readLine_38 (K38 : Int32 → Int32 → hM → hR) (K116 : Int32 → hM → hR) (h38 : ∀ (v1 : Int32) (v2 : Int32) (m : hM), G mX12_readLine 5 38 [(0, .inr (.inr (40, 0))), (1, .inl v1), (2, .inl v2)] [] m (K38 v1 v2 m)) (h116 : ∀ (v1 : Int32) (m : hM), G mX12_readLine 5 116 [(0, .inr (.inr (40, 0))), (1, .inl v1)] [] m (K116 v1 m)) (v1 : Int32) (v2 : Int32) (m : hM) : G mX12_readLine 5 38 [(0, .inr (.inr (40, 0))), (1, .inl v1), (2, .inl v2)] [] m (bJX12_readLine_38 K38 K116 v1 v2 m) := by
  unfold bJX12_readLine_38
  refine g_iload_n 2 (kdX12_readLine 23 rfl) rfl ?_
  refine g_if_eq (tgt := 116) (kdX12_readLine 24 rfl) (by decide) (fun _ => ?_) (fun _ => ?_)
  · exact g_fgt [0, 1] rfl (h116 v1 m)
  · refine g_aload_n 0 (kdX12_readLine 25 rfl) rfl ?_
    refine g_get (v := .inl (m.1 40 0 4)) (kdX12_readLine 26 rfl) fX12_132 rfl ?_
    refine g_iconst (v := (-1)) (kdX12_readLine 27 rfl) (by decide) ?_
    refine g_icmp_ne (tgt := 116) (kdX12_readLine 28 rfl) (by decide) (fun _ => ?_) (fun _ => ?_)
    · exact g_fgt [0, 1] rfl (h116 v1 m)
    · refine g_aload_n 0 (kdX12_readLine 29 rfl) rfl ?_
      refine g_calV (ck_V (As := []) (S := []) (t := 40) (o := 0) (kdX12_readLine 30 rfl) iX12_next lX12_154 rc_40 rfl rfl rfl (by decide) (by simp only [List.map, vcat, List.sum_cons, List.sum_nil]; decide)) (CX12_next m) (fun m7 => ?_)
      refine g_aload_n 0 (kdX12_readLine 31 rfl) rfl ?_
      refine g_iconst (v := 0) (kdX12_readLine 32 rfl) (by decide) ?_
      refine g_calI (ck_V (As := [.inl 0]) (S := []) (t := 40) (o := 0) (kdX12_readLine 33 rfl) iX12_wordAsked lX12_174 rc_40 rfl rfl rfl (by decide) (by simp only [List.map, vcat, List.sum_cons, List.sum_nil]; decide)) (CX12_wordAsked 0 m7) (fun x9 m8 => ?_)
      refine g_istore_n (L2 := [(3, .inl x9), (0, .inr (.inr (40, 0))), (1, .inl v1), (2, .inl v2)]) (kdX12_readLine 34 rfl) rfl (by decide) ?_
      refine g_iload_n 0 (kdX12_readLine 35 rfl) rfl ?_
      refine g_iconst (v := (-1)) (kdX12_readLine 36 rfl) (by decide) ?_
      refine g_icmp_eq (tgt := 73) (kdX12_readLine 37 rfl) (by decide) (fun _ => ?_) (fun _ => ?_)
      · exact g_fgt [1, 2] rfl (BX12_readLine_73 _ _ h38 h116 v1 m8)
      · refine g_iload_n 2 (kdX12_readLine 38 rfl) rfl ?_
        refine g_iload_n 0 (kdX12_readLine 39 rfl) rfl ?_
        refine g_calI (ck_S (As := [.inl v1, .inl x9]) (S := []) (kdX12_readLine 40 rfl) iX12_has lX12_178 rfl rfl rfl (by decide) (by simp only [List.map, vcat, List.sum_cons, List.sum_nil]; decide)) (CX12_has v1 x9 m8) (fun x12 m11 => ?_)
        refine g_if_eq (tgt := 80) (kdX12_readLine 41 rfl) (by decide) (fun _ => ?_) (fun _ => ?_)
        · refine g_iload_n 2 (kdX12_readLine 45 rfl) rfl ?_
          refine g_iconst (v := 1) (kdX12_readLine 46 rfl) (by decide) ?_
          refine g_iload_n 0 (kdX12_readLine 47 rfl) rfl ?_
          refine g_ishl (kdX12_readLine 48 rfl) ?_
          refine g_ior (kdX12_readLine 49 rfl) ?_
          refine g_lt (fun x13 => ?_)
          refine g_istore_n (L2 := [(1, .inl x13), (3, .inl x9), (0, .inr (.inr (40, 0))), (2, .inl v2)]) (kdX12_readLine 50 rfl) rfl (by decide) ?_
          refine g_aload_n 2 (kdX12_readLine 51 rfl) rfl ?_
          refine g_iload_n 1 (kdX12_readLine 52 rfl) rfl ?_
          refine g_calV (ck_V (As := [.inl x9]) (S := []) (t := 40) (o := 0) (kdX12_readLine 53 rfl) iX12_clause lX12_182 rc_40 rfl rfl rfl (by decide) (by simp only [List.map, vcat, List.sum_cons, List.sum_nil]; decide)) (CX12_clause x9 m11) (fun m14 => ?_)
          exact g_fgt [2, 0] rfl (BX12_readLine_91 _ _ h38 h116 x13 m14)
        · exact g_fgt [1, 2] rfl (BX12_readLine_73 _ _ h38 h116 v1 m11)
def JX12_readLine_38 (K116 : Int32 → hM → hR) : Nat → Int32 → Int32 → hM → hR
  | 0, _, _, _ => none
  | f + 1, v1, v2, m => bJX12_readLine_38 (fun v1 v2 m => JX12_readLine_38 K116  f v1 v2 m) K116  v1 v2 m
theorem BJX12_readLine_38 (K116 : Int32 → hM → hR) (h116 : ∀ (v1 : Int32) (m : hM), G mX12_readLine 5 116 [(0, .inr (.inr (40, 0))), (1, .inl v1)] [] m (K116 v1 m)) : ∀ (f : Nat) (v1 : Int32) (v2 : Int32) (m : hM), G mX12_readLine 5 38 [(0, .inr (.inr (40, 0))), (1, .inl v1), (2, .inl v2)] [] m (JX12_readLine_38 K116  f v1 v2 m)
  | 0, _, _, _ => g_none
  | f + 1, v1, v2, m => BbJX12_readLine_38  _ K116  (fun v1 v2 m => BJX12_readLine_38  K116  h116 f v1 v2 m) h116 v1 v2 m
def JX12_readLine_139 (m : hM) : hR :=
  calV (JX12_bad m) fun m16 =>
  some (some (.inl (m16.1 40 0 4)), m16)
set_option maxRecDepth 20000 in
theorem BX12_readLine_139 (m : hM) : G mX12_readLine 5 139 [(0, .inr (.inr (40, 0)))] [] m (JX12_readLine_139 m) := by
  unfold JX12_readLine_139
  refine g_aload_n 0 (kdX12_readLine 78 rfl) rfl ?_
  refine g_calV (ck_V (As := []) (S := []) (t := 40) (o := 0) (kdX12_readLine 79 rfl) iX12_bad lX12_164 rc_40 rfl rfl rfl (by decide) (by simp only [List.map, vcat, List.sum_cons, List.sum_nil]; decide)) (CX12_bad m) (fun m16 => ?_)
  refine g_aload_n 0 (kdX12_readLine 80 rfl) rfl ?_
  refine g_get (v := .inl (m16.1 40 0 4)) (kdX12_readLine 81 rfl) fX12_132 rfl ?_
  exact g_iret rfl (kdX12_readLine 82 rfl)
def JX12_readLine_116 (v1 : Int32) (m : hM) : hR :=
  if (m.1 40 0 4) = (-1) then (if (m.1 40 0 5) = 0 then (calI (JX12_has v1 0 m) fun x18 m17 =>
  if x18 = 0 then (JX12_readLine_139 m17) else (some (some (.inl (m17.1 40 0 4)), m17))) else (JX12_readLine_139 m)) else (some (some (.inl (m.1 40 0 4)), m))
set_option maxRecDepth 20000 in
theorem BX12_readLine_116 (v1 : Int32) (m : hM) : G mX12_readLine 5 116 [(0, .inr (.inr (40, 0))), (1, .inl v1)] [] m (JX12_readLine_116 v1 m) := by
  unfold JX12_readLine_116
  refine g_aload_n 0 (kdX12_readLine 67 rfl) rfl ?_
  refine g_get (v := .inl (m.1 40 0 4)) (kdX12_readLine 68 rfl) fX12_132 rfl ?_
  refine g_iconst (v := (-1)) (kdX12_readLine 69 rfl) (by decide) ?_
  refine g_icmp_ne (tgt := 143) (kdX12_readLine 70 rfl) (by decide) (fun _ => ?_) (fun _ => ?_)
  · refine g_aload_n 0 (kdX12_readLine 80 rfl) rfl ?_
    refine g_get (v := .inl (m.1 40 0 4)) (kdX12_readLine 81 rfl) fX12_132 rfl ?_
    exact g_iret rfl (kdX12_readLine 82 rfl)
  · refine g_aload_n 0 (kdX12_readLine 71 rfl) rfl ?_
    refine g_get (v := .inl (m.1 40 0 5)) (kdX12_readLine 72 rfl) fX12_96 rfl ?_
    refine g_if_ne (tgt := 139) (kdX12_readLine 73 rfl) (by decide) (fun _ => ?_) (fun _ => ?_)
    · exact g_fgt [0] rfl (BX12_readLine_139 m)
    · refine g_iload_n 1 (kdX12_readLine 74 rfl) rfl ?_
      refine g_iconst (v := 0) (kdX12_readLine 75 rfl) (by decide) ?_
      refine g_calI (ck_S (As := [.inl v1, .inl 0]) (S := []) (kdX12_readLine 76 rfl) iX12_has lX12_178 rfl rfl rfl (by decide) (by simp only [List.map, vcat, List.sum_cons, List.sum_nil]; decide)) (CX12_has v1 0 m) (fun x18 m17 => ?_)
      refine g_if_ne (tgt := 143) (kdX12_readLine 77 rfl) (by decide) (fun _ => ?_) (fun _ => ?_)
      · refine g_aload_n 0 (kdX12_readLine 80 rfl) rfl ?_
        refine g_get (v := .inl (m17.1 40 0 4)) (kdX12_readLine 81 rfl) fX12_132 rfl ?_
        exact g_iret rfl (kdX12_readLine 82 rfl)
      · exact g_fgt [0] rfl (BX12_readLine_139 m17)
def JX12_readLine  (m : hM) : hR :=
  stI m 40 0 3 0 fun m1 =>
  stI m1 40 0 4 (-1) fun m2 =>
  JX12_readLine_12 (fun m6 => JX12_readLine_38 (fun v1 m15 => JX12_readLine_116 v1 m15)  FU 0 1 m6)  FU 0 m2
set_option maxRecDepth 20000 in
theorem CX12_readLine  (m : hM) : Cn mX12_readLine 5 [.inr (.inr (40, 0))] m (JX12_readLine  m) := by
  refine cn_of (by decide +kernel) (by simp only [List.map, vcat, List.sum_cons, List.sum_nil]; decide) ?_
  unfold JX12_readLine
  show G mX12_readLine 5 0 [(0, .inr (.inr (40, 0)))] [] m _
  refine g_aload_n 0 (kdX12_readLine 0 rfl) rfl ?_
  refine g_iconst (v := 0) (kdX12_readLine 1 rfl) (by decide) ?_
  refine g_putI (kdX12_readLine 2 rfl) fX12_93 rfl (fun m1 => ?_)
  refine g_aload_n 0 (kdX12_readLine 3 rfl) rfl ?_
  refine g_iconst (v := (-1)) (kdX12_readLine 4 rfl) (by decide) ?_
  refine g_putI (kdX12_readLine 5 rfl) fX12_132 rfl (fun m2 => ?_)
  refine g_iconst (v := 0) (kdX12_readLine 6 rfl) (by decide) ?_
  refine g_istore_n (L2 := [(1, .inl 0), (0, .inr (.inr (40, 0)))]) (kdX12_readLine 7 rfl) rfl (by decide) ?_
  refine g_fgt [1, 0] rfl (BJX12_readLine_12  _  ?_ FU 0 m2)
  · intro m6
    refine g_iconst (v := 0) (kdX12_readLine 19 rfl) (by decide) ?_
    refine g_istore_n (L2 := [(1, .inl 0), (0, .inr (.inr (40, 0)))]) (kdX12_readLine 20 rfl) rfl (by decide) ?_
    refine g_iconst (v := 1) (kdX12_readLine 21 rfl) (by decide) ?_
    refine g_istore_n (L2 := [(2, .inl 1), (1, .inl 0), (0, .inr (.inr (40, 0)))]) (kdX12_readLine 22 rfl) rfl (by decide) ?_
    refine g_fgt [2, 1, 0] rfl (BJX12_readLine_38  _  ?_ FU 0 1 m6)
    · intro v1 m15
      exact g_fgt [0, 1] rfl (BX12_readLine_116 v1 m15)
def JX12_stepLow (a1 : Int32) (a2 : Int32) (m : hM) : hR :=
  if a1 = 0 then (some (some (.inl 1), m)) else (if a1 = 3 then (if a2 = 1 then (some (some (.inl (-255)), m)) else (some (some (.inl 0), m))) else (some (some (.inl 0), m)))
set_option maxRecDepth 20000 in
theorem CX12_stepLow (a1 : Int32) (a2 : Int32) (m : hM) : Cn mX12_stepLow 0 [.inl a1, .inl a2] m (JX12_stepLow a1 a2 m) := by
  refine cn_of (by decide +kernel) (by simp only [List.map, vcat, List.sum_cons, List.sum_nil]; decide) ?_
  unfold JX12_stepLow
  show G mX12_stepLow 0 0 [(0, .inl a1), (1, .inl a2)] [] m _
  refine g_iload_n 0 (kdX12_stepLow 0 rfl) rfl ?_
  refine g_if_ne (tgt := 8) (kdX12_stepLow 1 rfl) (by decide) (fun _ => ?_) (fun _ => ?_)
  · refine g_iload_n 0 (kdX12_stepLow 4 rfl) rfl ?_
    refine g_iconst (v := 3) (kdX12_stepLow 5 rfl) (by decide) ?_
    refine g_icmp_ne (tgt := 24) (kdX12_stepLow 6 rfl) (by decide) (fun _ => ?_) (fun _ => ?_)
    · refine g_iconst (v := 0) (kdX12_stepLow 12 rfl) (by decide) ?_
      exact g_iret rfl (kdX12_stepLow 13 rfl)
    · refine g_iload_n 1 (kdX12_stepLow 7 rfl) rfl ?_
      refine g_iconst (v := 1) (kdX12_stepLow 8 rfl) (by decide) ?_
      refine g_icmp_ne (tgt := 24) (kdX12_stepLow 9 rfl) (by decide) (fun _ => ?_) (fun _ => ?_)
      · refine g_iconst (v := 0) (kdX12_stepLow 12 rfl) (by decide) ?_
        exact g_iret rfl (kdX12_stepLow 13 rfl)
      · refine g_sipush (v := (-255)) (kdX12_stepLow 10 rfl) (by decide) ?_
        refine g_goto (tgt := 25) (kdX12_stepLow 11 rfl) (by decide) ?_
        exact g_iret rfl (kdX12_stepLow 13 rfl)
  · refine g_iconst (v := 1) (kdX12_stepLow 2 rfl) (by decide) ?_
    refine g_goto (tgt := 25) (kdX12_stepLow 3 rfl) (by decide) ?_
    exact g_iret rfl (kdX12_stepLow 13 rfl)
def JX12_stepHigh (a1 : Int32) (a2 : Int32) (m : hM) : hR :=
  swL a1 [(0, some (some (.inl 60), m)), (1, some (some (.inl 3), m)), (2, some (some (.inl 1), m)), (3, if a2 = 0 then (some (some (.inl 5), m)) else (some (some (.inl 255), m))), (4, some (some (.inl 99), m)), (5, some (some (.inl 4), m))] (some (some (.inl 99), m))
set_option maxRecDepth 20000 in
theorem CX12_stepHigh (a1 : Int32) (a2 : Int32) (m : hM) : Cn mX12_stepHigh 0 [.inl a1, .inl a2] m (JX12_stepHigh a1 a2 m) := by
  refine cn_of (by decide +kernel) (by simp only [List.map, vcat, List.sum_cons, List.sum_nil]; decide) ?_
  unfold JX12_stepHigh
  show G mX12_stepHigh 0 0 [(0, .inl a1), (1, .inl a2)] [] m _
  refine g_iload_n 0 (kdX12_stepHigh 0 rfl) rfl ?_
  refine g_table (offs := [39, 42, 44, 46, 60, 58]) (dt := 61) (kdX12_stepHigh 1 rfl) (by simp only [swK]; decide) rfl (by decide) ⟨⟨40, by decide, ?_⟩, ⟨43, by decide, ?_⟩, ⟨45, by decide, ?_⟩, ⟨47, by decide, ?_⟩, ⟨61, by decide, ?_⟩, ⟨59, by decide, ?_⟩, trivial⟩ ?_
  · refine g_bipush (v := 60) (kdX12_stepHigh 2 rfl) (by decide) ?_
    exact g_iret rfl (kdX12_stepHigh 3 rfl)
  · refine g_iconst (v := 3) (kdX12_stepHigh 4 rfl) (by decide) ?_
    exact g_iret rfl (kdX12_stepHigh 5 rfl)
  · refine g_iconst (v := 1) (kdX12_stepHigh 6 rfl) (by decide) ?_
    exact g_iret rfl (kdX12_stepHigh 7 rfl)
  · refine g_iload_n 1 (kdX12_stepHigh 8 rfl) rfl ?_
    refine g_if_ne (tgt := 55) (kdX12_stepHigh 9 rfl) (by decide) (fun _ => ?_) (fun _ => ?_)
    · refine g_sipush (v := 255) (kdX12_stepHigh 12 rfl) (by decide) ?_
      exact g_iret rfl (kdX12_stepHigh 13 rfl)
    · refine g_iconst (v := 5) (kdX12_stepHigh 10 rfl) (by decide) ?_
      refine g_goto (tgt := 58) (kdX12_stepHigh 11 rfl) (by decide) ?_
      exact g_iret rfl (kdX12_stepHigh 13 rfl)
  · refine g_bipush (v := 99) (kdX12_stepHigh 16 rfl) (by decide) ?_
    exact g_iret rfl (kdX12_stepHigh 17 rfl)
  · refine g_iconst (v := 4) (kdX12_stepHigh 14 rfl) (by decide) ?_
    exact g_iret rfl (kdX12_stepHigh 15 rfl)
  · refine g_bipush (v := 99) (kdX12_stepHigh 16 rfl) (by decide) ?_
    exact g_iret rfl (kdX12_stepHigh 17 rfl)
def JX12_stepNumbers_53 (K29 : Int32 → hM → hR) (K48 : hM → hR) (K87 : hM → hR) (K117 : hM → hR) (v1 : Int32) (v2 : Int32) (v3 : Int32) (v4 : Int32) (m : hM) : hR :=
  calV (JX12_next m) fun m1 =>
  if (m1.1 40 0 5) = 2 then (calI (JX12_stepLow v1 v4 m1) fun x3 m2 =>
  calI (JX12_stepHigh v1 v4 m2) fun x5 m4 =>
  calI (JX12_in (m1.1 40 0 7) x3 x5 m4) fun x7 m6 =>
  if x7 = 0 then (K87 m6) else (ast m6 48 0 ((v2 + 1) + v4) (m6.1 40 0 7) fun m8 =>
  calV (JX12_next m8) fun m9 =>
  K29 (v4 + 1) m9)) else (K87 m1)
set_option maxRecDepth 20000 in
theorem BX12_stepNumbers_53 (v1 : Int32) (v2 : Int32) (v3 : Int32) (K29 : Int32 → hM → hR) (K48 : hM → hR) (K87 : hM → hR) (K117 : hM → hR) (h29 : ∀ (v4 : Int32) (m : hM), G mX12_stepNumbers 3 29 [(0, .inr (.inr (40, 0))), (1, .inl v1), (2, .inl v2), (3, .inl v3), (4, .inl v4)] [] m (K29 v4 m)) (h48 : ∀ (m : hM), G mX12_stepNumbers 3 48 [(0, .inr (.inr (40, 0)))] [] m (K48 m)) (h87 : ∀ (m : hM), G mX12_stepNumbers 3 87 [(0, .inr (.inr (40, 0)))] [] m (K87 m)) (h117 : ∀ (m : hM), G mX12_stepNumbers 3 117 [(0, .inr (.inr (40, 0))), (3, .inl v3)] [] m (K117 m)) (v4 : Int32) (m : hM) : G mX12_stepNumbers 3 53 [(0, .inr (.inr (40, 0))), (1, .inl v1), (2, .inl v2), (3, .inl v3), (4, .inl v4)] [] m (JX12_stepNumbers_53 K29 K48 K87 K117 v1 v2 v3 v4 m) := by
  unfold JX12_stepNumbers_53
  refine g_aload_n 0 (kdX12_stepNumbers 29 rfl) rfl ?_
  refine g_calV (ck_V (As := []) (S := []) (t := 40) (o := 0) (kdX12_stepNumbers 30 rfl) iX12_next lX12_154 rc_40 rfl rfl rfl (by decide) (by simp only [List.map, vcat, List.sum_cons, List.sum_nil]; decide)) (CX12_next m) (fun m1 => ?_)
  refine g_aload_n 0 (kdX12_stepNumbers 31 rfl) rfl ?_
  refine g_get (v := .inl (m1.1 40 0 5)) (kdX12_stepNumbers 32 rfl) fX12_96 rfl ?_
  refine g_iconst (v := 2) (kdX12_stepNumbers 33 rfl) (by decide) ?_
  refine g_icmp_ne (tgt := 87) (kdX12_stepNumbers 34 rfl) (by decide) (fun _ => ?_) (fun _ => ?_)
  · exact g_fgt [0] rfl (h87 m1)
  · refine g_aload_n 0 (kdX12_stepNumbers 35 rfl) rfl ?_
    refine g_get (v := .inl (m1.1 40 0 7)) (kdX12_stepNumbers 36 rfl) fX12_119 rfl ?_
    refine g_iload_n 1 (kdX12_stepNumbers 37 rfl) rfl ?_
    refine g_iload 4 (kdX12_stepNumbers 38 rfl) rfl ?_
    refine g_calI (ck_S (As := [.inl v1, .inl v4]) (S := [.inl (m1.1 40 0 7)]) (kdX12_stepNumbers 39 rfl) iX12_stepLow lX12_186 rfl rfl rfl (by decide) (by simp only [List.map, vcat, List.sum_cons, List.sum_nil]; decide)) (CX12_stepLow v1 v4 m1) (fun x3 m2 => ?_)
    refine g_iload_n 1 (kdX12_stepNumbers 40 rfl) rfl ?_
    refine g_iload 4 (kdX12_stepNumbers 41 rfl) rfl ?_
    refine g_calI (ck_S (As := [.inl v1, .inl v4]) (S := [.inl x3, .inl (m1.1 40 0 7)]) (kdX12_stepNumbers 42 rfl) iX12_stepHigh lX12_190 rfl rfl rfl (by decide) (by simp only [List.map, vcat, List.sum_cons, List.sum_nil]; decide)) (CX12_stepHigh v1 v4 m2) (fun x5 m4 => ?_)
    refine g_calI (ck_S (As := [.inl (m1.1 40 0 7), .inl x3, .inl x5]) (S := []) (kdX12_stepNumbers 43 rfl) iX12_in lX12_89 rfl rfl rfl (by decide) (by simp only [List.map, vcat, List.sum_cons, List.sum_nil]; decide)) (CX12_in (m1.1 40 0 7) x3 x5 m4) (fun x7 m6 => ?_)
    refine g_if_ne (tgt := 92) (kdX12_stepNumbers 44 rfl) (by decide) (fun _ => ?_) (fun _ => ?_)
    · refine g_aload_n 0 (kdX12_stepNumbers 48 rfl) rfl ?_
      refine g_get (v := .inr (.inr (48, 0))) (kdX12_stepNumbers 49 rfl) fX12_31 rfl ?_
      refine g_iload_n 2 (kdX12_stepNumbers 50 rfl) rfl ?_
      refine g_iconst (v := 1) (kdX12_stepNumbers 51 rfl) (by decide) ?_
      refine g_iadd (kdX12_stepNumbers 52 rfl) ?_
      refine g_iload 4 (kdX12_stepNumbers 53 rfl) rfl ?_
      refine g_iadd (kdX12_stepNumbers 54 rfl) ?_
      refine g_aload_n 0 (kdX12_stepNumbers 55 rfl) rfl ?_
      refine g_get (v := .inl (m6.1 40 0 7)) (kdX12_stepNumbers 56 rfl) fX12_119 rfl ?_
      refine g_iast (kdX12_stepNumbers 57 rfl) (fun m8 => ?_)
      refine g_aload_n 0 (kdX12_stepNumbers 58 rfl) rfl ?_
      refine g_calV (ck_V (As := []) (S := []) (t := 40) (o := 0) (kdX12_stepNumbers 59 rfl) iX12_next lX12_154 rc_40 rfl rfl rfl (by decide) (by simp only [List.map, vcat, List.sum_cons, List.sum_nil]; decide)) (CX12_next m8) (fun m9 => ?_)
      refine g_iinc (v := v4 + 1) (L2 := [(4, .inl (v4 + 1)), (0, .inr (.inr (40, 0))), (1, .inl v1), (2, .inl v2), (3, .inl v3)]) 4 (kdX12_stepNumbers 60 rfl) rfl rfl rfl (by decide) ?_
      refine g_goto (tgt := 29) (kdX12_stepNumbers 61 rfl) (by decide) ?_
      exact g_fgt [1, 2, 3, 4, 0] rfl (h29 (v4 + 1) m9)
    · exact g_fgt [0] rfl (h87 m6)
def bJX12_stepNumbers_29 (K29 : Int32 → hM → hR) (K48 : hM → hR) (K87 : hM → hR) (K117 : hM → hR) (v1 : Int32) (v2 : Int32) (v3 : Int32) (v4 : Int32) (m : hM) : hR :=
  if v3 ≤ v4 then (K117 m) else (if v4 ≤ 0 then (JX12_stepNumbers_53 K29 K48 K87 K117 v1 v2 v3 v4 m) else (if (m.1 40 0 5) = 4 then (JX12_stepNumbers_53 K29 K48 K87 K117 v1 v2 v3 v4 m) else (K48 m)))
set_option maxRecDepth 20000 in
theorem BbJX12_stepNumbers_29 (K29 : Int32 → hM → hR) (K48 : hM → hR) (K87 : hM → hR) (K117 : hM → hR) (v1 : Int32) (v2 : Int32) (v3 : Int32) (h29 : ∀ (v4 : Int32) (m : hM), G mX12_stepNumbers 3 29 [(0, .inr (.inr (40, 0))), (1, .inl v1), (2, .inl v2), (3, .inl v3), (4, .inl v4)] [] m (K29 v4 m)) (h48 : ∀ (m : hM), G mX12_stepNumbers 3 48 [(0, .inr (.inr (40, 0)))] [] m (K48 m)) (h87 : ∀ (m : hM), G mX12_stepNumbers 3 87 [(0, .inr (.inr (40, 0)))] [] m (K87 m)) (h117 : ∀ (m : hM), G mX12_stepNumbers 3 117 [(0, .inr (.inr (40, 0))), (3, .inl v3)] [] m (K117 m)) (v4 : Int32) (m : hM) : G mX12_stepNumbers 3 29 [(0, .inr (.inr (40, 0))), (1, .inl v1), (2, .inl v2), (3, .inl v3), (4, .inl v4)] [] m (bJX12_stepNumbers_29 K29 K48 K87 K117 v1 v2 v3 v4 m) := by
  unfold bJX12_stepNumbers_29
  refine g_iload 4 (kdX12_stepNumbers 17 rfl) rfl ?_
  refine g_iload_n 3 (kdX12_stepNumbers 18 rfl) rfl ?_
  refine g_icmp_ge (tgt := 117) (kdX12_stepNumbers 19 rfl) (by decide) (fun _ => ?_) (fun _ => ?_)
  · exact g_fgt [0, 3] rfl (h117 m)
  · refine g_iload 4 (kdX12_stepNumbers 20 rfl) rfl ?_
    refine g_if_le (tgt := 53) (kdX12_stepNumbers 21 rfl) (by decide) (fun _ => ?_) (fun _ => ?_)
    · exact g_fgt [0, 1, 2, 3, 4] rfl (BX12_stepNumbers_53 v1 v2 v3 _ _ _ _ h29 h48 h87 h117 v4 m)
    · refine g_aload_n 0 (kdX12_stepNumbers 22 rfl) rfl ?_
      refine g_get (v := .inl (m.1 40 0 5)) (kdX12_stepNumbers 23 rfl) fX12_96 rfl ?_
      refine g_iconst (v := 4) (kdX12_stepNumbers 24 rfl) (by decide) ?_
      refine g_icmp_eq (tgt := 53) (kdX12_stepNumbers 25 rfl) (by decide) (fun _ => ?_) (fun _ => ?_)
      · exact g_fgt [0, 1, 2, 3, 4] rfl (BX12_stepNumbers_53 v1 v2 v3 _ _ _ _ h29 h48 h87 h117 v4 m)
      · exact g_fgt [0] rfl (h48 m)
def JX12_stepNumbers_29 (K48 : hM → hR) (K87 : hM → hR) (K117 : hM → hR) (v1 : Int32) (v2 : Int32) (v3 : Int32) : Nat → Int32 → hM → hR
  | 0, _, _ => none
  | f + 1, v4, m => bJX12_stepNumbers_29 (fun v4 m => JX12_stepNumbers_29 K48 K87 K117 v1 v2 v3 f v4 m) K48 K87 K117 v1 v2 v3 v4 m
theorem BJX12_stepNumbers_29 (K48 : hM → hR) (K87 : hM → hR) (K117 : hM → hR) (v1 : Int32) (v2 : Int32) (v3 : Int32) (h48 : ∀ (m : hM), G mX12_stepNumbers 3 48 [(0, .inr (.inr (40, 0)))] [] m (K48 m)) (h87 : ∀ (m : hM), G mX12_stepNumbers 3 87 [(0, .inr (.inr (40, 0)))] [] m (K87 m)) (h117 : ∀ (m : hM), G mX12_stepNumbers 3 117 [(0, .inr (.inr (40, 0))), (3, .inl v3)] [] m (K117 m)) : ∀ (f : Nat) (v4 : Int32) (m : hM), G mX12_stepNumbers 3 29 [(0, .inr (.inr (40, 0))), (1, .inl v1), (2, .inl v2), (3, .inl v3), (4, .inl v4)] [] m (JX12_stepNumbers_29 K48 K87 K117 v1 v2 v3 f v4 m)
  | 0, _, _ => g_none
  | f + 1, v4, m => BbJX12_stepNumbers_29  _ K48 K87 K117 v1 v2 v3 (fun v4 m => BJX12_stepNumbers_29  K48 K87 K117 v1 v2 v3 h48 h87 h117 f v4 m) h48 h87 h117 v4 m
def JX12_stepNumbers_87 (m : hM) : hR :=
  calV (JX12_bad m) fun m13 =>
  some (none, m13)
set_option maxRecDepth 20000 in
theorem BX12_stepNumbers_87 (m : hM) : G mX12_stepNumbers 3 87 [(0, .inr (.inr (40, 0)))] [] m (JX12_stepNumbers_87 m) := by
  unfold JX12_stepNumbers_87
  refine g_aload_n 0 (kdX12_stepNumbers 45 rfl) rfl ?_
  refine g_calV (ck_V (As := []) (S := []) (t := 40) (o := 0) (kdX12_stepNumbers 46 rfl) iX12_bad lX12_164 rc_40 rfl rfl rfl (by decide) (by simp only [List.map, vcat, List.sum_cons, List.sum_nil]; decide)) (CX12_bad m) (fun m13 => ?_)
  exact g_vret rfl (kdX12_stepNumbers 47 rfl)
def JX12_stepNumbers_25 (v1 : Int32) (v2 : Int32) (v100 : Int32) (m : hM) : hR :=
  JX12_stepNumbers_29 (fun m10 => calV (JX12_bad m10) fun m11 =>
  some (none, m11)) (fun m12 => JX12_stepNumbers_87 m12) (fun m14 => if v100 = 0 then (calV (JX12_next m14) fun m15 =>
  some (none, m15)) else (some (none, m14))) v1 v2 v100 FU 0 m
set_option maxRecDepth 20000 in
theorem BX12_stepNumbers_25 (v1 : Int32) (v2 : Int32) (v100 : Int32) (m : hM) : G mX12_stepNumbers 3 25 [(0, .inr (.inr (40, 0))), (1, .inl v1), (2, .inl v2)] [.inl v100] m (JX12_stepNumbers_25 v1 v2 v100 m) := by
  unfold JX12_stepNumbers_25
  refine g_istore_n (L2 := [(3, .inl v100), (0, .inr (.inr (40, 0))), (1, .inl v1), (2, .inl v2)]) (kdX12_stepNumbers 14 rfl) rfl (by decide) ?_
  refine g_iconst (v := 0) (kdX12_stepNumbers 15 rfl) (by decide) ?_
  refine g_istore (L2 := [(4, .inl 0), (3, .inl v100), (0, .inr (.inr (40, 0))), (1, .inl v1), (2, .inl v2)]) (kdX12_stepNumbers 16 rfl) rfl (by decide) ?_
  refine g_fgt [2, 3, 4, 1, 0] rfl (BJX12_stepNumbers_29  _ _ _ v1 v2 v100 ?_ ?_ ?_ FU 0 m)
  · intro m10
    refine g_aload_n 0 (kdX12_stepNumbers 26 rfl) rfl ?_
    refine g_calV (ck_V (As := []) (S := []) (t := 40) (o := 0) (kdX12_stepNumbers 27 rfl) iX12_bad lX12_164 rc_40 rfl rfl rfl (by decide) (by simp only [List.map, vcat, List.sum_cons, List.sum_nil]; decide)) (CX12_bad m10) (fun m11 => ?_)
    exact g_vret rfl (kdX12_stepNumbers 28 rfl)
  · intro m12
    exact g_fgt [0] rfl (BX12_stepNumbers_87 m12)
  · intro m14
    refine g_iload_n 1 (kdX12_stepNumbers 62 rfl) rfl ?_
    refine g_if_ne (tgt := 125) (kdX12_stepNumbers 63 rfl) (by decide) (fun _ => ?_) (fun _ => ?_)
    · exact g_vret rfl (kdX12_stepNumbers 66 rfl)
    · refine g_aload_n 0 (kdX12_stepNumbers 64 rfl) rfl ?_
      refine g_calV (ck_V (As := []) (S := []) (t := 40) (o := 0) (kdX12_stepNumbers 65 rfl) iX12_next lX12_154 rc_40 rfl rfl rfl (by decide) (by simp only [List.map, vcat, List.sum_cons, List.sum_nil]; decide)) (CX12_next m14) (fun m15 => ?_)
      exact g_vret rfl (kdX12_stepNumbers 66 rfl)
def JX12_stepNumbers_20 (v1 : Int32) (v2 : Int32) (m : hM) : hR :=
  JX12_stepNumbers_25 v1 v2 0 m
set_option maxRecDepth 20000 in
theorem BX12_stepNumbers_20 (v1 : Int32) (v2 : Int32) (m : hM) : G mX12_stepNumbers 3 20 [(0, .inr (.inr (40, 0))), (1, .inl v1), (2, .inl v2)] [] m (JX12_stepNumbers_20 v1 v2 m) := by
  unfold JX12_stepNumbers_20
  refine g_iconst (v := 0) (kdX12_stepNumbers 11 rfl) (by decide) ?_
  refine g_goto (tgt := 25) (kdX12_stepNumbers 12 rfl) (by decide) ?_
  exact g_fgt [0, 1, 2] rfl (BX12_stepNumbers_25 v1 v2 0 m)
def JX12_stepNumbers (a1 : Int32) (a2 : Int32) (m : hM) : hR :=
  if a1 = 3 then (JX12_stepNumbers_25 a1 a2 2 m) else (if a1 = 4 then (JX12_stepNumbers_20 a1 a2 m) else (if a1 = 7 then (JX12_stepNumbers_20 a1 a2 m) else (JX12_stepNumbers_25 a1 a2 1 m)))
set_option maxRecDepth 20000 in
theorem CX12_stepNumbers (a1 : Int32) (a2 : Int32) (m : hM) : Cn mX12_stepNumbers 3 [.inr (.inr (40, 0)), .inl a1, .inl a2] m (JX12_stepNumbers a1 a2 m) := by
  refine cn_of (by decide +kernel) (by simp only [List.map, vcat, List.sum_cons, List.sum_nil]; decide) ?_
  unfold JX12_stepNumbers
  show G mX12_stepNumbers 3 0 [(0, .inr (.inr (40, 0))), (1, .inl a1), (2, .inl a2)] [] m _
  refine g_iload_n 1 (kdX12_stepNumbers 0 rfl) rfl ?_
  refine g_iconst (v := 3) (kdX12_stepNumbers 1 rfl) (by decide) ?_
  refine g_icmp_ne (tgt := 9) (kdX12_stepNumbers 2 rfl) (by decide) (fun _ => ?_) (fun _ => ?_)
  · refine g_iload_n 1 (kdX12_stepNumbers 5 rfl) rfl ?_
    refine g_iconst (v := 4) (kdX12_stepNumbers 6 rfl) (by decide) ?_
    refine g_icmp_eq (tgt := 20) (kdX12_stepNumbers 7 rfl) (by decide) (fun _ => ?_) (fun _ => ?_)
    · exact g_fgt [0, 1, 2] rfl (BX12_stepNumbers_20 a1 a2 m)
    · refine g_iload_n 1 (kdX12_stepNumbers 8 rfl) rfl ?_
      refine g_bipush (v := 7) (kdX12_stepNumbers 9 rfl) (by decide) ?_
      refine g_icmp_ne (tgt := 24) (kdX12_stepNumbers 10 rfl) (by decide) (fun _ => ?_) (fun _ => ?_)
      · refine g_iconst (v := 1) (kdX12_stepNumbers 13 rfl) (by decide) ?_
        exact g_fgt [0, 1, 2] rfl (BX12_stepNumbers_25 a1 a2 1 m)
      · exact g_fgt [0, 1, 2] rfl (BX12_stepNumbers_20 a1 a2 m)
  · refine g_iconst (v := 2) (kdX12_stepNumbers 3 rfl) (by decide) ?_
    refine g_goto (tgt := 25) (kdX12_stepNumbers 4 rfl) (by decide) ?_
    exact g_fgt [0, 1, 2] rfl (BX12_stepNumbers_25 a1 a2 2 m)
