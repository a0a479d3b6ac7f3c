abbrev mX9_lowOf : hMt := (yX9_lowOf, cX9_lowOf, 2, some .int)
def tX9_lowOf : hTb := [(0, .iload_n 1, 1, 1), (1, .ifCond .ne 10, 3, 4), (4, .aload_n 0, 1, 5), (5, .getfield 57, 3, 8), (8, .goto 6, 3, 11), (11, .sipush (-255), 3, 14), (14, .ireturn, 1, 15)]
theorem ktX9_lowOf : TbOK mX9_lowOf tX9_lowOf := by
  unfold TbOK
  decide +kernel
theorem kdX9_lowOf (k : Nat) {pc : Nat} {i : Instr} {len nx : Nat} (hk : tX9_lowOf[k]? = some (pc, i, len, nx)) : Dc mX9_lowOf pc i len nx := dc_of ktX9_lowOf k hk
theorem iX9_lowOf : MiV mX9_lowOf := ⟨⟨gdw_of (i := 689) (by decide +kernel) (by decide +kernel), gdw_of (i := 131) (by decide +kernel) (by decide +kernel), by decide, by decide, by decide⟩, gdw_of (i := 687) (by decide +kernel) (by decide +kernel), gdw_of (i := 688) (by decide +kernel) (by decide +kernel)⟩
abbrev mX9_highOf : hMt := (yX9_highOf, cX9_highOf, 2, some .int)
def tX9_highOf : hTb := [(0, .iload_n 1, 1, 1), (1, .ifCond .ne 10, 3, 4), (4, .aload_n 0, 1, 5), (5, .getfield 60, 3, 8), (8, .goto 6, 3, 11), (11, .sipush 255, 3, 14), (14, .ireturn, 1, 15)]
theorem ktX9_highOf : TbOK mX9_highOf tX9_highOf := by
  unfold TbOK
  decide +kernel
theorem kdX9_highOf (k : Nat) {pc : Nat} {i : Instr} {len nx : Nat} (hk : tX9_highOf[k]? = some (pc, i, len, nx)) : Dc mX9_highOf pc i len nx := dc_of ktX9_highOf k hk
theorem iX9_highOf : MiV mX9_highOf := ⟨⟨gdw_of (i := 693) (by decide +kernel) (by decide +kernel), gdw_of (i := 131) (by decide +kernel) (by decide +kernel), by decide, by decide, by decide⟩, gdw_of (i := 691) (by decide +kernel) (by decide +kernel), gdw_of (i := 692) (by decide +kernel) (by decide +kernel)⟩
abbrev mX4_reset : hMt := (yX4_reset, cX4_reset, 2, none)
def tX4_reset : hTb := [(0, .iconst 0, 1, 1), (1, .istore_n 1, 1, 2), (2, .iload_n 1, 1, 3), (3, .bipush 13, 2, 5), (5, .if_icmp .ge 31, 3, 8), (8, .iload_n 1, 1, 9), (9, .getstatic 21, 3, 12), (12, .arraylength, 1, 13), (13, .if_icmp .ge 23, 3, 16), (16, .aload_n 0, 1, 17), (17, .getfield 9, 3, 20), (20, .iload_n 1, 1, 21), (21, .getstatic 21, 3, 24), (24, .iload_n 1, 1, 25), (25, .aaload, 1, 26), (26, .getfield 27, 3, 29), (29, .iastore, 1, 30), (30, .iinc 1 1, 3, 33), (33, .goto (-31), 3, 36), (36, .return_, 1, 37)]
theorem ktX4_reset : TbOK mX4_reset tX4_reset := by
  unfold TbOK
  decide +kernel
theorem kdX4_reset (k : Nat) {pc : Nat} {i : Instr} {len nx : Nat} (hk : tX4_reset[k]? = some (pc, i, len, nx)) : Dc mX4_reset pc i len nx := dc_of ktX4_reset k hk
theorem iX4_reset : MiV mX4_reset := ⟨⟨gdw_of (i := 558) (by decide +kernel) (by decide +kernel), gdw_of (i := 115) (by decide +kernel) (by decide +kernel), by decide, by decide, by decide⟩, gdw_of (i := 556) (by decide +kernel) (by decide +kernel), gdw_of (i := 557) (by decide +kernel) (by decide +kernel)⟩
abbrev mX6_append : hMt := (yX6_append, cX6_append, 4, none)
def tX6_append : hTb := [(0, .bipush 24, 2, 2), (2, .istore_n 2, 1, 3), (3, .iload_n 2, 1, 4), (4, .ifCond .lt 55, 3, 7), (7, .iload_n 1, 1, 8), (8, .iload_n 2, 1, 9), (9, .iushr, 1, 10), (10, .sipush 255, 3, 13), (13, .iand, 1, 14), (14, .istore_n 3, 1, 15), (15, .iload_n 3, 1, 16), (16, .ifCond .eq 37, 3, 19), (19, .aload_n 0, 1, 20), (20, .getfield 37, 3, 23), (23, .iconst 0, 1, 24), (24, .sipush 239, 3, 27), (27, .invokestatic 45, 3, 30), (30, .ifCond .eq 23, 3, 33), (33, .aload_n 0, 1, 34), (34, .getfield 9, 3, 37), (37, .aload_n 0, 1, 38), (38, .getfield 37, 3, 41), (41, .iload_n 3, 1, 42), (42, .iastore, 1, 43), (43, .aload_n 0, 1, 44), (44, .dup, 1, 45), (45, .getfield 37, 3, 48), (48, .iconst 1, 1, 49), (49, .iadd, 1, 50), (50, .putfield 37, 3, 53), (53, .iinc 2 (-8), 3, 56), (56, .goto (-53), 3, 59), (59, .return_, 1, 60)]
theorem ktX6_append : TbOK mX6_append tX6_append := by
  unfold TbOK
  decide +kernel
theorem kdX6_append (k : Nat) {pc : Nat} {i : Instr} {len nx : Nat} (hk : tX6_append[k]? = some (pc, i, len, nx)) : Dc mX6_append pc i len nx := dc_of ktX6_append k hk
theorem iX6_append : MiV mX6_append := ⟨⟨gdw_of (i := 535) (by decide +kernel) (by decide +kernel), gdw_of (i := 114) (by decide +kernel) (by decide +kernel), by decide, by decide, by decide⟩, gdw_of (i := 534) (by decide +kernel) (by decide +kernel), gdw_of (i := 0) (by decide +kernel) (by decide +kernel)⟩
abbrev mX6_bytesIn : hMt := (yX6_bytesIn, cX6_bytesIn, 3, some .int)
def tX6_bytesIn : hTb := [(0, .iconst 0, 1, 1), (1, .istore_n 1, 1, 2), (2, .bipush 24, 2, 4), (4, .istore_n 2, 1, 5), (5, .iload_n 2, 1, 6), (6, .ifCond .lt 22, 3, 9), (9, .iload_n 0, 1, 10), (10, .iload_n 2, 1, 11), (11, .iushr, 1, 12), (12, .sipush 255, 3, 15), (15, .iand, 1, 16), (16, .ifCond .eq 6, 3, 19), (19, .iinc 1 1, 3, 22), (22, .iinc 2 (-8), 3, 25), (25, .goto (-20), 3, 28), (28, .iload_n 1, 1, 29), (29, .ireturn, 1, 30)]
theorem ktX6_bytesIn : TbOK mX6_bytesIn tX6_bytesIn := by
  unfold TbOK
  decide +kernel
theorem kdX6_bytesIn (k : Nat) {pc : Nat} {i : Instr} {len nx : Nat} (hk : tX6_bytesIn[k]? = some (pc, i, len, nx)) : Dc mX6_bytesIn pc i len nx := dc_of ktX6_bytesIn k hk
theorem iX6_bytesIn : MiS mX6_bytesIn := ⟨⟨gdw_of (i := 531) (by decide +kernel) (by decide +kernel), gdw_of (i := 114) (by decide +kernel) (by decide +kernel), by decide, by decide, by decide⟩, gdw_of (i := 530) (by decide +kernel) (by decide +kernel)⟩
abbrev mX6_join : hMt := (yX6_join, cX6_join, 7, some .int)
def tX6_join : hTb := [(0, .iload_n 1, 1, 1), (1, .invokestatic 33, 3, 4), (4, .iload_n 2, 1, 5), (5, .invokestatic 33, 3, 8), (8, .iadd, 1, 9), (9, .iload_n 3, 1, 10), (10, .invokestatic 33, 3, 13), (13, .iadd, 1, 14), (14, .iload 4, 2, 16), (16, .invokestatic 33, 3, 19), (19, .iadd, 1, 20), (20, .iload 5, 2, 22), (22, .invokestatic 33, 3, 25), (25, .iadd, 1, 26), (26, .istore 6, 2, 28), (28, .aload_n 0, 1, 29), (29, .getfield 37, 3, 32), (32, .iload 6, 2, 34), (34, .iadd, 1, 35), (35, .sipush 240, 3, 38), (38, .if_icmp .le 5, 3, 41), (41, .iconst (-1), 1, 42), (42, .ireturn, 1, 43), (43, .aload_n 0, 1, 44), (44, .iload_n 1, 1, 45), (45, .invokevirtual 41, 3, 48), (48, .aload_n 0, 1, 49), (49, .iload_n 2, 1, 50), (50, .invokevirtual 41, 3, 53), (53, .aload_n 0, 1, 54), (54, .iload_n 3, 1, 55), (55, .invokevirtual 41, 3, 58), (58, .aload_n 0, 1, 59), (59, .iload 4, 2, 61), (61, .invokevirtual 41, 3, 64), (64, .aload_n 0, 1, 65), (65, .iload 5, 2, 67), (67, .invokevirtual 41, 3, 70), (70, .aload_n 0, 1, 71), (71, .getfield 37, 3, 74), (74, .ireturn, 1, 75)]
theorem ktX6_join : TbOK mX6_join tX6_join := by
  unfold TbOK
  decide +kernel
theorem kdX6_join (k : Nat) {pc : Nat} {i : Instr} {len nx : Nat} (hk : tX6_join[k]? = some (pc, i, len, nx)) : Dc mX6_join pc i len nx := dc_of ktX6_join k hk
theorem iX6_join : MiV mX6_join := ⟨⟨gdw_of (i := 528) (by decide +kernel) (by decide +kernel), gdw_of (i := 114) (by decide +kernel) (by decide +kernel), by decide, by decide, by decide⟩, gdw_of (i := 526) (by decide +kernel) (by decide +kernel), gdw_of (i := 527) (by decide +kernel) (by decide +kernel)⟩
abbrev mX6_cut : hMt := (yX6_cut, cX6_cut, 2, some .boolean)
def tX6_cut : hTb := [(0, .iload_n 1, 1, 1), (1, .iconst 0, 1, 2), (2, .aload_n 0, 1, 3), (3, .getfield 37, 3, 6), (6, .invokestatic 45, 3, 9), (9, .ifCond .ne 5, 3, 12), (12, .iconst 0, 1, 13), (13, .ireturn, 1, 14), (14, .aload_n 0, 1, 15), (15, .iload_n 1, 1, 16), (16, .putfield 37, 3, 19), (19, .iconst 1, 1, 20), (20, .ireturn, 1, 21)]
theorem ktX6_cut : TbOK mX6_cut tX6_cut := by
  unfold TbOK
  decide +kernel
theorem kdX6_cut (k : Nat) {pc : Nat} {i : Instr} {len nx : Nat} (hk : tX6_cut[k]? = some (pc, i, len, nx)) : Dc mX6_cut pc i len nx := dc_of ktX6_cut k hk
theorem iX6_cut : MiV mX6_cut := ⟨⟨gdw_of (i := 546) (by decide +kernel) (by decide +kernel), gdw_of (i := 114) (by decide +kernel) (by decide +kernel), by decide, by decide, by decide⟩, gdw_of (i := 544) (by decide +kernel) (by decide +kernel), gdw_of (i := 545) (by decide +kernel) (by decide +kernel)⟩
abbrev mX6_byteAt : hMt := (yX6_byteAt, cX6_byteAt, 2, some .int)
def tX6_byteAt : hTb := [(0, .iload_n 1, 1, 1), (1, .ifCond .lt 27, 3, 4), (4, .iload_n 1, 1, 5), (5, .aload_n 0, 1, 6), (6, .getfield 37, 3, 9), (9, .if_icmp .ge 19, 3, 12), (12, .iload_n 1, 1, 13), (13, .sipush 240, 3, 16), (16, .if_icmp .ge 12, 3, 19), (19, .aload_n 0, 1, 20), (20, .getfield 9, 3, 23), (23, .iload_n 1, 1, 24), (24, .iaload, 1, 25), (25, .goto 4, 3, 28), (28, .iconst (-1), 1, 29), (29, .ireturn, 1, 30)]
theorem ktX6_byteAt : TbOK mX6_byteAt tX6_byteAt := by
  unfold TbOK
  decide +kernel
theorem kdX6_byteAt (k : Nat) {pc : Nat} {i : Instr} {len nx : Nat} (hk : tX6_byteAt[k]? = some (pc, i, len, nx)) : Dc mX6_byteAt pc i len nx := dc_of ktX6_byteAt k hk
theorem iX6_byteAt : MiV mX6_byteAt := ⟨⟨gdw_of (i := 572) (by decide +kernel) (by decide +kernel), gdw_of (i := 114) (by decide +kernel) (by decide +kernel), by decide, by decide, by decide⟩, gdw_of (i := 571) (by decide +kernel) (by decide +kernel), gdw_of (i := 3) (by decide +kernel) (by decide +kernel)⟩
abbrev mX6_endOfLetters : hMt := (yX6_endOfLetters, cX6_endOfLetters, 2, some .int)
def tX6_endOfLetters : hTb := [(0, .aload_n 0, 1, 1), (1, .getfield 49, 3, 4), (4, .istore_n 1, 1, 5), (5, .iload_n 1, 1, 6), (6, .aload_n 0, 1, 7), (7, .getfield 37, 3, 10), (10, .if_icmp .ge 24, 3, 13), (13, .aload_n 0, 1, 14), (14, .iload_n 1, 1, 15), (15, .invokevirtual 147, 3, 18), (18, .bipush 97, 2, 20), (20, .bipush 122, 2, 22), (22, .invokestatic 45, 3, 25), (25, .ifCond .eq 9, 3, 28), (28, .iinc 1 1, 3, 31), (31, .goto (-26), 3, 34), (34, .iload_n 1, 1, 35), (35, .ireturn, 1, 36)]
theorem ktX6_endOfLetters : TbOK mX6_endOfLetters tX6_endOfLetters := by
  unfold TbOK
  decide +kernel
theorem kdX6_endOfLetters (k : Nat) {pc : Nat} {i : Instr} {len nx : Nat} (hk : tX6_endOfLetters[k]? = some (pc, i, len, nx)) : Dc mX6_endOfLetters pc i len nx := dc_of ktX6_endOfLetters k hk
theorem iX6_endOfLetters : MiV mX6_endOfLetters := ⟨⟨gdw_of (i := 580) (by decide +kernel) (by decide +kernel), gdw_of (i := 114) (by decide +kernel) (by decide +kernel), by decide, by decide, by decide⟩, gdw_of (i := 579) (by decide +kernel) (by decide +kernel), gdw_of (i := 5) (by decide +kernel) (by decide +kernel)⟩
abbrev mX6_stands : hMt := (yX6_stands, cX6_stands, 4, some .boolean)
def tX6_stands : hTb := [(0, .iload_n 2, 1, 1), (1, .aload_n 0, 1, 2), (2, .getfield 49, 3, 5), (5, .isub, 1, 6), (6, .aload_n 1, 1, 7), (7, .invokevirtual 96, 3, 10), (10, .if_icmp .eq 5, 3, 13), (13, .iconst 0, 1, 14), (14, .ireturn, 1, 15), (15, .iconst 0, 1, 16), (16, .istore_n 3, 1, 17), (17, .iload_n 3, 1, 18), (18, .aload_n 1, 1, 19), (19, .invokevirtual 96, 3, 22), (22, .if_icmp .ge 29, 3, 25), (25, .aload_n 0, 1, 26), (26, .aload_n 0, 1, 27), (27, .getfield 49, 3, 30), (30, .iload_n 3, 1, 31), (31, .iadd, 1, 32), (32, .invokevirtual 147, 3, 35), (35, .aload_n 1, 1, 36), (36, .iload_n 3, 1, 37), (37, .invokevirtual 167, 3, 40), (40, .if_icmp .eq 5, 3, 43), (43, .iconst 0, 1, 44), (44, .ireturn, 1, 45), (45, .iinc 3 1, 3, 48), (48, .goto (-31), 3, 51), (51, .iconst 1, 1, 52), (52, .ireturn, 1, 53)]
theorem ktX6_stands : TbOK mX6_stands tX6_stands := by
  unfold TbOK
  decide +kernel
theorem kdX6_stands (k : Nat) {pc : Nat} {i : Instr} {len nx : Nat} (hk : tX6_stands[k]? = some (pc, i, len, nx)) : Dc mX6_stands pc i len nx := dc_of ktX6_stands k hk
theorem iX6_stands : MiV mX6_stands := ⟨⟨gdw_of (i := 585) (by decide +kernel) (by decide +kernel), gdw_of (i := 114) (by decide +kernel) (by decide +kernel), by decide, by decide, by decide⟩, gdw_of (i := 584) (by decide +kernel) (by decide +kernel), gdw_of (i := 6) (by decide +kernel) (by decide +kernel)⟩
abbrev mX6_clauseHere : hMt := (yX6_clauseHere, cX6_clauseHere, 3, some .int)
def tX6_clauseHere : hTb := [(0, .aload_n 0, 1, 1), (1, .invokevirtual 160, 3, 4), (4, .istore_n 1, 1, 5), (5, .iconst 0, 1, 6), (6, .istore_n 2, 1, 7), (7, .iload_n 2, 1, 8), (8, .getstatic 82, 3, 11), (11, .arraylength, 1, 12), (12, .if_icmp .ge 27, 3, 15), (15, .aload_n 0, 1, 16), (16, .getstatic 82, 3, 19), (19, .iload_n 2, 1, 20), (20, .aaload, 1, 21), (21, .getfield 92, 3, 24), (24, .iload_n 1, 1, 25), (25, .invokevirtual 163, 3, 28), (28, .ifCond .eq 5, 3, 31), (31, .iload_n 2, 1, 32), (32, .ireturn, 1, 33), (33, .iinc 2 1, 3, 36), (36, .goto (-29), 3, 39), (39, .iconst (-1), 1, 40), (40, .ireturn, 1, 41)]
theorem ktX6_clauseHere : TbOK mX6_clauseHere tX6_clauseHere := by
  unfold TbOK
  decide +kernel
theorem kdX6_clauseHere (k : Nat) {pc : Nat} {i : Instr} {len nx : Nat} (hk : tX6_clauseHere[k]? = some (pc, i, len, nx)) : Dc mX6_clauseHere pc i len nx := dc_of ktX6_clauseHere k hk
theorem iX6_clauseHere : MiV mX6_clauseHere := ⟨⟨gdw_of (i := 576) (by decide +kernel) (by decide +kernel), gdw_of (i := 114) (by decide +kernel) (by decide +kernel), by decide, by decide, by decide⟩, gdw_of (i := 575) (by decide +kernel) (by decide +kernel), gdw_of (i := 4) (by decide +kernel) (by decide +kernel)⟩
abbrev mX6_skipBlanks : hMt := (yX6_skipBlanks, cX6_skipBlanks, 1, none)
def tX6_skipBlanks : hTb := [(0, .aload_n 0, 1, 1), (1, .getfield 49, 3, 4), (4, .aload_n 0, 1, 5), (5, .getfield 37, 3, 8), (8, .if_icmp .ge 29, 3, 11), (11, .aload_n 0, 1, 12), (12, .aload_n 0, 1, 13), (13, .getfield 49, 3, 16), (16, .invokevirtual 147, 3, 19), (19, .bipush 32, 2, 21), (21, .if_icmp .ne 16, 3, 24), (24, .aload_n 0, 1, 25), (25, .dup, 1, 26), (26, .getfield 49, 3, 29), (29, .iconst 1, 1, 30), (30, .iadd, 1, 31), (31, .putfield 49, 3, 34), (34, .goto (-34), 3, 37), (37, .return_, 1, 38)]
theorem ktX6_skipBlanks : TbOK mX6_skipBlanks tX6_skipBlanks := by
  unfold TbOK
  decide +kernel
theorem kdX6_skipBlanks (k : Nat) {pc : Nat} {i : Instr} {len nx : Nat} (hk : tX6_skipBlanks[k]? = some (pc, i, len, nx)) : Dc mX6_skipBlanks pc i len nx := dc_of ktX6_skipBlanks k hk
theorem iX6_skipBlanks : MiV mX6_skipBlanks := ⟨⟨gdw_of (i := 568) (by decide +kernel) (by decide +kernel), gdw_of (i := 114) (by decide +kernel) (by decide +kernel), by decide, by decide, by decide⟩, gdw_of (i := 567) (by decide +kernel) (by decide +kernel), gdw_of (i := 2) (by decide +kernel) (by decide +kernel)⟩
abbrev mX6_passByte : hMt := (yX6_passByte, cX6_passByte, 2, some .boolean)
def tX6_passByte : hTb := [(0, .aload_n 0, 1, 1), (1, .invokevirtual 76, 3, 4), (4, .aload_n 0, 1, 5), (5, .aload_n 0, 1, 6), (6, .getfield 49, 3, 9), (9, .invokevirtual 147, 3, 12), (12, .iload_n 1, 1, 13), (13, .if_icmp .eq 5, 3, 16), (16, .iconst 0, 1, 17), (17, .ireturn, 1, 18), (18, .aload_n 0, 1, 19), (19, .dup, 1, 20), (20, .getfield 49, 3, 23), (23, .iconst 1, 1, 24), (24, .iadd, 1, 25), (25, .putfield 49, 3, 28), (28, .iconst 1, 1, 29), (29, .ireturn, 1, 30)]
theorem ktX6_passByte : TbOK mX6_passByte tX6_passByte := by
  unfold TbOK
  decide +kernel
theorem kdX6_passByte (k : Nat) {pc : Nat} {i : Instr} {len nx : Nat} (hk : tX6_passByte[k]? = some (pc, i, len, nx)) : Dc mX6_passByte pc i len nx := dc_of ktX6_passByte k hk
theorem iX6_passByte : MiV mX6_passByte := ⟨⟨gdw_of (i := 657) (by decide +kernel) (by decide +kernel), gdw_of (i := 114) (by decide +kernel) (by decide +kernel), by decide, by decide, by decide⟩, gdw_of (i := 656) (by decide +kernel) (by decide +kernel), gdw_of (i := 9) (by decide +kernel) (by decide +kernel)⟩
abbrev mX6_refuseAt : hMt := (yX6_refuseAt, cX6_refuseAt, 2, some .boolean)
def tX6_refuseAt : hTb := [(0, .aload_n 0, 1, 1), (1, .iload_n 1, 1, 2), (2, .putfield 52, 3, 5), (5, .iconst 0, 1, 6), (6, .ireturn, 1, 7)]
theorem ktX6_refuseAt : TbOK mX6_refuseAt tX6_refuseAt := by
  unfold TbOK
  decide +kernel
theorem kdX6_refuseAt (k : Nat) {pc : Nat} {i : Instr} {len nx : Nat} (hk : tX6_refuseAt[k]? = some (pc, i, len, nx)) : Dc mX6_refuseAt pc i len nx := dc_of ktX6_refuseAt k hk
theorem iX6_refuseAt : MiV mX6_refuseAt := ⟨⟨gdw_of (i := 637) (by decide +kernel) (by decide +kernel), gdw_of (i := 114) (by decide +kernel) (by decide +kernel), by decide, by decide, by decide⟩, gdw_of (i := 636) (by decide +kernel) (by decide +kernel), gdw_of (i := 7) (by decide +kernel) (by decide +kernel)⟩
abbrev mX6_passMark : hMt := (yX6_passMark, cX6_passMark, 2, some .boolean)
def tX6_passMark : hTb := [(0, .iload_n 1, 1, 1), (1, .ifCond .eq 14, 3, 4), (4, .aload_n 0, 1, 5), (5, .bipush 59, 2, 7), (7, .invokevirtual 120, 3, 10), (10, .ifCond .eq 5, 3, 13), (13, .iconst 1, 1, 14), (14, .ireturn, 1, 15), (15, .aload_n 0, 1, 16), (16, .invokevirtual 76, 3, 19), (19, .aload_n 0, 1, 20), (20, .getfield 49, 3, 23), (23, .aload_n 0, 1, 24), (24, .getfield 37, 3, 27), (27, .if_icmp .ge 18, 3, 30), (30, .aload_n 0, 1, 31), (31, .aload_n 0, 1, 32), (32, .getfield 49, 3, 35), (35, .invokevirtual 88, 3, 38), (38, .ifCond .eq 7, 3, 41), (41, .iconst 1, 1, 42), (42, .goto 4, 3, 45), (45, .iconst 0, 1, 46), (46, .ireturn, 1, 47)]
theorem ktX6_passMark : TbOK mX6_passMark tX6_passMark := by
  unfold TbOK
  decide +kernel
theorem kdX6_passMark (k : Nat) {pc : Nat} {i : Instr} {len nx : Nat} (hk : tX6_passMark[k]? = some (pc, i, len, nx)) : Dc mX6_passMark pc i len nx := dc_of ktX6_passMark k hk
theorem iX6_passMark : MiV mX6_passMark := ⟨⟨gdw_of (i := 661) (by decide +kernel) (by decide +kernel), gdw_of (i := 114) (by decide +kernel) (by decide +kernel), by decide, by decide, by decide⟩, gdw_of (i := 660) (by decide +kernel) (by decide +kernel), gdw_of (i := 10) (by decide +kernel) (by decide +kernel)⟩
abbrev mX6_isDigit : hMt := (yX6_isDigit, cX6_isDigit, 1, some .boolean)
def tX6_isDigit : hTb := [(0, .iload_n 0, 1, 1), (1, .bipush 48, 2, 3), (3, .bipush 57, 2, 5), (5, .invokestatic 45, 3, 8), (8, .ireturn, 1, 9)]
theorem ktX6_isDigit : TbOK mX6_isDigit tX6_isDigit := by
  unfold TbOK
  decide +kernel
theorem kdX6_isDigit (k : Nat) {pc : Nat} {i : Instr} {len nx : Nat} (hk : tX6_isDigit[k]? = some (pc, i, len, nx)) : Dc mX6_isDigit pc i len nx := dc_of ktX6_isDigit k hk
theorem iX6_isDigit : MiS mX6_isDigit := ⟨⟨gdw_of (i := 644) (by decide +kernel) (by decide +kernel), gdw_of (i := 114) (by decide +kernel) (by decide +kernel), by decide, by decide, by decide⟩, gdw_of (i := 643) (by decide +kernel) (by decide +kernel)⟩
abbrev mX6_readNumber : hMt := (yX6_readNumber, cX6_readNumber, 7, some .boolean)
def tX6_readNumber : hTb := [(0, .aload_n 0, 1, 1), (1, .invokevirtual 76, 3, 4), (4, .aload_n 0, 1, 5), (5, .getfield 49, 3, 8), (8, .istore_n 3, 1, 9), (9, .aload_n 0, 1, 10), (10, .aload_n 0, 1, 11), (11, .getfield 49, 3, 14), (14, .invokevirtual 147, 3, 17), (17, .bipush 45, 2, 19), (19, .if_icmp .ne 7, 3, 22), (22, .iconst 1, 1, 23), (23, .goto 4, 3, 26), (26, .iconst 0, 1, 27), (27, .istore 4, 2, 29), (29, .iload 4, 2, 31), (31, .ifCond .eq 12, 3, 34), (34, .aload_n 0, 1, 35), (35, .getfield 49, 3, 38), (38, .iconst 1, 1, 39), (39, .iadd, 1, 40), (40, .goto 7, 3, 43), (43, .aload_n 0, 1, 44), (44, .getfield 49, 3, 47), (47, .istore 5, 2, 49), (49, .aload_n 0, 1, 50), (50, .iload 5, 2, 52), (52, .invokevirtual 147, 3, 55), (55, .invokestatic 150, 3, 58), (58, .ifCond .ne 9, 3, 61), (61, .aload_n 0, 1, 62), (62, .iload_n 3, 1, 63), (63, .invokevirtual 88, 3, 66), (66, .ireturn, 1, 67), (67, .iconst 0, 1, 68), (68, .istore 6, 2, 70), (70, .iload 5, 2, 72), (72, .aload_n 0, 1, 73), (73, .getfield 37, 3, 76), (76, .if_icmp .ge 43, 3, 79), (79, .aload_n 0, 1, 80), (80, .iload 5, 2, 82), (82, .invokevirtual 147, 3, 85), (85, .invokestatic 150, 3, 88), (88, .ifCond .eq 31, 3, 91), (91, .iload 6, 2, 93), (93, .bipush 10, 2, 95), (95, .imul, 1, 96), (96, .aload_n 0, 1, 97), (97, .iload 5, 2, 99), (99, .invokevirtual 147, 3, 102), (102, .iadd, 1, 103), (103, .bipush 48, 2, 105), (105, .isub, 1, 106), (106, .ldc 153, 2, 108), (108, .invokestatic 154, 3, 111), (111, .istore 6, 2, 113), (113, .iinc 5 1, 3, 116), (116, .goto (-46), 3, 119), (119, .aload_n 0, 1, 120), (120, .iload 4, 2, 122), (122, .ifCond .eq 9, 3, 125), (125, .iload 6, 2, 127), (127, .ineg, 1, 128), (128, .goto 5, 3, 131), (131, .iload 6, 2, 133), (133, .putfield 113, 3, 136), (136, .aload_n 0, 1, 137), (137, .getfield 113, 3, 140), (140, .iload_n 1, 1, 141), (141, .iload_n 2, 1, 142), (142, .invokestatic 45, 3, 145), (145, .ifCond .ne 9, 3, 148), (148, .aload_n 0, 1, 149), (149, .iload_n 3, 1, 150), (150, .invokevirtual 88, 3, 153), (153, .ireturn, 1, 154), (154, .aload_n 0, 1, 155), (155, .iload 5, 2, 157), (157, .putfield 49, 3, 160), (160, .iconst 1, 1, 161), (161, .ireturn, 1, 162)]
theorem ktX6_readNumber : TbOK mX6_readNumber tX6_readNumber := by
  unfold TbOK
  decide +kernel
theorem kdX6_readNumber (k : Nat) {pc : Nat} {i : Instr} {len nx : Nat} (hk : tX6_readNumber[k]? = some (pc, i, len, nx)) : Dc mX6_readNumber pc i len nx := dc_of ktX6_readNumber k hk
theorem iX6_readNumber : MiV mX6_readNumber := ⟨⟨gdw_of (i := 641) (by decide +kernel) (by decide +kernel), gdw_of (i := 114) (by decide +kernel) (by decide +kernel), by decide, by decide, by decide⟩, gdw_of (i := 640) (by decide +kernel) (by decide +kernel), gdw_of (i := 8) (by decide +kernel) (by decide +kernel)⟩
abbrev mX6_readClause : hMt := (yX6_readClause, cX6_readClause, 5, some .boolean)
def tX6_readClause : hTb := [(0, .aload_n 0, 1, 1), (1, .invokevirtual 76, 3, 4), (4, .aload_n 0, 1, 5), (5, .invokevirtual 79, 3, 8), (8, .istore_n 1, 1, 9), (9, .iload_n 1, 1, 10), (10, .ifCond .lt 26, 3, 13), (13, .iload_n 1, 1, 14), (14, .getstatic 82, 3, 17), (17, .arraylength, 1, 18), (18, .if_icmp .ge 18, 3, 21), (21, .iload_n 1, 1, 22), (22, .bipush 13, 2, 24), (24, .if_icmp .ge 12, 3, 27), (27, .aload_n 0, 1, 28), (28, .getfield 15, 3, 31), (31, .iload_n 1, 1, 32), (32, .baload, 1, 33), (33, .ifCond .eq 12, 3, 36), (36, .aload_n 0, 1, 37), (37, .aload_n 0, 1, 38), (38, .getfield 49, 3, 41), (41, .invokevirtual 88, 3, 44), (44, .ireturn, 1, 45), (45, .aload_n 0, 1, 46), (46, .getfield 15, 3, 49), (49, .iload_n 1, 1, 50), (50, .iconst 1, 1, 51), (51, .bastore, 1, 52), (52, .getstatic 82, 3, 55), (55, .iload_n 1, 1, 56), (56, .aaload, 1, 57), (57, .astore_n 2, 1, 58), (58, .aload_n 0, 1, 59), (59, .dup, 1, 60), (60, .getfield 49, 3, 63), (63, .aload_n 2, 1, 64), (64, .getfield 92, 3, 67), (67, .invokevirtual 96, 3, 70), (70, .iadd, 1, 71), (71, .putfield 49, 3, 74), (74, .iconst 1, 1, 75), (75, .istore_n 3, 1, 76), (76, .iconst 0, 1, 77), (77, .istore 4, 2, 79), (79, .iload 4, 2, 81), (81, .aload_n 2, 1, 82), (82, .getfield 100, 3, 85), (85, .if_icmp .ge 70, 3, 88), (88, .iload_n 3, 1, 89), (89, .ifCond .eq 66, 3, 92), (92, .aload_n 0, 1, 93), (93, .aload_n 2, 1, 94), (94, .getfield 103, 3, 97), (97, .aload_n 2, 1, 98), (98, .getfield 106, 3, 101), (101, .invokevirtual 109, 3, 104), (104, .ifCond .ne 5, 3, 107), (107, .iconst 0, 1, 108), (108, .ireturn, 1, 109), (109, .aload_n 0, 1, 110), (110, .getfield 22, 3, 113), (113, .iload_n 1, 1, 114), (114, .iload 4, 2, 116), (116, .aload_n 0, 1, 117), (117, .getfield 113, 3, 120), (120, .invokevirtual 116, 3, 123), (123, .iload 4, 2, 125), (125, .iconst 1, 1, 126), (126, .iadd, 1, 127), (127, .aload_n 2, 1, 128), (128, .getfield 100, 3, 131), (131, .if_icmp .ge 16, 3, 134), (134, .aload_n 0, 1, 135), (135, .bipush 44, 2, 137), (137, .invokevirtual 120, 3, 140), (140, .ifCond .eq 7, 3, 143), (143, .iconst 1, 1, 144), (144, .goto 4, 3, 147), (147, .iconst 0, 1, 148), (148, .istore_n 3, 1, 149), (149, .iinc 4 1, 3, 152), (152, .goto (-73), 3, 155), (155, .aload_n 0, 1, 156), (156, .iconst 1, 1, 157), (157, .invokevirtual 72, 3, 160), (160, .ireturn, 1, 161)]
theorem ktX6_readClause : TbOK mX6_readClause tX6_readClause := by
  unfold TbOK
  decide +kernel
theorem kdX6_readClause (k : Nat) {pc : Nat} {i : Instr} {len nx : Nat} (hk : tX6_readClause[k]? = some (pc, i, len, nx)) : Dc mX6_readClause pc i len nx := dc_of ktX6_readClause k hk
theorem iX6_readClause : MiV mX6_readClause := ⟨⟨gdw_of (i := 564) (by decide +kernel) (by decide +kernel), gdw_of (i := 114) (by decide +kernel) (by decide +kernel), by decide, by decide, by decide⟩, gdw_of (i := 563) (by decide +kernel) (by decide +kernel), gdw_of (i := 1) (by decide +kernel) (by decide +kernel)⟩
abbrev mX6_faultOfLine : hMt := (yX6_faultOfLine, cX6_faultOfLine, 3, some .int)
def tX6_faultOfLine : hTb := [(0, .aload_n 0, 1, 1), (1, .iconst 0, 1, 2), (2, .putfield 49, 3, 5), (5, .aload_n 0, 1, 6), (6, .iconst (-1), 1, 7), (7, .putfield 52, 3, 10), (10, .aload_n 0, 1, 11), (11, .getfield 22, 3, 14), (14, .invokevirtual 55, 3, 17), (17, .iconst 0, 1, 18), (18, .istore_n 1, 1, 19), (19, .iload_n 1, 1, 20), (20, .bipush 13, 2, 22), (22, .if_icmp .ge 16, 3, 25), (25, .aload_n 0, 1, 26), (26, .getfield 15, 3, 29), (29, .iload_n 1, 1, 30), (30, .iconst 0, 1, 31), (31, .bastore, 1, 32), (32, .iinc 1 1, 3, 35), (35, .goto (-16), 3, 38), (38, .iconst 1, 1, 39), (39, .istore_n 1, 1, 40), (40, .iconst 0, 1, 41), (41, .istore_n 2, 1, 42), (42, .iload_n 2, 1, 43), (43, .bipush 13, 2, 45), (45, .if_icmp .gt 18, 3, 48), (48, .iload_n 1, 1, 49), (49, .ifCond .eq 14, 3, 52), (52, .aload_n 0, 1, 53), (53, .invokevirtual 58, 3, 56), (56, .istore_n 1, 1, 57), (57, .iinc 2 1, 3, 60), (60, .goto (-18), 3, 63), (63, .aload_n 0, 1, 64), (64, .getfield 52, 3, 67), (67, .iconst (-1), 1, 68), (68, .if_icmp .ne 21, 3, 71), (71, .aload_n 0, 1, 72), (72, .getfield 22, 3, 75), (75, .invokevirtual 62, 3, 78), (78, .ifCond .ne 11, 3, 81), (81, .aload_n 0, 1, 82), (82, .aload_n 0, 1, 83), (83, .getfield 37, 3, 86), (86, .putfield 52, 3, 89), (89, .aload_n 0, 1, 90), (90, .getfield 52, 3, 93), (93, .ireturn, 1, 94)]
theorem ktX6_faultOfLine : TbOK mX6_faultOfLine tX6_faultOfLine := by
  unfold TbOK
  decide +kernel
theorem kdX6_faultOfLine (k : Nat) {pc : Nat} {i : Instr} {len nx : Nat} (hk : tX6_faultOfLine[k]? = some (pc, i, len, nx)) : Dc mX6_faultOfLine pc i len nx := dc_of ktX6_faultOfLine k hk
theorem iX6_faultOfLine : MiV mX6_faultOfLine := ⟨⟨gdw_of (i := 554) (by decide +kernel) (by decide +kernel), gdw_of (i := 114) (by decide +kernel) (by decide +kernel), by decide, by decide, by decide⟩, gdw_of (i := 552) (by decide +kernel) (by decide +kernel), gdw_of (i := 553) (by decide +kernel) (by decide +kernel)⟩
abbrev mX6_stepHere : hMt := (yX6_stepHere, cX6_stepHere, 3, some .int)
def tX6_stepHere : hTb := [(0, .aload_n 0, 1, 1), (1, .invokevirtual 160, 3, 4), (4, .istore_n 1, 1, 5), (5, .iconst 0, 1, 6), (6, .istore_n 2, 1, 7), (7, .iload_n 2, 1, 8), (8, .getstatic 126, 3, 11), (11, .arraylength, 1, 12), (12, .if_icmp .ge 27, 3, 15), (15, .aload_n 0, 1, 16), (16, .getstatic 126, 3, 19), (19, .iload_n 2, 1, 20), (20, .aaload, 1, 21), (21, .getfield 134, 3, 24), (24, .iload_n 1, 1, 25), (25, .invokevirtual 163, 3, 28), (28, .ifCond .eq 5, 3, 31), (31, .iload_n 2, 1, 32), (32, .ireturn, 1, 33), (33, .iinc 2 1, 3, 36), (36, .goto (-29), 3, 39), (39, .iconst (-1), 1, 40), (40, .ireturn, 1, 41)]
theorem ktX6_stepHere : TbOK mX6_stepHere tX6_stepHere := by
  unfold TbOK
  decide +kernel
theorem kdX6_stepHere (k : Nat) {pc : Nat} {i : Instr} {len nx : Nat} (hk : tX6_stepHere[k]? = some (pc, i, len, nx)) : Dc mX6_stepHere pc i len nx := dc_of ktX6_stepHere k hk
theorem iX6_stepHere : MiV mX6_stepHere := ⟨⟨gdw_of (i := 677) (by decide +kernel) (by decide +kernel), gdw_of (i := 114) (by decide +kernel) (by decide +kernel), by decide, by decide, by decide⟩, gdw_of (i := 676) (by decide +kernel) (by decide +kernel), gdw_of (i := 12) (by decide +kernel) (by decide +kernel)⟩
abbrev mX6_readStep : hMt := (yX6_readStep, cX6_readStep, 4, some .boolean)
def tX6_readStep : hTb := [(0, .aload_n 0, 1, 1), (1, .invokevirtual 76, 3, 4), (4, .aload_n 0, 1, 5), (5, .invokevirtual 123, 3, 8), (8, .istore_n 1, 1, 9), (9, .iload_n 1, 1, 10), (10, .ifCond .lt 11, 3, 13), (13, .iload_n 1, 1, 14), (14, .getstatic 126, 3, 17), (17, .arraylength, 1, 18), (18, .if_icmp .lt 12, 3, 21), (21, .aload_n 0, 1, 22), (22, .aload_n 0, 1, 23), (23, .getfield 49, 3, 26), (26, .invokevirtual 88, 3, 29), (29, .ireturn, 1, 30), (30, .getstatic 126, 3, 33), (33, .iload_n 1, 1, 34), (34, .aaload, 1, 35), (35, .astore_n 2, 1, 36), (36, .aload_n 0, 1, 37), (37, .getfield 29, 3, 40), (40, .iload_n 1, 1, 41), (41, .invokevirtual 131, 3, 44), (44, .aload_n 0, 1, 45), (45, .dup, 1, 46), (46, .getfield 49, 3, 49), (49, .aload_n 2, 1, 50), (50, .getfield 134, 3, 53), (53, .invokevirtual 96, 3, 56), (56, .iadd, 1, 57), (57, .putfield 49, 3, 60), (60, .iconst 0, 1, 61), (61, .istore_n 3, 1, 62), (62, .iload_n 3, 1, 63), (63, .aload_n 2, 1, 64), (64, .getfield 135, 3, 67), (67, .if_icmp .ge 62, 3, 70), (70, .iload_n 3, 1, 71), (71, .ifCond .le 21, 3, 74), (74, .aload_n 0, 1, 75), (75, .bipush 44, 2, 77), (77, .invokevirtual 120, 3, 80), (80, .ifCond .ne 12, 3, 83), (83, .aload_n 0, 1, 84), (84, .aload_n 0, 1, 85), (85, .getfield 49, 3, 88), (88, .invokevirtual 88, 3, 91), (91, .ireturn, 1, 92), (92, .aload_n 0, 1, 93), (93, .aload_n 2, 1, 94), (94, .iload_n 3, 1, 95), (95, .invokevirtual 138, 3, 98), (98, .aload_n 2, 1, 99), (99, .iload_n 3, 1, 100), (100, .invokevirtual 141, 3, 103), (103, .invokevirtual 109, 3, 106), (106, .ifCond .ne 5, 3, 109), (109, .iconst 0, 1, 110), (110, .ireturn, 1, 111), (111, .aload_n 0, 1, 112), (112, .getfield 29, 3, 115), (115, .iload_n 3, 1, 116), (116, .aload_n 0, 1, 117), (117, .getfield 113, 3, 120), (120, .invokevirtual 144, 3, 123), (123, .iinc 3 1, 3, 126), (126, .goto (-64), 3, 129), (129, .iconst 1, 1, 130), (130, .ireturn, 1, 131)]
theorem ktX6_readStep : TbOK mX6_readStep tX6_readStep := by
  unfold TbOK
  decide +kernel
theorem kdX6_readStep (k : Nat) {pc : Nat} {i : Instr} {len nx : Nat} (hk : tX6_readStep[k]? = some (pc, i, len, nx)) : Dc mX6_readStep pc i len nx := dc_of ktX6_readStep k hk
theorem iX6_readStep : MiV mX6_readStep := ⟨⟨gdw_of (i := 673) (by decide +kernel) (by decide +kernel), gdw_of (i := 114) (by decide +kernel) (by decide +kernel), by decide, by decide, by decide⟩, gdw_of (i := 672) (by decide +kernel) (by decide +kernel), gdw_of (i := 11) (by decide +kernel) (by decide +kernel)⟩
abbrev mX6_faultOfScript : hMt := (yX6_faultOfScript, cX6_faultOfScript, 3, some .int)
def tX6_faultOfScript : hTb := [(0, .aload_n 0, 1, 1), (1, .iconst 0, 1, 2), (2, .putfield 49, 3, 5), (5, .aload_n 0, 1, 6), (6, .iconst (-1), 1, 7), (7, .putfield 52, 3, 10), (10, .aload_n 0, 1, 11), (11, .getfield 29, 3, 14), (14, .iconst 0, 1, 15), (15, .putfield 66, 3, 18), (18, .iconst 1, 1, 19), (19, .istore_n 1, 1, 20), (20, .iconst 0, 1, 21), (21, .istore_n 2, 1, 22), (22, .iload_n 2, 1, 23), (23, .bipush 12, 2, 25), (25, .if_icmp .ge 46, 3, 28), (28, .iload_n 1, 1, 29), (29, .ifCond .eq 42, 3, 32), (32, .aload_n 0, 1, 33), (33, .invokevirtual 69, 3, 36), (36, .ifCond .eq 27, 3, 39), (39, .aload_n 0, 1, 40), (40, .iload_n 2, 1, 41), (41, .iconst 1, 1, 42), (42, .iadd, 1, 43), (43, .bipush 12, 2, 45), (45, .if_icmp .ge 7, 3, 48), (48, .iconst 1, 1, 49), (49, .goto 4, 3, 52), (52, .iconst 0, 1, 53), (53, .invokevirtual 72, 3, 56), (56, .ifCond .eq 7, 3, 59), (59, .iconst 1, 1, 60), (60, .goto 4, 3, 63), (63, .iconst 0, 1, 64), (64, .istore_n 1, 1, 65), (65, .iinc 2 1, 3, 68), (68, .goto (-46), 3, 71), (71, .aload_n 0, 1, 72), (72, .getfield 52, 3, 75), (75, .ireturn, 1, 76)]
theorem ktX6_faultOfScript : TbOK mX6_faultOfScript tX6_faultOfScript := by
  unfold TbOK
  decide +kernel
theorem kdX6_faultOfScript (k : Nat) {pc : Nat} {i : Instr} {len nx : Nat} (hk : tX6_faultOfScript[k]? = some (pc, i, len, nx)) : Dc mX6_faultOfScript pc i len nx := dc_of ktX6_faultOfScript k hk
theorem iX6_faultOfScript : MiV mX6_faultOfScript := ⟨⟨gdw_of (i := 669) (by decide +kernel) (by decide +kernel), gdw_of (i := 114) (by decide +kernel) (by decide +kernel), by decide, by decide, by decide⟩, gdw_of (i := 667) (by decide +kernel) (by decide +kernel), gdw_of (i := 668) (by decide +kernel) (by decide +kernel)⟩
theorem lX11_85 : Lk RX11 85 mX6_join := Or.inl (gdw_of (i := 525) (by decide +kernel) (by decide +kernel))
theorem lX11_89 : Lk RX11 89 mX6_cut := Or.inl (gdw_of (i := 543) (by decide +kernel) (by decide +kernel))
theorem lX11_93 : Lk RX11 93 mX6_faultOfLine := Or.inl (gdw_of (i := 551) (by decide +kernel) (by decide +kernel))
theorem lX11_97 : Lk RX11 97 mX6_faultOfScript := Or.inl (gdw_of (i := 666) (by decide +kernel) (by decide +kernel))
theorem lX6_33 : Lk RX6 33 mX6_bytesIn := Or.inl (gdw_of (i := 529) (by decide +kernel) (by decide +kernel))
theorem lX6_41 : Lk RX6 41 mX6_append := Or.inl (gdw_of (i := 532) (by decide +kernel) (by decide +kernel))
theorem lX6_55 : Lk RX6 55 mX4_reset := Or.inl (gdw_of (i := 555) (by decide +kernel) (by decide +kernel))
theorem lX6_58 : Lk RX6 58 mX6_readClause := Or.inl (gdw_of (i := 561) (by decide +kernel) (by decide +kernel))
theorem lX6_69 : Lk RX6 69 mX6_readStep := Or.inl (gdw_of (i := 670) (by decide +kernel) (by decide +kernel))
theorem lX6_72 : Lk RX6 72 mX6_passMark := Or.inl (gdw_of (i := 658) (by decide +kernel) (by decide +kernel))
theorem lX6_76 : Lk RX6 76 mX6_skipBlanks := Or.inl (gdw_of (i := 565) (by decide +kernel) (by decide +kernel))
theorem lX6_79 : Lk RX6 79 mX6_clauseHere := Or.inl (gdw_of (i := 573) (by decide +kernel) (by decide +kernel))
theorem lX6_88 : Lk RX6 88 mX6_refuseAt := Or.inl (gdw_of (i := 634) (by decide +kernel) (by decide +kernel))
theorem lX6_109 : Lk RX6 109 mX6_readNumber := Or.inl (gdw_of (i := 638) (by decide +kernel) (by decide +kernel))
theorem lX6_120 : Lk RX6 120 mX6_passByte := Or.inl (gdw_of (i := 654) (by decide +kernel) (by decide +kernel))
theorem lX6_123 : Lk RX6 123 mX6_stepHere := Or.inl (gdw_of (i := 674) (by decide +kernel) (by decide +kernel))
theorem lX6_138 : Lk RX6 138 mX9_lowOf := Or.inl (gdw_of (i := 686) (by decide +kernel) (by decide +kernel))
theorem lX6_141 : Lk RX6 141 mX9_highOf := Or.inl (gdw_of (i := 690) (by decide +kernel) (by decide +kernel))
theorem lX6_147 : Lk RX6 147 mX6_byteAt := Or.inl (gdw_of (i := 569) (by decide +kernel) (by decide +kernel))
theorem lX6_150 : Lk RX6 150 mX6_isDigit := Or.inl (gdw_of (i := 642) (by decide +kernel) (by decide +kernel))
theorem lX6_160 : Lk RX6 160 mX6_endOfLetters := Or.inl (gdw_of (i := 577) (by decide +kernel) (by decide +kernel))
theorem lX6_163 : Lk RX6 163 mX6_stands := Or.inl (gdw_of (i := 582) (by decide +kernel) (by decide +kernel))
def JX9_lowOf (n : Nat) (a1 : Int32) (m : hM) : hR :=
  if a1 = 0 then (some (some (.inl (sk_low.getD n 0)), m)) else (some (some (.inl (-255)), m))
set_option maxRecDepth 20000 in
theorem CX9_lowOf (n : Nat) (a1 : Int32) (m : hM) : Cn mX9_lowOf 0 [.inr (.inr (104, n)), .inl a1] m (JX9_lowOf n a1 m) := by
  refine cn_of (by decide +kernel) (by simp only [List.map, vcat, List.sum_cons, List.sum_nil]; decide) ?_
  unfold JX9_lowOf
  show G mX9_lowOf 0 0 [(0, .inr (.inr (104, n))), (1, .inl a1)] [] m _
  refine g_iload_n 1 (kdX9_lowOf 0 rfl) rfl ?_
  refine g_if_ne (tgt := 11) (kdX9_lowOf 1 rfl) (by decide) (fun _ => ?_) (fun _ => ?_)
  · refine g_sipush (v := (-255)) (kdX9_lowOf 5 rfl) (by decide) ?_
    exact g_iret rfl (kdX9_lowOf 6 rfl)
  · refine g_aload_n 0 (kdX9_lowOf 2 rfl) rfl ?_
    refine g_giS (nm := "low") (l := sk_low) (kdX9_lowOf 3 rfl) sX9_57 (by simp) ?_
    refine g_goto (tgt := 14) (kdX9_lowOf 4 rfl) (by decide) ?_
    exact g_iret rfl (kdX9_lowOf 6 rfl)
def JX9_highOf (n : Nat) (a1 : Int32) (m : hM) : hR :=
  if a1 = 0 then (some (some (.inl (sk_high.getD n 0)), m)) else (some (some (.inl 255), m))
set_option maxRecDepth 20000 in
theorem CX9_highOf (n : Nat) (a1 : Int32) (m : hM) : Cn mX9_highOf 0 [.inr (.inr (104, n)), .inl a1] m (JX9_highOf n a1 m) := by
  refine cn_of (by decide +kernel) (by simp only [List.map, vcat, List.sum_cons, List.sum_nil]; decide) ?_
  unfold JX9_highOf
  show G mX9_highOf 0 0 [(0, .inr (.inr (104, n))), (1, .inl a1)] [] m _
  refine g_iload_n 1 (kdX9_highOf 0 rfl) rfl ?_
  refine g_if_ne (tgt := 11) (kdX9_highOf 1 rfl) (by decide) (fun _ => ?_) (fun _ => ?_)
  · refine g_sipush (v := 255) (kdX9_highOf 5 rfl) (by decide) ?_
    exact g_iret rfl (kdX9_highOf 6 rfl)
  · refine g_aload_n 0 (kdX9_highOf 2 rfl) rfl ?_
    refine g_giS (nm := "high") (l := sk_high) (kdX9_highOf 3 rfl) sX9_60 (by simp) ?_
    refine g_goto (tgt := 14) (kdX9_highOf 4 rfl) (by decide) ?_
    exact g_iret rfl (kdX9_highOf 6 rfl)
def bJX4_reset_2 (K2 : Int32 → hM → hR) (K36 : hM → hR) (w0 : Nat) (v1 : Int32) (m : hM) : hR :=
  if 13 ≤ v1 then (K36 m) else (if 13 ≤ v1 then (K36 m) else (eal 13 v1 fun j1 =>
  ast m 5 w0 v1 (ck_usual.getD j1 0) fun m2 =>
  K2 (v1 + 1) m2))
set_option maxRecDepth 20000 in
theorem BbJX4_reset_2 (K2 : Int32 → hM → hR) (K36 : hM → hR) (w0 : Nat) (h2 : ∀ (v1 : Int32) (m : hM), G mX4_reset 0 2 [(0, .inr (.inr (4, w0))), (1, .inl v1)] [] m (K2 v1 m)) (h36 : ∀ (m : hM), G mX4_reset 0 36 [] [] m (K36 m)) (v1 : Int32) (m : hM) : G mX4_reset 0 2 [(0, .inr (.inr (4, w0))), (1, .inl v1)] [] m (bJX4_reset_2 K2 K36 w0 v1 m) := by
  unfold bJX4_reset_2
  refine g_iload_n 1 (kdX4_reset 2 rfl) rfl ?_
  refine g_bipush (v := 13) (kdX4_reset 3 rfl) (by decide) ?_
  refine g_icmp_ge (tgt := 36) (kdX4_reset 4 rfl) (by decide) (fun _ => ?_) (fun _ => ?_)
  · exact g_fgt [] rfl (h36 m)
  · refine g_iload_n 1 (kdX4_reset 5 rfl) rfl ?_
    refine g_gsC (kdX4_reset 6 rfl) sX4_21 ?_
    refine g_elenC (kdX4_reset 7 rfl) ?_
    refine g_icmp_ge (tgt := 36) (kdX4_reset 8 rfl) (by decide) (fun _ => ?_) (fun _ => ?_)
    · exact g_fgt [] rfl (h36 m)
    · refine g_aload_n 0 (kdX4_reset 9 rfl) rfl ?_
      refine g_get (v := .inr (.inr (5, w0))) (kdX4_reset 10 rfl) fX4_9 rfl ?_
      refine g_iload_n 1 (kdX4_reset 11 rfl) rfl ?_
      refine g_gsC (kdX4_reset 12 rfl) sX4_21 ?_
      refine g_iload_n 1 (kdX4_reset 13 rfl) rfl ?_
      refine g_ealdC (kdX4_reset 14 rfl) (fun j1 => ?_)
      refine g_giC (nm := "usual") (l := ck_usual) (kdX4_reset 15 rfl) sX4_27 (by simp) ?_
      refine g_iast (kdX4_reset 16 rfl) (fun m2 => ?_)
      refine g_iinc (v := v1 + 1) (L2 := [(1, .inl (v1 + 1)), (0, .inr (.inr (4, w0)))]) 1 (kdX4_reset 17 rfl) rfl rfl rfl (by decide) ?_
      refine g_goto (tgt := 2) (kdX4_reset 18 rfl) (by decide) ?_
      exact g_fgt [1, 0] rfl (h2 (v1 + 1) m2)
def JX4_reset_2 (K36 : hM → hR) (w0 : Nat) : Nat → Int32 → hM → hR
  | 0, _, _ => none
  | f + 1, v1, m => bJX4_reset_2 (fun v1 m => JX4_reset_2 K36 w0 f v1 m) K36 w0 v1 m
theorem BJX4_reset_2 (K36 : hM → hR) (w0 : Nat) (h36 : ∀ (m : hM), G mX4_reset 0 36 [] [] m (K36 m)) : ∀ (f : Nat) (v1 : Int32) (m : hM), G mX4_reset 0 2 [(0, .inr (.inr (4, w0))), (1, .inl v1)] [] m (JX4_reset_2 K36 w0 f v1 m)
  | 0, _, _ => g_none
  | f + 1, v1, m => BbJX4_reset_2  _ K36 w0 (fun v1 m => BJX4_reset_2  K36 w0 h36 f v1 m) h36 v1 m
def JX4_reset (n : Nat) (m : hM) : hR :=
  JX4_reset_2 (fun m3 => some (none, m3)) n FU 0 m
set_option maxRecDepth 20000 in
theorem CX4_reset (n : Nat) (m : hM) : Cn mX4_reset 0 [.inr (.inr (4, n))] m (JX4_reset n m) := by
  refine cn_of (by decide +kernel) (by simp only [List.map, vcat, List.sum_cons, List.sum_nil]; decide) ?_
  unfold JX4_reset
  show G mX4_reset 0 0 [(0, .inr (.inr (4, n)))] [] m _
  refine g_iconst (v := 0) (kdX4_reset 0 rfl) (by decide) ?_
  refine g_istore_n (L2 := [(1, .inl 0), (0, .inr (.inr (4, n)))]) (kdX4_reset 1 rfl) rfl (by decide) ?_
  refine g_fgt [1, 0] rfl (BJX4_reset_2  _ n ?_ FU 0 m)
  · intro m3
    exact g_vret rfl (kdX4_reset 19 rfl)
def JX6_append_53 (K3 : Int32 → hM → hR) (K59 : hM → hR) (v1 : Int32) (v2 : Int32) (m : hM) : hR :=
  K3 (v2 + (-8)) m
set_option maxRecDepth 20000 in
theorem BX6_append_53 (v1 : Int32) (K3 : Int32 → hM → hR) (K59 : hM → hR) (h3 : ∀ (v2 : Int32) (m : hM), G mX6_append 1 3 [(0, .inr (.inr (1, 0))), (1, .inl v1), (2, .inl v2)] [] m (K3 v2 m)) (h59 : ∀ (m : hM), G mX6_append 1 59 [] [] m (K59 m)) (v2 : Int32) (m : hM) : G mX6_append 1 53 [(0, .inr (.inr (1, 0))), (1, .inl v1), (2, .inl v2)] [] m (JX6_append_53 K3 K59 v1 v2 m) := by
  unfold JX6_append_53
  refine g_iinc (v := v2 + (-8)) (L2 := [(2, .inl (v2 + (-8))), (0, .inr (.inr (1, 0))), (1, .inl v1)]) 2 (kdX6_append 30 rfl) rfl rfl rfl (by decide) ?_
  refine g_goto (tgt := 3) (kdX6_append 31 rfl) (by decide) ?_
  exact g_fgt [1, 2, 0] rfl (h3 (v2 + (-8)) m)
def bJX6_append_3 (K3 : Int32 → hM → hR) (K59 : hM → hR) (v1 : Int32) (v2 : Int32) (m : hM) : hR :=
  if v2 < 0 then (K59 m) else (lt ((jushr v1 v2) &&& 255) fun x1 =>
  if x1 = 0 then (JX6_append_53 K3 K59 v1 v2 m) else (calI (JX11_within (m.1 1 0 4) 0 239 m) fun x3 m2 =>
  if x3 = 0 then (JX6_append_53 K3 K59 v1 v2 m2) else (ast m2 2 0 (m2.1 1 0 4) x1 fun m4 =>
  stI m4 1 0 4 ((m4.1 1 0 4) + 1) fun m5 =>
  JX6_append_53 K3 K59 v1 v2 m5)))
set_option maxRecDepth 20000 in
theorem BbJX6_append_3 (K3 : Int32 → hM → hR) (K59 : hM → hR) (v1 : Int32) (h3 : ∀ (v2 : Int32) (m : hM), G mX6_append 1 3 [(0, .inr (.inr (1, 0))), (1, .inl v1), (2, .inl v2)] [] m (K3 v2 m)) (h59 : ∀ (m : hM), G mX6_append 1 59 [] [] m (K59 m)) (v2 : Int32) (m : hM) : G mX6_append 1 3 [(0, .inr (.inr (1, 0))), (1, .inl v1), (2, .inl v2)] [] m (bJX6_append_3 K3 K59 v1 v2 m) := by
  unfold bJX6_append_3
  refine g_iload_n 2 (kdX6_append 2 rfl) rfl ?_
  refine g_if_lt (tgt := 59) (kdX6_append 3 rfl) (by decide) (fun _ => ?_) (fun _ => ?_)
  · exact g_fgt [] rfl (h59 m)
  · refine g_iload_n 1 (kdX6_append 4 rfl) rfl ?_
    refine g_iload_n 2 (kdX6_append 5 rfl) rfl ?_
    refine g_iushr (kdX6_append 6 rfl) ?_
    refine g_sipush (v := 255) (kdX6_append 7 rfl) (by decide) ?_
    refine g_iand (kdX6_append 8 rfl) ?_
    refine g_lt (fun x1 => ?_)
    refine g_istore_n (L2 := [(3, .inl x1), (0, .inr (.inr (1, 0))), (1, .inl v1), (2, .inl v2)]) (kdX6_append 9 rfl) rfl (by decide) ?_
    refine g_iload_n 0 (kdX6_append 10 rfl) rfl ?_
    refine g_if_eq (tgt := 53) (kdX6_append 11 rfl) (by decide) (fun _ => ?_) (fun _ => ?_)
    · exact g_fgt [1, 2, 3] rfl (BX6_append_53 v1 _ _ h3 h59 v2 m)
    · refine g_aload_n 1 (kdX6_append 12 rfl) rfl ?_
      refine g_get (v := .inl (m.1 1 0 4)) (kdX6_append 13 rfl) fX6_37 rfl ?_
      refine g_iconst (v := 0) (kdX6_append 14 rfl) (by decide) ?_
      refine g_sipush (v := 239) (kdX6_append 15 rfl) (by decide) ?_
      refine g_calI (ck_S (As := [.inl (m.1 1 0 4), .inl 0, .inl 239]) (S := []) (kdX6_append 16 rfl) iX11_within lX6_45 rfl rfl rfl (by decide) (by simp only [List.map, vcat, List.sum_cons, List.sum_nil]; decide)) (CX11_within (m.1 1 0 4) 0 239 m) (fun x3 m2 => ?_)
      refine g_if_eq (tgt := 53) (kdX6_append 17 rfl) (by decide) (fun _ => ?_) (fun _ => ?_)
      · exact g_fgt [1, 2, 3] rfl (BX6_append_53 v1 _ _ h3 h59 v2 m2)
      · refine g_aload_n 1 (kdX6_append 18 rfl) rfl ?_
        refine g_get (v := .inr (.inr (2, 0))) (kdX6_append 19 rfl) fX6_9 rfl ?_
        refine g_aload_n 1 (kdX6_append 20 rfl) rfl ?_
        refine g_get (v := .inl (m2.1 1 0 4)) (kdX6_append 21 rfl) fX6_37 rfl ?_
        refine g_iload_n 0 (kdX6_append 22 rfl) rfl ?_
        refine g_iast (kdX6_append 23 rfl) (fun m4 => ?_)
        refine g_aload_n 1 (kdX6_append 24 rfl) rfl ?_
        refine g_dup (kdX6_append 25 rfl) rfl ?_
        refine g_get (v := .inl (m4.1 1 0 4)) (kdX6_append 26 rfl) fX6_37 rfl ?_
        refine g_iconst (v := 1) (kdX6_append 27 rfl) (by decide) ?_
        refine g_iadd (kdX6_append 28 rfl) ?_
        refine g_putI (kdX6_append 29 rfl) fX6_37 rfl (fun m5 => ?_)
        exact g_fgt [1, 2, 3] rfl (BX6_append_53 v1 _ _ h3 h59 v2 m5)
def JX6_append_3 (K59 : hM → hR) (v1 : Int32) : Nat → Int32 → hM → hR
  | 0, _, _ => none
  | f + 1, v2, m => bJX6_append_3 (fun v2 m => JX6_append_3 K59 v1 f v2 m) K59 v1 v2 m
theorem BJX6_append_3 (K59 : hM → hR) (v1 : Int32) (h59 : ∀ (m : hM), G mX6_append 1 59 [] [] m (K59 m)) : ∀ (f : Nat) (v2 : Int32) (m : hM), G mX6_append 1 3 [(0, .inr (.inr (1, 0))), (1, .inl v1), (2, .inl v2)] [] m (JX6_append_3 K59 v1 f v2 m)
  | 0, _, _ => g_none
  | f + 1, v2, m => BbJX6_append_3  _ K59 v1 (fun v2 m => BJX6_append_3  K59 v1 h59 f v2 m) h59 v2 m
def JX6_append (a1 : Int32) (m : hM) : hR :=
  JX6_append_3 (fun m6 => some (none, m6)) a1 FU 24 m
set_option maxRecDepth 20000 in
theorem CX6_append (a1 : Int32) (m : hM) : Cn mX6_append 1 [.inr (.inr (1, 0)), .inl a1] m (JX6_append a1 m) := by
  refine cn_of (by decide +kernel) (by simp only [List.map, vcat, List.sum_cons, List.sum_nil]; decide) ?_
  unfold JX6_append
  show G mX6_append 1 0 [(0, .inr (.inr (1, 0))), (1, .inl a1)] [] m _
  refine g_bipush (v := 24) (kdX6_append 0 rfl) (by decide) ?_
  refine g_istore_n (L2 := [(2, .inl 24), (0, .inr (.inr (1, 0))), (1, .inl a1)]) (kdX6_append 1 rfl) rfl (by decide) ?_
  refine g_fgt [1, 2, 0] rfl (BJX6_append_3  _ a1 ?_ FU 24 m)
  · intro m6
    exact g_vret rfl (kdX6_append 32 rfl)
def JX6_bytesIn_22 (K5 : Int32 → Int32 → hM → hR) (K28 : Int32 → hM → hR) (v0 : Int32) (v1 : Int32) (v2 : Int32) (m : hM) : hR :=
  K5 v1 (v2 + (-8)) m
set_option maxRecDepth 20000 in
theorem BX6_bytesIn_22 (v0 : Int32) (K5 : Int32 → Int32 → hM → hR) (K28 : Int32 → hM → hR) (h5 : ∀ (v1 : Int32) (v2 : Int32) (m : hM), G mX6_bytesIn 0 5 [(0, .inl v0), (1, .inl v1), (2, .inl v2)] [] m (K5 v1 v2 m)) (h28 : ∀ (v1 : Int32) (m : hM), G mX6_bytesIn 0 28 [(1, .inl v1)] [] m (K28 v1 m)) (v1 : Int32) (v2 : Int32) (m : hM) : G mX6_bytesIn 0 22 [(0, .inl v0), (1, .inl v1), (2, .inl v2)] [] m (JX6_bytesIn_22 K5 K28 v0 v1 v2 m) := by
  unfold JX6_bytesIn_22
  refine g_iinc (v := v2 + (-8)) (L2 := [(2, .inl (v2 + (-8))), (0, .inl v0), (1, .inl v1)]) 2 (kdX6_bytesIn 13 rfl) rfl rfl rfl (by decide) ?_
  refine g_goto (tgt := 5) (kdX6_bytesIn 14 rfl) (by decide) ?_
  exact g_fgt [1, 2, 0] rfl (h5 v1 (v2 + (-8)) m)
def bJX6_bytesIn_5 (K5 : Int32 → Int32 → hM → hR) (K28 : Int32 → hM → hR) (v0 : Int32) (v1 : Int32) (v2 : Int32) (m : hM) : hR :=
  if v2 < 0 then (K28 v1 m) else (if ((jushr v0 v2) &&& 255) = 0 then (JX6_bytesIn_22 K5 K28 v0 v1 v2 m) else (JX6_bytesIn_22 K5 K28 v0 (v1 + 1) v2 m))
set_option maxRecDepth 20000 in
theorem BbJX6_bytesIn_5 (K5 : Int32 → Int32 → hM → hR) (K28 : Int32 → hM → hR) (v0 : Int32) (h5 : ∀ (v1 : Int32) (v2 : Int32) (m : hM), G mX6_bytesIn 0 5 [(0, .inl v0), (1, .inl v1), (2, .inl v2)] [] m (K5 v1 v2 m)) (h28 : ∀ (v1 : Int32) (m : hM), G mX6_bytesIn 0 28 [(1, .inl v1)] [] m (K28 v1 m)) (v1 : Int32) (v2 : Int32) (m : hM) : G mX6_bytesIn 0 5 [(0, .inl v0), (1, .inl v1), (2, .inl v2)] [] m (bJX6_bytesIn_5 K5 K28 v0 v1 v2 m) := by
  unfold bJX6_bytesIn_5
  refine g_iload_n 2 (kdX6_bytesIn 4 rfl) rfl ?_
  refine g_if_lt (tgt := 28) (kdX6_bytesIn 5 rfl) (by decide) (fun _ => ?_) (fun _ => ?_)
  · exact g_fgt [1] rfl (h28 v1 m)
  · refine g_iload_n 0 (kdX6_bytesIn 6 rfl) rfl ?_
    refine g_iload_n 2 (kdX6_bytesIn 7 rfl) rfl ?_
    refine g_iushr (kdX6_bytesIn 8 rfl) ?_
    refine g_sipush (v := 255) (kdX6_bytesIn 9 rfl) (by decide) ?_
    refine g_iand (kdX6_bytesIn 10 rfl) ?_
    refine g_if_eq (tgt := 22) (kdX6_bytesIn 11 rfl) (by decide) (fun _ => ?_) (fun _ => ?_)
    · exact g_fgt [0, 1, 2] rfl (BX6_bytesIn_22 v0 _ _ h5 h28 v1 v2 m)
    · refine g_iinc (v := v1 + 1) (L2 := [(1, .inl (v1 + 1)), (0, .inl v0), (2, .inl v2)]) 1 (kdX6_bytesIn 12 rfl) rfl rfl rfl (by decide) ?_
      exact g_fgt [1, 0, 2] rfl (BX6_bytesIn_22 v0 _ _ h5 h28 (v1 + 1) v2 m)
def JX6_bytesIn_5 (K28 : Int32 → hM → hR) (v0 : Int32) : Nat → Int32 → Int32 → hM → hR
  | 0, _, _, _ => none
  | f + 1, v1, v2, m => bJX6_bytesIn_5 (fun v1 v2 m => JX6_bytesIn_5 K28 v0 f v1 v2 m) K28 v0 v1 v2 m
theorem BJX6_bytesIn_5 (K28 : Int32 → hM → hR) (v0 : Int32) (h28 : ∀ (v1 : Int32) (m : hM), G mX6_bytesIn 0 28 [(1, .inl v1)] [] m (K28 v1 m)) : ∀ (f : Nat) (v1 : Int32) (v2 : Int32) (m : hM), G mX6_bytesIn 0 5 [(0, .inl v0), (1, .inl v1), (2, .inl v2)] [] m (JX6_bytesIn_5 K28 v0 f v1 v2 m)
  | 0, _, _, _ => g_none
  | f + 1, v1, v2, m => BbJX6_bytesIn_5  _ K28 v0 (fun v1 v2 m => BJX6_bytesIn_5  K28 v0 h28 f v1 v2 m) h28 v1 v2 m
def JX6_bytesIn (a1 : Int32) (m : hM) : hR :=
  JX6_bytesIn_5 (fun v1 m1 => some (some (.inl v1), m1)) a1 FU 0 24 m
set_option maxRecDepth 20000 in
theorem CX6_bytesIn (a1 : Int32) (m : hM) : Cn mX6_bytesIn 0 [.inl a1] m (JX6_bytesIn a1 m) := by
  refine cn_of (by decide +kernel) (by simp only [List.map, vcat, List.sum_cons, List.sum_nil]; decide) ?_
  unfold JX6_bytesIn
  show G mX6_bytesIn 0 0 [(0, .inl a1)] [] m _
  refine g_iconst (v := 0) (kdX6_bytesIn 0 rfl) (by decide) ?_
  refine g_istore_n (L2 := [(1, .inl 0), (0, .inl a1)]) (kdX6_bytesIn 1 rfl) rfl (by decide) ?_
  refine g_bipush (v := 24) (kdX6_bytesIn 2 rfl) (by decide) ?_
  refine g_istore_n (L2 := [(2, .inl 24), (1, .inl 0), (0, .inl a1)]) (kdX6_bytesIn 3 rfl) rfl (by decide) ?_
  refine g_fgt [2, 1, 0] rfl (BJX6_bytesIn_5  _ a1 ?_ FU 0 24 m)
  · intro v1 m1
    refine g_iload_n 0 (kdX6_bytesIn 15 rfl) rfl ?_
    exact g_iret rfl (kdX6_bytesIn 16 rfl)
def JX6_join (a1 : Int32) (a2 : Int32) (a3 : Int32) (a4 : Int32) (a5 : Int32) (m : hM) : hR :=
  calI (JX6_bytesIn a1 m) fun x2 m1 =>
  calI (JX6_bytesIn a2 m1) fun x4 m3 =>
  calI (JX6_bytesIn a3 m3) fun x6 m5 =>
  calI (JX6_bytesIn a4 m5) fun x8 m7 =>
  calI (JX6_bytesIn a5 m7) fun x10 m9 =>
  lt ((((x2 + x4) + x6) + x8) + x10) fun x11 =>
  if ((m9.1 1 0 4) + x11) ≤ 240 then (calV (JX6_append a1 m9) fun m12 =>
  calV (JX6_append a2 m12) fun m13 =>
  calV (JX6_append a3 m13) fun m14 =>
  calV (JX6_append a4 m14) fun m15 =>
  calV (JX6_append a5 m15) fun m16 =>
  some (some (.inl (m16.1 1 0 4)), m16)) else (some (some (.inl (-1)), m9))
set_option maxRecDepth 20000 in
theorem CX6_join (a1 : Int32) (a2 : Int32) (a3 : Int32) (a4 : Int32) (a5 : Int32) (m : hM) : Cn mX6_join 2 [.inr (.inr (1, 0)), .inl a1, .inl a2, .inl a3, .inl a4, .inl a5] m (JX6_join a1 a2 a3 a4 a5 m) := by
  refine cn_of (by decide +kernel) (by simp only [List.map, vcat, List.sum_cons, List.sum_nil]; decide) ?_
  unfold JX6_join
  show G mX6_join 2 0 [(0, .inr (.inr (1, 0))), (1, .inl a1), (2, .inl a2), (3, .inl a3), (4, .inl a4), (5, .inl a5)] [] m _
  refine g_iload_n 1 (kdX6_join 0 rfl) rfl ?_
  refine g_calI (ck_S (As := [.inl a1]) (S := []) (kdX6_join 1 rfl) iX6_bytesIn lX6_33 rfl rfl rfl (by decide) (by simp only [List.map, vcat, List.sum_cons, List.sum_nil]; decide)) (CX6_bytesIn a1 m) (fun x2 m1 => ?_)
  refine g_iload_n 2 (kdX6_join 2 rfl) rfl ?_
  refine g_calI (ck_S (As := [.inl a2]) (S := [.inl x2]) (kdX6_join 3 rfl) iX6_bytesIn lX6_33 rfl rfl rfl (by decide) (by simp only [List.map, vcat, List.sum_cons, List.sum_nil]; decide)) (CX6_bytesIn a2 m1) (fun x4 m3 => ?_)
  refine g_iadd (kdX6_join 4 rfl) ?_
  refine g_iload_n 3 (kdX6_join 5 rfl) rfl ?_
  refine g_calI (ck_S (As := [.inl a3]) (S := [.inl (x2 + x4)]) (kdX6_join 6 rfl) iX6_bytesIn lX6_33 rfl rfl rfl (by decide) (by simp only [List.map, vcat, List.sum_cons, List.sum_nil]; decide)) (CX6_bytesIn a3 m3) (fun x6 m5 => ?_)
  refine g_iadd (kdX6_join 7 rfl) ?_
  refine g_iload 4 (kdX6_join 8 rfl) rfl ?_
  refine g_calI (ck_S (As := [.inl a4]) (S := [.inl ((x2 + x4) + x6)]) (kdX6_join 9 rfl) iX6_bytesIn lX6_33 rfl rfl rfl (by decide) (by simp only [List.map, vcat, List.sum_cons, List.sum_nil]; decide)) (CX6_bytesIn a4 m5) (fun x8 m7 => ?_)
  refine g_iadd (kdX6_join 10 rfl) ?_
  refine g_iload 5 (kdX6_join 11 rfl) rfl ?_
  refine g_calI (ck_S (As := [.inl a5]) (S := [.inl (((x2 + x4) + x6) + x8)]) (kdX6_join 12 rfl) iX6_bytesIn lX6_33 rfl rfl rfl (by decide) (by simp only [List.map, vcat, List.sum_cons, List.sum_nil]; decide)) (CX6_bytesIn a5 m7) (fun x10 m9 => ?_)
  refine g_iadd (kdX6_join 13 rfl) ?_
  refine g_lt (fun x11 => ?_)
  refine g_istore (L2 := [(6, .inl x11), (0, .inr (.inr (1, 0))), (1, .inl a1), (2, .inl a2), (3, .inl a3), (4, .inl a4), (5, .inl a5)]) (kdX6_join 14 rfl) rfl (by decide) ?_
  refine g_aload_n 1 (kdX6_join 15 rfl) rfl ?_
  refine g_get (v := .inl (m9.1 1 0 4)) (kdX6_join 16 rfl) fX6_37 rfl ?_
  refine g_iload 0 (kdX6_join 17 rfl) rfl ?_
  refine g_iadd (kdX6_join 18 rfl) ?_
  refine g_sipush (v := 240) (kdX6_join 19 rfl) (by decide) ?_
  refine g_icmp_le (tgt := 43) (kdX6_join 20 rfl) (by decide) (fun _ => ?_) (fun _ => ?_)
  · refine g_aload_n 1 (kdX6_join 23 rfl) rfl ?_
    refine g_iload_n 2 (kdX6_join 24 rfl) rfl ?_
    refine g_calV (ck_V (As := [.inl a1]) (S := []) (t := 1) (o := 0) (kdX6_join 25 rfl) iX6_append lX6_41 rc_1 rfl rfl rfl (by decide) (by simp only [List.map, vcat, List.sum_cons, List.sum_nil]; decide)) (CX6_append a1 m9) (fun m12 => ?_)
    refine g_aload_n 1 (kdX6_join 26 rfl) rfl ?_
    refine g_iload_n 3 (kdX6_join 27 rfl) rfl ?_
    refine g_calV (ck_V (As := [.inl a2]) (S := []) (t := 1) (o := 0) (kdX6_join 28 rfl) iX6_append lX6_41 rc_1 rfl rfl rfl (by decide) (by simp only [List.map, vcat, List.sum_cons, List.sum_nil]; decide)) (CX6_append a2 m12) (fun m13 => ?_)
    refine g_aload_n 1 (kdX6_join 29 rfl) rfl ?_
    refine g_iload_n 4 (kdX6_join 30 rfl) rfl ?_
    refine g_calV (ck_V (As := [.inl a3]) (S := []) (t := 1) (o := 0) (kdX6_join 31 rfl) iX6_append lX6_41 rc_1 rfl rfl rfl (by decide) (by simp only [List.map, vcat, List.sum_cons, List.sum_nil]; decide)) (CX6_append a3 m13) (fun m14 => ?_)
    refine g_aload_n 1 (kdX6_join 32 rfl) rfl ?_
    refine g_iload 5 (kdX6_join 33 rfl) rfl ?_
    refine g_calV (ck_V (As := [.inl a4]) (S := []) (t := 1) (o := 0) (kdX6_join 34 rfl) iX6_append lX6_41 rc_1 rfl rfl rfl (by decide) (by simp only [List.map, vcat, List.sum_cons, List.sum_nil]; decide)) (CX6_append a4 m14) (fun m15 => ?_)
    refine g_aload_n 1 (kdX6_join 35 rfl) rfl ?_
    refine g_iload 6 (kdX6_join 36 rfl) rfl ?_
    refine g_calV (ck_V (As := [.inl a5]) (S := []) (t := 1) (o := 0) (kdX6_join 37 rfl) iX6_append lX6_41 rc_1 rfl rfl rfl (by decide) (by simp only [List.map, vcat, List.sum_cons, List.sum_nil]; decide)) (CX6_append a5 m15) (fun m16 => ?_)
    refine g_aload_n 1 (kdX6_join 38 rfl) rfl ?_
    refine g_get (v := .inl (m16.1 1 0 4)) (kdX6_join 39 rfl) fX6_37 rfl ?_
    exact g_iret rfl (kdX6_join 40 rfl)
  · refine g_iconst (v := (-1)) (kdX6_join 21 rfl) (by decide) ?_
    exact g_iret rfl (kdX6_join 22 rfl)
def JX6_cut (a1 : Int32) (m : hM) : hR :=
  calI (JX11_within a1 0 (m.1 1 0 4) m) fun x2 m1 =>
  if x2 = 0 then (jretZ 0 m1) else (stI m1 1 0 4 a1 fun m3 =>
  jretZ 1 m3)
set_option maxRecDepth 20000 in
theorem CX6_cut (a1 : Int32) (m : hM) : Cn mX6_cut 1 [.inr (.inr (1, 0)), .inl a1] m (JX6_cut a1 m) := by
  refine cn_of (by decide +kernel) (by simp only [List.map, vcat, List.sum_cons, List.sum_nil]; decide) ?_
  unfold JX6_cut
  show G mX6_cut 1 0 [(0, .inr (.inr (1, 0))), (1, .inl a1)] [] m _
  refine g_iload_n 1 (kdX6_cut 0 rfl) rfl ?_
  refine g_iconst (v := 0) (kdX6_cut 1 rfl) (by decide) ?_
  refine g_aload_n 0 (kdX6_cut 2 rfl) rfl ?_
  refine g_get (v := .inl (m.1 1 0 4)) (kdX6_cut 3 rfl) fX6_37 rfl ?_
  refine g_calI (ck_S (As := [.inl a1, .inl 0, .inl (m.1 1 0 4)]) (S := []) (kdX6_cut 4 rfl) iX11_within lX6_45 rfl rfl rfl (by decide) (by simp only [List.map, vcat, List.sum_cons, List.sum_nil]; decide)) (CX11_within a1 0 (m.1 1 0 4) m) (fun x2 m1 => ?_)
  refine g_if_ne (tgt := 14) (kdX6_cut 5 rfl) (by decide) (fun _ => ?_) (fun _ => ?_)
  · refine g_aload_n 0 (kdX6_cut 8 rfl) rfl ?_
    refine g_iload_n 1 (kdX6_cut 9 rfl) rfl ?_
    refine g_putI (kdX6_cut 10 rfl) fX6_37 rfl (fun m3 => ?_)
    refine g_iconst (v := 1) (kdX6_cut 11 rfl) (by decide) ?_
    exact g_zret rfl (kdX6_cut 12 rfl)
  · refine g_iconst (v := 0) (kdX6_cut 6 rfl) (by decide) ?_
    exact g_zret rfl (kdX6_cut 7 rfl)
def JX6_byteAt (a1 : Int32) (m : hM) : hR :=
  if a1 < 0 then (some (some (.inl (-1)), m)) else (if (m.1 1 0 4) ≤ a1 then (some (some (.inl (-1)), m)) else (if 240 ≤ a1 then (some (some (.inl (-1)), m)) else (ald m 2 0 a1 fun x1 =>
  some (some (.inl x1), m))))
set_option maxRecDepth 20000 in
theorem CX6_byteAt (a1 : Int32) (m : hM) : Cn mX6_byteAt 0 [.inr (.inr (1, 0)), .inl a1] m (JX6_byteAt a1 m) := by
  refine cn_of (by decide +kernel) (by simp only [List.map, vcat, List.sum_cons, List.sum_nil]; decide) ?_
  unfold JX6_byteAt
  show G mX6_byteAt 0 0 [(0, .inr (.inr (1, 0))), (1, .inl a1)] [] m _
  refine g_iload_n 1 (kdX6_byteAt 0 rfl) rfl ?_
  refine g_if_lt (tgt := 28) (kdX6_byteAt 1 rfl) (by decide) (fun _ => ?_) (fun _ => ?_)
  · refine g_iconst (v := (-1)) (kdX6_byteAt 14 rfl) (by decide) ?_
    exact g_iret rfl (kdX6_byteAt 15 rfl)
  · refine g_iload_n 1 (kdX6_byteAt 2 rfl) rfl ?_
    refine g_aload_n 0 (kdX6_byteAt 3 rfl) rfl ?_
    refine g_get (v := .inl (m.1 1 0 4)) (kdX6_byteAt 4 rfl) fX6_37 rfl ?_
    refine g_icmp_ge (tgt := 28) (kdX6_byteAt 5 rfl) (by decide) (fun _ => ?_) (fun _ => ?_)
    · refine g_iconst (v := (-1)) (kdX6_byteAt 14 rfl) (by decide) ?_
      exact g_iret rfl (kdX6_byteAt 15 rfl)
    · refine g_iload_n 1 (kdX6_byteAt 6 rfl) rfl ?_
      refine g_sipush (v := 240) (kdX6_byteAt 7 rfl) (by decide) ?_
      refine g_icmp_ge (tgt := 28) (kdX6_byteAt 8 rfl) (by decide) (fun _ => ?_) (fun _ => ?_)
      · refine g_iconst (v := (-1)) (kdX6_byteAt 14 rfl) (by decide) ?_
        exact g_iret rfl (kdX6_byteAt 15 rfl)
      · refine g_aload_n 0 (kdX6_byteAt 9 rfl) rfl ?_
        refine g_get (v := .inr (.inr (2, 0))) (kdX6_byteAt 10 rfl) fX6_9 rfl ?_
        refine g_iload_n 1 (kdX6_byteAt 11 rfl) rfl ?_
        refine g_iald (kdX6_byteAt 12 rfl) (fun x1 => ?_)
        refine g_goto (tgt := 29) (kdX6_byteAt 13 rfl) (by decide) ?_
        exact g_iret rfl (kdX6_byteAt 15 rfl)
def bJX6_endOfLetters_5 (K5 : Int32 → hM → hR) (K34 : Int32 → hM → hR) (v1 : Int32) (m : hM) : hR :=
  if (m.1 1 0 4) ≤ v1 then (K34 v1 m) else (calI (JX6_byteAt v1 m) fun x3 m2 =>
  calI (JX11_within x3 97 122 m2) fun x5 m4 =>
  if x5 = 0 then (K34 v1 m4) else (K5 (v1 + 1) m4))
set_option maxRecDepth 20000 in
theorem BbJX6_endOfLetters_5 (K5 : Int32 → hM → hR) (K34 : Int32 → hM → hR) (h5 : ∀ (v1 : Int32) (m : hM), G mX6_endOfLetters 1 5 [(0, .inr (.inr (1, 0))), (1, .inl v1)] [] m (K5 v1 m)) (h34 : ∀ (v1 : Int32) (m : hM), G mX6_endOfLetters 1 34 [(1, .inl v1)] [] m (K34 v1 m)) (v1 : Int32) (m : hM) : G mX6_endOfLetters 1 5 [(0, .inr (.inr (1, 0))), (1, .inl v1)] [] m (bJX6_endOfLetters_5 K5 K34 v1 m) := by
  unfold bJX6_endOfLetters_5
  refine g_iload_n 1 (kdX6_endOfLetters 3 rfl) rfl ?_
  refine g_aload_n 0 (kdX6_endOfLetters 4 rfl) rfl ?_
  refine g_get (v := .inl (m.1 1 0 4)) (kdX6_endOfLetters 5 rfl) fX6_37 rfl ?_
  refine g_icmp_ge (tgt := 34) (kdX6_endOfLetters 6 rfl) (by decide) (fun _ => ?_) (fun _ => ?_)
  · exact g_fgt [1] rfl (h34 v1 m)
  · refine g_aload_n 0 (kdX6_endOfLetters 7 rfl) rfl ?_
    refine g_iload_n 1 (kdX6_endOfLetters 8 rfl) rfl ?_
    refine g_calI (ck_V (As := [.inl v1]) (S := []) (t := 1) (o := 0) (kdX6_endOfLetters 9 rfl) iX6_byteAt lX6_147 rc_1 rfl rfl rfl (by decide) (by simp only [List.map, vcat, List.sum_cons, List.sum_nil]; decide)) (CX6_byteAt v1 m) (fun x3 m2 => ?_)
    refine g_bipush (v := 97) (kdX6_endOfLetters 10 rfl) (by decide) ?_
    refine g_bipush (v := 122) (kdX6_endOfLetters 11 rfl) (by decide) ?_
    refine g_calI (ck_S (As := [.inl x3, .inl 97, .inl 122]) (S := []) (kdX6_endOfLetters 12 rfl) iX11_within lX6_45 rfl rfl rfl (by decide) (by simp only [List.map, vcat, List.sum_cons, List.sum_nil]; decide)) (CX11_within x3 97 122 m2) (fun x5 m4 => ?_)
    refine g_if_eq (tgt := 34) (kdX6_endOfLetters 13 rfl) (by decide) (fun _ => ?_) (fun _ => ?_)
    · exact g_fgt [1] rfl (h34 v1 m4)
    · refine g_iinc (v := v1 + 1) (L2 := [(1, .inl (v1 + 1)), (0, .inr (.inr (1, 0)))]) 1 (kdX6_endOfLetters 14 rfl) rfl rfl rfl (by decide) ?_
      refine g_goto (tgt := 5) (kdX6_endOfLetters 15 rfl) (by decide) ?_
      exact g_fgt [1, 0] rfl (h5 (v1 + 1) m4)
def JX6_endOfLetters_5 (K34 : Int32 → hM → hR) : Nat → Int32 → hM → hR
  | 0, _, _ => none
  | f + 1, v1, m => bJX6_endOfLetters_5 (fun v1 m => JX6_endOfLetters_5 K34  f v1 m) K34  v1 m
theorem BJX6_endOfLetters_5 (K34 : Int32 → hM → hR) (h34 : ∀ (v1 : Int32) (m : hM), G mX6_endOfLetters 1 34 [(1, .inl v1)] [] m (K34 v1 m)) : ∀ (f : Nat) (v1 : Int32) (m : hM), G mX6_endOfLetters 1 5 [(0, .inr (.inr (1, 0))), (1, .inl v1)] [] m (JX6_endOfLetters_5 K34  f v1 m)
  | 0, _, _ => g_none
  | f + 1, v1, m => BbJX6_endOfLetters_5  _ K34  (fun v1 m => BJX6_endOfLetters_5  K34  h34 f v1 m) h34 v1 m
def JX6_endOfLetters  (m : hM) : hR :=
  lt (m.1 1 0 5) fun x1 =>
  JX6_endOfLetters_5 (fun v1 m6 => some (some (.inl v1), m6))  FU x1 m
set_option maxRecDepth 20000 in
theorem CX6_endOfLetters  (m : hM) : Cn mX6_endOfLetters 1 [.inr (.inr (1, 0))] m (JX6_endOfLetters  m) := by
  refine cn_of (by decide +kernel) (by simp only [List.map, vcat, List.sum_cons, List.sum_nil]; decide) ?_
  unfold JX6_endOfLetters
  show G mX6_endOfLetters 1 0 [(0, .inr (.inr (1, 0)))] [] m _
  refine g_aload_n 0 (kdX6_endOfLetters 0 rfl) rfl ?_
  refine g_get (v := .inl (m.1 1 0 5)) (kdX6_endOfLetters 1 rfl) fX6_49 rfl ?_
  refine g_lt (fun x1 => ?_)
  refine g_istore_n (L2 := [(1, .inl x1), (0, .inr (.inr (1, 0)))]) (kdX6_endOfLetters 2 rfl) rfl (by decide) ?_
  refine g_fgt [1, 0] rfl (BJX6_endOfLetters_5  _  ?_ FU x1 m)
  · intro v1 m6
    refine g_iload_n 0 (kdX6_endOfLetters 16 rfl) rfl ?_
    exact g_iret rfl (kdX6_endOfLetters 17 rfl)
def bJX6_stands_C_17 (K17 : Int32 → hM → hR) (K43 : hM → hR) (K51 : hM → hR) (w1 : Nat) (v3 : Int32) (m : hM) : hR :=
  calI (JJ0_length_8abf5_C w1 m) fun x4 m3 =>
  if x4 ≤ v3 then (K51 m3) else (calI (JX6_byteAt ((m3.1 1 0 5) + v3) m3) fun x6 m5 =>
  calI (JJ0_charAt_5068e_C w1 v3 m5) fun x8 m7 =>
  if x6 = x8 then (K17 (v3 + 1) m7) else (K43 m7))
set_option maxRecDepth 20000 in
theorem BbJX6_stands_C_17 (K17 : Int32 → hM → hR) (K43 : hM → hR) (K51 : hM → hR) (w1 : Nat) (h17 : ∀ (v3 : Int32) (m : hM), G mX6_stands 4 17 [(0, .inr (.inr (1, 0))), (1, .inr (.inr (102, w1))), (3, .inl v3)] [] m (K17 v3 m)) (h43 : ∀ (m : hM), G mX6_stands 4 43 [] [] m (K43 m)) (h51 : ∀ (m : hM), G mX6_stands 4 51 [] [] m (K51 m)) (v3 : Int32) (m : hM) : G mX6_stands 4 17 [(0, .inr (.inr (1, 0))), (1, .inr (.inr (102, w1))), (3, .inl v3)] [] m (bJX6_stands_C_17 K17 K43 K51 w1 v3 m) := by
  unfold bJX6_stands_C_17
  refine g_iload_n 2 (kdX6_stands 11 rfl) rfl ?_
  refine g_aload_n 1 (kdX6_stands 12 rfl) rfl ?_
  refine g_calI (ck_V (As := []) (S := [.inl v3]) (t := 102) (o := w1) (kdX6_stands 13 rfl) iJ0_length_8abf5 lX6_96 rc_102 rfl rfl rfl (by decide) (by simp only [List.map, vcat, List.sum_cons, List.sum_nil]; decide)) (CJ0_length_8abf5_C w1 m) (fun x4 m3 => ?_)
  refine g_icmp_ge (tgt := 51) (kdX6_stands 14 rfl) (by decide) (fun _ => ?_) (fun _ => ?_)
  · exact g_fgt [] rfl (h51 m3)
  · refine g_aload_n 0 (kdX6_stands 15 rfl) rfl ?_
    refine g_aload_n 0 (kdX6_stands 16 rfl) rfl ?_
    refine g_get (v := .inl (m3.1 1 0 5)) (kdX6_stands 17 rfl) fX6_49 rfl ?_
    refine g_iload_n 2 (kdX6_stands 18 rfl) rfl ?_
    refine g_iadd (kdX6_stands 19 rfl) ?_
    refine g_calI (ck_V (As := [.inl ((m3.1 1 0 5) + v3)]) (S := []) (t := 1) (o := 0) (kdX6_stands 20 rfl) iX6_byteAt lX6_147 rc_1 rfl rfl rfl (by decide) (by simp only [List.map, vcat, List.sum_cons, List.sum_nil]; decide)) (CX6_byteAt ((m3.1 1 0 5) + v3) m3) (fun x6 m5 => ?_)
    refine g_aload_n 1 (kdX6_stands 21 rfl) rfl ?_
    refine g_iload_n 2 (kdX6_stands 22 rfl) rfl ?_
    refine g_calI (ck_V (As := [.inl v3]) (S := [.inl x6]) (t := 102) (o := w1) (kdX6_stands 23 rfl) iJ0_charAt_5068e lX6_167 rc_102 rfl rfl rfl (by decide) (by simp only [List.map, vcat, List.sum_cons, List.sum_nil]; decide)) (CJ0_charAt_5068e_C w1 v3 m5) (fun x8 m7 => ?_)
    refine g_icmp_eq (tgt := 45) (kdX6_stands 24 rfl) (by decide) (fun _ => ?_) (fun _ => ?_)
    · refine g_iinc (v := v3 + 1) (L2 := [(3, .inl (v3 + 1)), (0, .inr (.inr (1, 0))), (1, .inr (.inr (102, w1)))]) 2 (kdX6_stands 27 rfl) rfl rfl rfl (by decide) ?_
      refine g_goto (tgt := 17) (kdX6_stands 28 rfl) (by decide) ?_
      exact g_fgt [1, 2, 0] rfl (h17 (v3 + 1) m7)
    · exact g_fgt [] rfl (h43 m7)
def JX6_stands_C_17 (K43 : hM → hR) (K51 : hM → hR) (w1 : Nat) : Nat → Int32 → hM → hR
  | 0, _, _ => none
  | f + 1, v3, m => bJX6_stands_C_17 (fun v3 m => JX6_stands_C_17 K43 K51 w1 f v3 m) K43 K51 w1 v3 m
theorem BJX6_stands_C_17 (K43 : hM → hR) (K51 : hM → hR) (w1 : Nat) (h43 : ∀ (m : hM), G mX6_stands 4 43 [] [] m (K43 m)) (h51 : ∀ (m : hM), G mX6_stands 4 51 [] [] m (K51 m)) : ∀ (f : Nat) (v3 : Int32) (m : hM), G mX6_stands 4 17 [(0, .inr (.inr (1, 0))), (1, .inr (.inr (102, w1))), (3, .inl v3)] [] m (JX6_stands_C_17 K43 K51 w1 f v3 m)
  | 0, _, _ => g_none
  | f + 1, v3, m => BbJX6_stands_C_17  _ K43 K51 w1 (fun v3 m => BJX6_stands_C_17  K43 K51 w1 h43 h51 f v3 m) h43 h51 v3 m
def JX6_stands_C (n1 : Nat) (a2 : Int32) (m : hM) : hR :=
  calI (JJ0_length_8abf5_C n1 m) fun x2 m1 =>
  if (a2 - (m.1 1 0 5)) = x2 then (JX6_stands_C_17 (fun m9 => jretZ 0 m9) (fun m10 => jretZ 1 m10) n1 FU 0 m1) else (jretZ 0 m1)
set_option maxRecDepth 20000 in
theorem CX6_stands_C (n1 : Nat) (a2 : Int32) (m : hM) : Cn mX6_stands 4 [.inr (.inr (1, 0)), .inr (.inr (102, n1)), .inl a2] m (JX6_stands_C n1 a2 m) := by
  refine cn_of (by decide +kernel) (by simp only [List.map, vcat, List.sum_cons, List.sum_nil]; decide) ?_
  unfold JX6_stands_C
  show G mX6_stands 4 0 [(0, .inr (.inr (1, 0))), (1, .inr (.inr (102, n1))), (2, .inl a2)] [] m _
  refine g_iload_n 2 (kdX6_stands 0 rfl) rfl ?_
  refine g_aload_n 0 (kdX6_stands 1 rfl) rfl ?_
  refine g_get (v := .inl (m.1 1 0 5)) (kdX6_stands 2 rfl) fX6_49 rfl ?_
  refine g_isub (kdX6_stands 3 rfl) ?_
  refine g_aload_n 1 (kdX6_stands 4 rfl) rfl ?_
  refine g_calI (ck_V (As := []) (S := [.inl (a2 - (m.1 1 0 5))]) (t := 102) (o := n1) (kdX6_stands 5 rfl) iJ0_length_8abf5 lX6_96 rc_102 rfl rfl rfl (by decide) (by simp only [List.map, vcat, List.sum_cons, List.sum_nil]; decide)) (CJ0_length_8abf5_C n1 m) (fun x2 m1 => ?_)
  refine g_icmp_eq (tgt := 15) (kdX6_stands 6 rfl) (by decide) (fun _ => ?_) (fun _ => ?_)
  · refine g_iconst (v := 0) (kdX6_stands 9 rfl) (by decide) ?_
    refine g_istore_n (L2 := [(3, .inl 0), (0, .inr (.inr (1, 0))), (1, .inr (.inr (102, n1))), (2, .inl a2)]) (kdX6_stands 10 rfl) rfl (by decide) ?_
    refine g_fgt [1, 2, 0] rfl (BJX6_stands_C_17  _ _ n1 ?_ ?_ FU 0 m1)
    · intro m9
      refine g_iconst (v := 0) (kdX6_stands 25 rfl) (by decide) ?_
      exact g_zret rfl (kdX6_stands 26 rfl)
    · intro m10
      refine g_iconst (v := 1) (kdX6_stands 29 rfl) (by decide) ?_
      exact g_zret rfl (kdX6_stands 30 rfl)
  · refine g_iconst (v := 0) (kdX6_stands 7 rfl) (by decide) ?_
    exact g_zret rfl (kdX6_stands 8 rfl)
def bJX6_stands_S_17 (K17 : Int32 → hM → hR) (K43 : hM → hR) (K51 : hM → hR) (w1 : Nat) (v3 : Int32) (m : hM) : hR :=
  calI (JJ0_length_8abf5_S w1 m) fun x4 m3 =>
  if x4 ≤ v3 then (K51 m3) else (calI (JX6_byteAt ((m3.1 1 0 5) + v3) m3) fun x6 m5 =>
  calI (JJ0_charAt_5068e_S w1 v3 m5) fun x8 m7 =>
  if x6 = x8 then (K17 (v3 + 1) m7) else (K43 m7))
set_option maxRecDepth 20000 in
theorem BbJX6_stands_S_17 (K17 : Int32 → hM → hR) (K43 : hM → hR) (K51 : hM → hR) (w1 : Nat) (h17 : ∀ (v3 : Int32) (m : hM), G mX6_stands 4 17 [(0, .inr (.inr (1, 0))), (1, .inr (.inr (105, w1))), (3, .inl v3)] [] m (K17 v3 m)) (h43 : ∀ (m : hM), G mX6_stands 4 43 [] [] m (K43 m)) (h51 : ∀ (m : hM), G mX6_stands 4 51 [] [] m (K51 m)) (v3 : Int32) (m : hM) : G mX6_stands 4 17 [(0, .inr (.inr (1, 0))), (1, .inr (.inr (105, w1))), (3, .inl v3)] [] m (bJX6_stands_S_17 K17 K43 K51 w1 v3 m) := by
  unfold bJX6_stands_S_17
  refine g_iload_n 2 (kdX6_stands 11 rfl) rfl ?_
  refine g_aload_n 1 (kdX6_stands 12 rfl) rfl ?_
  refine g_calI (ck_V (As := []) (S := [.inl v3]) (t := 105) (o := w1) (kdX6_stands 13 rfl) iJ0_length_8abf5 lX6_96 rc_105 rfl rfl rfl (by decide) (by simp only [List.map, vcat, List.sum_cons, List.sum_nil]; decide)) (CJ0_length_8abf5_S w1 m) (fun x4 m3 => ?_)
  refine g_icmp_ge (tgt := 51) (kdX6_stands 14 rfl) (by decide) (fun _ => ?_) (fun _ => ?_)
  · exact g_fgt [] rfl (h51 m3)
  · refine g_aload_n 0 (kdX6_stands 15 rfl) rfl ?_
    refine g_aload_n 0 (kdX6_stands 16 rfl) rfl ?_
    refine g_get (v := .inl (m3.1 1 0 5)) (kdX6_stands 17 rfl) fX6_49 rfl ?_
    refine g_iload_n 2 (kdX6_stands 18 rfl) rfl ?_
    refine g_iadd (kdX6_stands 19 rfl) ?_
    refine g_calI (ck_V (As := [.inl ((m3.1 1 0 5) + v3)]) (S := []) (t := 1) (o := 0) (kdX6_stands 20 rfl) iX6_byteAt lX6_147 rc_1 rfl rfl rfl (by decide) (by simp only [List.map, vcat, List.sum_cons, List.sum_nil]; decide)) (CX6_byteAt ((m3.1 1 0 5) + v3) m3) (fun x6 m5 => ?_)
    refine g_aload_n 1 (kdX6_stands 21 rfl) rfl ?_
    refine g_iload_n 2 (kdX6_stands 22 rfl) rfl ?_
    refine g_calI (ck_V (As := [.inl v3]) (S := [.inl x6]) (t := 105) (o := w1) (kdX6_stands 23 rfl) iJ0_charAt_5068e lX6_167 rc_105 rfl rfl rfl (by decide) (by simp only [List.map, vcat, List.sum_cons, List.sum_nil]; decide)) (CJ0_charAt_5068e_S w1 v3 m5) (fun x8 m7 => ?_)
    refine g_icmp_eq (tgt := 45) (kdX6_stands 24 rfl) (by decide) (fun _ => ?_) (fun _ => ?_)
    · refine g_iinc (v := v3 + 1) (L2 := [(3, .inl (v3 + 1)), (0, .inr (.inr (1, 0))), (1, .inr (.inr (105, w1)))]) 2 (kdX6_stands 27 rfl) rfl rfl rfl (by decide) ?_
      refine g_goto (tgt := 17) (kdX6_stands 28 rfl) (by decide) ?_
      exact g_fgt [1, 2, 0] rfl (h17 (v3 + 1) m7)
    · exact g_fgt [] rfl (h43 m7)
def JX6_stands_S_17 (K43 : hM → hR) (K51 : hM → hR) (w1 : Nat) : Nat → Int32 → hM → hR
  | 0, _, _ => none
  | f + 1, v3, m => bJX6_stands_S_17 (fun v3 m => JX6_stands_S_17 K43 K51 w1 f v3 m) K43 K51 w1 v3 m
theorem BJX6_stands_S_17 (K43 : hM → hR) (K51 : hM → hR) (w1 : Nat) (h43 : ∀ (m : hM), G mX6_stands 4 43 [] [] m (K43 m)) (h51 : ∀ (m : hM), G mX6_stands 4 51 [] [] m (K51 m)) : ∀ (f : Nat) (v3 : Int32) (m : hM), G mX6_stands 4 17 [(0, .inr (.inr (1, 0))), (1, .inr (.inr (105, w1))), (3, .inl v3)] [] m (JX6_stands_S_17 K43 K51 w1 f v3 m)
  | 0, _, _ => g_none
  | f + 1, v3, m => BbJX6_stands_S_17  _ K43 K51 w1 (fun v3 m => BJX6_stands_S_17  K43 K51 w1 h43 h51 f v3 m) h43 h51 v3 m
def JX6_stands_S (n1 : Nat) (a2 : Int32) (m : hM) : hR :=
  calI (JJ0_length_8abf5_S n1 m) fun x2 m1 =>
  if (a2 - (m.1 1 0 5)) = x2 then (JX6_stands_S_17 (fun m9 => jretZ 0 m9) (fun m10 => jretZ 1 m10) n1 FU 0 m1) else (jretZ 0 m1)
set_option maxRecDepth 20000 in
theorem CX6_stands_S (n1 : Nat) (a2 : Int32) (m : hM) : Cn mX6_stands 4 [.inr (.inr (1, 0)), .inr (.inr (105, n1)), .inl a2] m (JX6_stands_S n1 a2 m) := by
  refine cn_of (by decide +kernel) (by simp only [List.map, vcat, List.sum_cons, List.sum_nil]; decide) ?_
  unfold JX6_stands_S
  show G mX6_stands 4 0 [(0, .inr (.inr (1, 0))), (1, .inr (.inr (105, n1))), (2, .inl a2)] [] m _
  refine g_iload_n 2 (kdX6_stands 0 rfl) rfl ?_
  refine g_aload_n 0 (kdX6_stands 1 rfl) rfl ?_
  refine g_get (v := .inl (m.1 1 0 5)) (kdX6_stands 2 rfl) fX6_49 rfl ?_
  refine g_isub (kdX6_stands 3 rfl) ?_
  refine g_aload_n 1 (kdX6_stands 4 rfl) rfl ?_
  refine g_calI (ck_V (As := []) (S := [.inl (a2 - (m.1 1 0 5))]) (t := 105) (o := n1) (kdX6_stands 5 rfl) iJ0_length_8abf5 lX6_96 rc_105 rfl rfl rfl (by decide) (by simp only [List.map, vcat, List.sum_cons, List.sum_nil]; decide)) (CJ0_length_8abf5_S n1 m) (fun x2 m1 => ?_)
  refine g_icmp_eq (tgt := 15) (kdX6_stands 6 rfl) (by decide) (fun _ => ?_) (fun _ => ?_)
  · refine g_iconst (v := 0) (kdX6_stands 9 rfl) (by decide) ?_
    refine g_istore_n (L2 := [(3, .inl 0), (0, .inr (.inr (1, 0))), (1, .inr (.inr (105, n1))), (2, .inl a2)]) (kdX6_stands 10 rfl) rfl (by decide) ?_
    refine g_fgt [1, 2, 0] rfl (BJX6_stands_S_17  _ _ n1 ?_ ?_ FU 0 m1)
    · intro m9
      refine g_iconst (v := 0) (kdX6_stands 25 rfl) (by decide) ?_
      exact g_zret rfl (kdX6_stands 26 rfl)
    · intro m10
      refine g_iconst (v := 1) (kdX6_stands 29 rfl) (by decide) ?_
      exact g_zret rfl (kdX6_stands 30 rfl)
  · refine g_iconst (v := 0) (kdX6_stands 7 rfl) (by decide) ?_
    exact g_zret rfl (kdX6_stands 8 rfl)
def bJX6_clauseHere_7 (K7 : Int32 → hM → hR) (K31 : Int32 → hM → hR) (K39 : hM → hR) (v1 : Int32) (v2 : Int32) (m : hM) : hR :=
  if 13 ≤ v2 then (K39 m) else (eal 13 v2 fun j3 =>
  calI (JX6_stands_C j3 v1 m) fun x5 m4 =>
  if x5 = 0 then (K7 (v2 + 1) m4) else (K31 v2 m4))
set_option maxRecDepth 20000 in
theorem BbJX6_clauseHere_7 (K7 : Int32 → hM → hR) (K31 : Int32 → hM → hR) (K39 : hM → hR) (v1 : Int32) (h7 : ∀ (v2 : Int32) (m : hM), G mX6_clauseHere 5 7 [(0, .inr (.inr (1, 0))), (1, .inl v1), (2, .inl v2)] [] m (K7 v2 m)) (h31 : ∀ (v2 : Int32) (m : hM), G mX6_clauseHere 5 31 [(2, .inl v2)] [] m (K31 v2 m)) (h39 : ∀ (m : hM), G mX6_clauseHere 5 39 [] [] m (K39 m)) (v2 : Int32) (m : hM) : G mX6_clauseHere 5 7 [(0, .inr (.inr (1, 0))), (1, .inl v1), (2, .inl v2)] [] m (bJX6_clauseHere_7 K7 K31 K39 v1 v2 m) := by
  unfold bJX6_clauseHere_7
  refine g_iload_n 2 (kdX6_clauseHere 5 rfl) rfl ?_
  refine g_gsC (kdX6_clauseHere 6 rfl) sX6_82 ?_
  refine g_elenC (kdX6_clauseHere 7 rfl) ?_
  refine g_icmp_ge (tgt := 39) (kdX6_clauseHere 8 rfl) (by decide) (fun _ => ?_) (fun _ => ?_)
  · exact g_fgt [] rfl (h39 m)
  · refine g_aload_n 0 (kdX6_clauseHere 9 rfl) rfl ?_
    refine g_gsC (kdX6_clauseHere 10 rfl) sX6_82 ?_
    refine g_iload_n 2 (kdX6_clauseHere 11 rfl) rfl ?_
    refine g_ealdC (kdX6_clauseHere 12 rfl) (fun j3 => ?_)
    refine g_gwC (kdX6_clauseHere 13 rfl) sX6_92 ?_
    refine g_iload_n 1 (kdX6_clauseHere 14 rfl) rfl ?_
    refine g_calI (ck_V (As := [.inr (.inr (102, j3)), .inl v1]) (S := []) (t := 1) (o := 0) (kdX6_clauseHere 15 rfl) iX6_stands lX6_163 rc_1 rfl rfl rfl (by decide) (by simp only [List.map, vcat, List.sum_cons, List.sum_nil]; decide)) (CX6_stands_C j3 v1 m) (fun x5 m4 => ?_)
    refine g_if_eq (tgt := 33) (kdX6_clauseHere 16 rfl) (by decide) (fun _ => ?_) (fun _ => ?_)
    · refine g_iinc (v := v2 + 1) (L2 := [(2, .inl (v2 + 1)), (0, .inr (.inr (1, 0))), (1, .inl v1)]) 2 (kdX6_clauseHere 19 rfl) rfl rfl rfl (by decide) ?_
      refine g_goto (tgt := 7) (kdX6_clauseHere 20 rfl) (by decide) ?_
      exact g_fgt [1, 2, 0] rfl (h7 (v2 + 1) m4)
    · exact g_fgt [2] rfl (h31 v2 m4)
def JX6_clauseHere_7 (K31 : Int32 → hM → hR) (K39 : hM → hR) (v1 : Int32) : Nat → Int32 → hM → hR
  | 0, _, _ => none
  | f + 1, v2, m => bJX6_clauseHere_7 (fun v2 m => JX6_clauseHere_7 K31 K39 v1 f v2 m) K31 K39 v1 v2 m
theorem BJX6_clauseHere_7 (K31 : Int32 → hM → hR) (K39 : hM → hR) (v1 : Int32) (h31 : ∀ (v2 : Int32) (m : hM), G mX6_clauseHere 5 31 [(2, .inl v2)] [] m (K31 v2 m)) (h39 : ∀ (m : hM), G mX6_clauseHere 5 39 [] [] m (K39 m)) : ∀ (f : Nat) (v2 : Int32) (m : hM), G mX6_clauseHere 5 7 [(0, .inr (.inr (1, 0))), (1, .inl v1), (2, .inl v2)] [] m (JX6_clauseHere_7 K31 K39 v1 f v2 m)
  | 0, _, _ => g_none
  | f + 1, v2, m => BbJX6_clauseHere_7  _ K31 K39 v1 (fun v2 m => BJX6_clauseHere_7  K31 K39 v1 h31 h39 f v2 m) h31 h39 v2 m
def JX6_clauseHere  (m : hM) : hR :=
  calI (JX6_endOfLetters m) fun x2 m1 =>
  JX6_clauseHere_7 (fun v2 m6 => some (some (.inl v2), m6)) (fun m7 => some (some (.inl (-1)), m7)) x2 FU 0 m1
set_option maxRecDepth 20000 in
theorem CX6_clauseHere  (m : hM) : Cn mX6_clauseHere 5 [.inr (.inr (1, 0))] m (JX6_clauseHere  m) := by
  refine cn_of (by decide +kernel) (by simp only [List.map, vcat, List.sum_cons, List.sum_nil]; decide) ?_
  unfold JX6_clauseHere
  show G mX6_clauseHere 5 0 [(0, .inr (.inr (1, 0)))] [] m _
  refine g_aload_n 0 (kdX6_clauseHere 0 rfl) rfl ?_
  refine g_calI (ck_V (As := []) (S := []) (t := 1) (o := 0) (kdX6_clauseHere 1 rfl) iX6_endOfLetters lX6_160 rc_1 rfl rfl rfl (by decide) (by simp only [List.map, vcat, List.sum_cons, List.sum_nil]; decide)) (CX6_endOfLetters m) (fun x2 m1 => ?_)
  refine g_istore_n (L2 := [(1, .inl x2), (0, .inr (.inr (1, 0)))]) (kdX6_clauseHere 2 rfl) rfl (by decide) ?_
  refine g_iconst (v := 0) (kdX6_clauseHere 3 rfl) (by decide) ?_
  refine g_istore_n (L2 := [(2, .inl 0), (1, .inl x2), (0, .inr (.inr (1, 0)))]) (kdX6_clauseHere 4 rfl) rfl (by decide) ?_
  refine g_fgt [2, 1, 0] rfl (BJX6_clauseHere_7  _ _ x2 ?_ ?_ FU 0 m1)
  · intro v2 m6
    refine g_iload_n 0 (kdX6_clauseHere 17 rfl) rfl ?_
    exact g_iret rfl (kdX6_clauseHere 18 rfl)
  · intro m7
    refine g_iconst (v := (-1)) (kdX6_clauseHere 21 rfl) (by decide) ?_
    exact g_iret rfl (kdX6_clauseHere 22 rfl)
def bJX6_skipBlanks_0 (K0 : hM → hR) (K37 : hM → hR) (m : hM) : hR :=
  if (m.1 1 0 4) ≤ (m.1 1 0 5) then (K37 m) else (calI (JX6_byteAt (m.1 1 0 5) m) fun x2 m1 =>
  if x2 = 32 then (stI m1 1 0 5 ((m1.1 1 0 5) + 1) fun m3 =>
  K0 m3) else (K37 m1))
set_option maxRecDepth 20000 in
theorem BbJX6_skipBlanks_0 (K0 : hM → hR) (K37 : hM → hR) (h0 : ∀ (m : hM), G mX6_skipBlanks 1 0 [(0, .inr (.inr (1, 0)))] [] m (K0 m)) (h37 : ∀ (m : hM), G mX6_skipBlanks 1 37 [] [] m (K37 m)) (m : hM) : G mX6_skipBlanks 1 0 [(0, .inr (.inr (1, 0)))] [] m (bJX6_skipBlanks_0 K0 K37 m) := by
  unfold bJX6_skipBlanks_0
  refine g_aload_n 0 (kdX6_skipBlanks 0 rfl) rfl ?_
  refine g_get (v := .inl (m.1 1 0 5)) (kdX6_skipBlanks 1 rfl) fX6_49 rfl ?_
  refine g_aload_n 0 (kdX6_skipBlanks 2 rfl) rfl ?_
  refine g_get (v := .inl (m.1 1 0 4)) (kdX6_skipBlanks 3 rfl) fX6_37 rfl ?_
  refine g_icmp_ge (tgt := 37) (kdX6_skipBlanks 4 rfl) (by decide) (fun _ => ?_) (fun _ => ?_)
  · exact g_fgt [] rfl (h37 m)
  · refine g_aload_n 0 (kdX6_skipBlanks 5 rfl) rfl ?_
    refine g_aload_n 0 (kdX6_skipBlanks 6 rfl) rfl ?_
    refine g_get (v := .inl (m.1 1 0 5)) (kdX6_skipBlanks 7 rfl) fX6_49 rfl ?_
    refine g_calI (ck_V (As := [.inl (m.1 1 0 5)]) (S := []) (t := 1) (o := 0) (kdX6_skipBlanks 8 rfl) iX6_byteAt lX6_147 rc_1 rfl rfl rfl (by decide) (by simp only [List.map, vcat, List.sum_cons, List.sum_nil]; decide)) (CX6_byteAt (m.1 1 0 5) m) (fun x2 m1 => ?_)
    refine g_bipush (v := 32) (kdX6_skipBlanks 9 rfl) (by decide) ?_
    refine g_icmp_ne (tgt := 37) (kdX6_skipBlanks 10 rfl) (by decide) (fun _ => ?_) (fun _ => ?_)
    · exact g_fgt [] rfl (h37 m1)
    · refine g_aload_n 0 (kdX6_skipBlanks 11 rfl) rfl ?_
      refine g_dup (kdX6_skipBlanks 12 rfl) rfl ?_
      refine g_get (v := .inl (m1.1 1 0 5)) (kdX6_skipBlanks 13 rfl) fX6_49 rfl ?_
      refine g_iconst (v := 1) (kdX6_skipBlanks 14 rfl) (by decide) ?_
      refine g_iadd (kdX6_skipBlanks 15 rfl) ?_
      refine g_putI (kdX6_skipBlanks 16 rfl) fX6_49 rfl (fun m3 => ?_)
      refine g_goto (tgt := 0) (kdX6_skipBlanks 17 rfl) (by decide) ?_
      exact g_fgt [0] rfl (h0 m3)
def JX6_skipBlanks_0 (K37 : hM → hR) : Nat → hM → hR
  | 0, _ => none
  | f + 1, m => bJX6_skipBlanks_0 (fun m => JX6_skipBlanks_0 K37  f m) K37   m
theorem BJX6_skipBlanks_0 (K37 : hM → hR) (h37 : ∀ (m : hM), G mX6_skipBlanks 1 37 [] [] m (K37 m)) : ∀ (f : Nat) (m : hM), G mX6_skipBlanks 1 0 [(0, .inr (.inr (1, 0)))] [] m (JX6_skipBlanks_0 K37  f  m)
  | 0, _ => g_none
  | f + 1, m => BbJX6_skipBlanks_0  _ K37  (fun  m => BJX6_skipBlanks_0  K37  h37 f  m) h37  m
def JX6_skipBlanks  (m : hM) : hR :=
  JX6_skipBlanks_0 (fun m4 => some (none, m4))  FU  m
set_option maxRecDepth 20000 in
theorem CX6_skipBlanks  (m : hM) : Cn mX6_skipBlanks 1 [.inr (.inr (1, 0))] m (JX6_skipBlanks  m) := by
  refine cn_of (by decide +kernel) (by simp only [List.map, vcat, List.sum_cons, List.sum_nil]; decide) ?_
  unfold JX6_skipBlanks
  show G mX6_skipBlanks 1 0 [(0, .inr (.inr (1, 0)))] [] m _
  refine g_fgt [0] rfl (BJX6_skipBlanks_0  _  ?_ FU  m)
  · intro m4
    exact g_vret rfl (kdX6_skipBlanks 18 rfl)
def JX6_passByte (a1 : Int32) (m : hM) : hR :=
  calV (JX6_skipBlanks m) fun m1 =>
  calI (JX6_byteAt (m1.1 1 0 5) m1) fun x3 m2 =>
  if x3 = a1 then (stI m2 1 0 5 ((m2.1 1 0 5) + 1) fun m4 =>
  jretZ 1 m4) else (jretZ 0 m2)
set_option maxRecDepth 20000 in
theorem CX6_passByte (a1 : Int32) (m : hM) : Cn mX6_passByte 2 [.inr (.inr (1, 0)), .inl a1] m (JX6_passByte a1 m) := by
  refine cn_of (by decide +kernel) (by simp only [List.map, vcat, List.sum_cons, List.sum_nil]; decide) ?_
  unfold JX6_passByte
  show G mX6_passByte 2 0 [(0, .inr (.inr (1, 0))), (1, .inl a1)] [] m _
  refine g_aload_n 0 (kdX6_passByte 0 rfl) rfl ?_
  refine g_calV (ck_V (As := []) (S := []) (t := 1) (o := 0) (kdX6_passByte 1 rfl) iX6_skipBlanks lX6_76 rc_1 rfl rfl rfl (by decide) (by simp only [List.map, vcat, List.sum_cons, List.sum_nil]; decide)) (CX6_skipBlanks m) (fun m1 => ?_)
  refine g_aload_n 0 (kdX6_passByte 2 rfl) rfl ?_
  refine g_aload_n 0 (kdX6_passByte 3 rfl) rfl ?_
  refine g_get (v := .inl (m1.1 1 0 5)) (kdX6_passByte 4 rfl) fX6_49 rfl ?_
  refine g_calI (ck_V (As := [.inl (m1.1 1 0 5)]) (S := []) (t := 1) (o := 0) (kdX6_passByte 5 rfl) iX6_byteAt lX6_147 rc_1 rfl rfl rfl (by decide) (by simp only [List.map, vcat, List.sum_cons, List.sum_nil]; decide)) (CX6_byteAt (m1.1 1 0 5) m1) (fun x3 m2 => ?_)
  refine g_iload_n 1 (kdX6_passByte 6 rfl) rfl ?_
  refine g_icmp_eq (tgt := 18) (kdX6_passByte 7 rfl) (by decide) (fun _ => ?_) (fun _ => ?_)
  · refine g_aload_n 0 (kdX6_passByte 10 rfl) rfl ?_
    refine g_dup (kdX6_passByte 11 rfl) rfl ?_
    refine g_get (v := .inl (m2.1 1 0 5)) (kdX6_passByte 12 rfl) fX6_49 rfl ?_
    refine g_iconst (v := 1) (kdX6_passByte 13 rfl) (by decide) ?_
    refine g_iadd (kdX6_passByte 14 rfl) ?_
    refine g_putI (kdX6_passByte 15 rfl) fX6_49 rfl (fun m4 => ?_)
    refine g_iconst (v := 1) (kdX6_passByte 16 rfl) (by decide) ?_
    exact g_zret rfl (kdX6_passByte 17 rfl)
  · refine g_iconst (v := 0) (kdX6_passByte 8 rfl) (by decide) ?_
    exact g_zret rfl (kdX6_passByte 9 rfl)
def JX6_refuseAt (a1 : Int32) (m : hM) : hR :=
  stI m 1 0 6 a1 fun m1 =>
  jretZ 0 m1
set_option maxRecDepth 20000 in
theorem CX6_refuseAt (a1 : Int32) (m : hM) : Cn mX6_refuseAt 0 [.inr (.inr (1, 0)), .inl a1] m (JX6_refuseAt a1 m) := by
  refine cn_of (by decide +kernel) (by simp only [List.map, vcat, List.sum_cons, List.sum_nil]; decide) ?_
  unfold JX6_refuseAt
  show G mX6_refuseAt 0 0 [(0, .inr (.inr (1, 0))), (1, .inl a1)] [] m _
  refine g_aload_n 0 (kdX6_refuseAt 0 rfl) rfl ?_
  refine g_iload_n 1 (kdX6_refuseAt 1 rfl) rfl ?_
  refine g_putI (kdX6_refuseAt 2 rfl) fX6_52 rfl (fun m1 => ?_)
  refine g_iconst (v := 0) (kdX6_refuseAt 3 rfl) (by decide) ?_
  exact g_zret rfl (kdX6_refuseAt 4 rfl)
def JX6_passMark_15 (m : hM) : hR :=
  calV (JX6_skipBlanks m) fun m1 =>
  if (m1.1 1 0 4) ≤ (m1.1 1 0 5) then (jretZ 0 m1) else (calI (JX6_refuseAt (m1.1 1 0 5) m1) fun x3 m2 =>
  if x3 = 0 then (jretZ 0 m2) else (jretZ 1 m2))
set_option maxRecDepth 20000 in
theorem BX6_passMark_15 (m : hM) : G mX6_passMark 3 15 [(0, .inr (.inr (1, 0)))] [] m (JX6_passMark_15 m) := by
  unfold JX6_passMark_15
  refine g_aload_n 0 (kdX6_passMark 8 rfl) rfl ?_
  refine g_calV (ck_V (As := []) (S := []) (t := 1) (o := 0) (kdX6_passMark 9 rfl) iX6_skipBlanks lX6_76 rc_1 rfl rfl rfl (by decide) (by simp only [List.map, vcat, List.sum_cons, List.sum_nil]; decide)) (CX6_skipBlanks m) (fun m1 => ?_)
  refine g_aload_n 0 (kdX6_passMark 10 rfl) rfl ?_
  refine g_get (v := .inl (m1.1 1 0 5)) (kdX6_passMark 11 rfl) fX6_49 rfl ?_
  refine g_aload_n 0 (kdX6_passMark 12 rfl) rfl ?_
  refine g_get (v := .inl (m1.1 1 0 4)) (kdX6_passMark 13 rfl) fX6_37 rfl ?_
  refine g_icmp_ge (tgt := 45) (kdX6_passMark 14 rfl) (by decide) (fun _ => ?_) (fun _ => ?_)
  · refine g_iconst (v := 0) (kdX6_passMark 22 rfl) (by decide) ?_
    exact g_zret rfl (kdX6_passMark 23 rfl)
  · refine g_aload_n 0 (kdX6_passMark 15 rfl) rfl ?_
    refine g_aload_n 0 (kdX6_passMark 16 rfl) rfl ?_
    refine g_get (v := .inl (m1.1 1 0 5)) (kdX6_passMark 17 rfl) fX6_49 rfl ?_
    refine g_calI (ck_V (As := [.inl (m1.1 1 0 5)]) (S := []) (t := 1) (o := 0) (kdX6_passMark 18 rfl) iX6_refuseAt lX6_88 rc_1 rfl rfl rfl (by decide) (by simp only [List.map, vcat, List.sum_cons, List.sum_nil]; decide)) (CX6_refuseAt (m1.1 1 0 5) m1) (fun x3 m2 => ?_)
    refine g_if_eq (tgt := 45) (kdX6_passMark 19 rfl) (by decide) (fun _ => ?_) (fun _ => ?_)
    · refine g_iconst (v := 0) (kdX6_passMark 22 rfl) (by decide) ?_
      exact g_zret rfl (kdX6_passMark 23 rfl)
    · refine g_iconst (v := 1) (kdX6_passMark 20 rfl) (by decide) ?_
      refine g_goto (tgt := 46) (kdX6_passMark 21 rfl) (by decide) ?_
      exact g_zret rfl (kdX6_passMark 23 rfl)
def JX6_passMark (a1 : Int32) (m : hM) : hR :=
  if a1 = 0 then (JX6_passMark_15 m) else (calI (JX6_passByte 59 m) fun x5 m4 =>
  if x5 = 0 then (JX6_passMark_15 m4) else (jretZ 1 m4))
set_option maxRecDepth 20000 in
theorem CX6_passMark (a1 : Int32) (m : hM) : Cn mX6_passMark 3 [.inr (.inr (1, 0)), .inl a1] m (JX6_passMark a1 m) := by
  refine cn_of (by decide +kernel) (by simp only [List.map, vcat, List.sum_cons, List.sum_nil]; decide) ?_
  unfold JX6_passMark
  show G mX6_passMark 3 0 [(0, .inr (.inr (1, 0))), (1, .inl a1)] [] m _
  refine g_iload_n 1 (kdX6_passMark 0 rfl) rfl ?_
  refine g_if_eq (tgt := 15) (kdX6_passMark 1 rfl) (by decide) (fun _ => ?_) (fun _ => ?_)
  · exact g_fgt [0] rfl (BX6_passMark_15 m)
  · refine g_aload_n 0 (kdX6_passMark 2 rfl) rfl ?_
    refine g_bipush (v := 59) (kdX6_passMark 3 rfl) (by decide) ?_
    refine g_calI (ck_V (As := [.inl 59]) (S := []) (t := 1) (o := 0) (kdX6_passMark 4 rfl) iX6_passByte lX6_120 rc_1 rfl rfl rfl (by decide) (by simp only [List.map, vcat, List.sum_cons, List.sum_nil]; decide)) (CX6_passByte 59 m) (fun x5 m4 => ?_)
    refine g_if_eq (tgt := 15) (kdX6_passMark 5 rfl) (by decide) (fun _ => ?_) (fun _ => ?_)
    · exact g_fgt [0] rfl (BX6_passMark_15 m4)
    · refine g_iconst (v := 1) (kdX6_passMark 6 rfl) (by decide) ?_
      exact g_zret rfl (kdX6_passMark 7 rfl)
def JX6_isDigit (a1 : Int32) (m : hM) : hR :=
  calI (JX11_within a1 48 57 m) fun x2 m1 =>
  jretZ x2 m1
set_option maxRecDepth 20000 in
theorem CX6_isDigit (a1 : Int32) (m : hM) : Cn mX6_isDigit 1 [.inl a1] m (JX6_isDigit a1 m) := by
  refine cn_of (by decide +kernel) (by simp only [List.map, vcat, List.sum_cons, List.sum_nil]; decide) ?_
  unfold JX6_isDigit
  show G mX6_isDigit 1 0 [(0, .inl a1)] [] m _
  refine g_iload_n 0 (kdX6_isDigit 0 rfl) rfl ?_
  refine g_bipush (v := 48) (kdX6_isDigit 1 rfl) (by decide) ?_
  refine g_bipush (v := 57) (kdX6_isDigit 2 rfl) (by decide) ?_
  refine g_calI (ck_S (As := [.inl a1, .inl 48, .inl 57]) (S := []) (kdX6_isDigit 3 rfl) iX11_within lX6_45 rfl rfl rfl (by decide) (by simp only [List.map, vcat, List.sum_cons, List.sum_nil]; decide)) (CX11_within a1 48 57 m) (fun x2 m1 => ?_)
  exact g_zret rfl (kdX6_isDigit 4 rfl)
def bJX6_readNumber_70 (K70 : Int32 → Int32 → hM → hR) (K119 : Int32 → Int32 → hM → hR) (v1 : Int32) (v2 : Int32) (v3 : Int32) (v4 : Int32) (v5 : Int32) (v6 : Int32) (m : hM) : hR :=
  if (m.1 1 0 4) ≤ v5 then (K119 v5 v6 m) else (calI (JX6_byteAt v5 m) fun x10 m9 =>
  calI (JX6_isDigit x10 m9) fun x12 m11 =>
  if x12 = 0 then (K119 v5 v6 m11) else (calI (JX6_byteAt v5 m11) fun x14 m13 =>
  calI (JJ9_min_7cf53 (((v6 * 10) + x14) - 48) 100000 m13) fun x16 m15 =>
  K70 (v5 + 1) x16 m15))
set_option maxRecDepth 20000 in
theorem BbJX6_readNumber_70 (K70 : Int32 → Int32 → hM → hR) (K119 : Int32 → Int32 → hM → hR) (v1 : Int32) (v2 : Int32) (v3 : Int32) (v4 : Int32) (h70 : ∀ (v5 : Int32) (v6 : Int32) (m : hM), G mX6_readNumber 2 70 [(0, .inr (.inr (1, 0))), (1, .inl v1), (2, .inl v2), (3, .inl v3), (4, .inl v4), (5, .inl v5), (6, .inl v6)] [] m (K70 v5 v6 m)) (h119 : ∀ (v5 : Int32) (v6 : Int32) (m : hM), G mX6_readNumber 2 119 [(0, .inr (.inr (1, 0))), (1, .inl v1), (2, .inl v2), (3, .inl v3), (4, .inl v4), (5, .inl v5), (6, .inl v6)] [] m (K119 v5 v6 m)) (v5 : Int32) (v6 : Int32) (m : hM) : G mX6_readNumber 2 70 [(0, .inr (.inr (1, 0))), (1, .inl v1), (2, .inl v2), (3, .inl v3), (4, .inl v4), (5, .inl v5), (6, .inl v6)] [] m (bJX6_readNumber_70 K70 K119 v1 v2 v3 v4 v5 v6 m) := by
  unfold bJX6_readNumber_70
  refine g_iload 5 (kdX6_readNumber 36 rfl) rfl ?_
  refine g_aload_n 0 (kdX6_readNumber 37 rfl) rfl ?_
  refine g_get (v := .inl (m.1 1 0 4)) (kdX6_readNumber 38 rfl) fX6_37 rfl ?_
  refine g_icmp_ge (tgt := 119) (kdX6_readNumber 39 rfl) (by decide) (fun _ => ?_) (fun _ => ?_)
  · exact g_fgt [0, 1, 2, 3, 4, 5, 6] rfl (h119 v5 v6 m)
  · refine g_aload_n 0 (kdX6_readNumber 40 rfl) rfl ?_
    refine g_iload 5 (kdX6_readNumber 41 rfl) rfl ?_
    refine g_calI (ck_V (As := [.inl v5]) (S := []) (t := 1) (o := 0) (kdX6_readNumber 42 rfl) iX6_byteAt lX6_147 rc_1 rfl rfl rfl (by decide) (by simp only [List.map, vcat, List.sum_cons, List.sum_nil]; decide)) (CX6_byteAt v5 m) (fun x10 m9 => ?_)
    refine g_calI (ck_S (As := [.inl x10]) (S := []) (kdX6_readNumber 43 rfl) iX6_isDigit lX6_150 rfl rfl rfl (by decide) (by simp only [List.map, vcat, List.sum_cons, List.sum_nil]; decide)) (CX6_isDigit x10 m9) (fun x12 m11 => ?_)
    refine g_if_eq (tgt := 119) (kdX6_readNumber 44 rfl) (by decide) (fun _ => ?_) (fun _ => ?_)
    · exact g_fgt [0, 1, 2, 3, 4, 5, 6] rfl (h119 v5 v6 m11)
    · refine g_iload 6 (kdX6_readNumber 45 rfl) rfl ?_
      refine g_bipush (v := 10) (kdX6_readNumber 46 rfl) (by decide) ?_
      refine g_imul (kdX6_readNumber 47 rfl) ?_
      refine g_aload_n 0 (kdX6_readNumber 48 rfl) rfl ?_
      refine g_iload 5 (kdX6_readNumber 49 rfl) rfl ?_
      refine g_calI (ck_V (As := [.inl v5]) (S := [.inl (v6 * 10)]) (t := 1) (o := 0) (kdX6_readNumber 50 rfl) iX6_byteAt lX6_147 rc_1 rfl rfl rfl (by decide) (by simp only [List.map, vcat, List.sum_cons, List.sum_nil]; decide)) (CX6_byteAt v5 m11) (fun x14 m13 => ?_)
      refine g_iadd (kdX6_readNumber 51 rfl) ?_
      refine g_bipush (v := 48) (kdX6_readNumber 52 rfl) (by decide) ?_
      refine g_isub (kdX6_readNumber 53 rfl) ?_
      refine g_ldc (kdX6_readNumber 54 rfl) cX6_153 ?_
      refine g_calI (ck_S (As := [.inl (((v6 * 10) + x14) - 48), .inl 100000]) (S := []) (kdX6_readNumber 55 rfl) iJ9_min_7cf53 lX6_154 rfl rfl rfl (by decide) (by simp only [List.map, vcat, List.sum_cons, List.sum_nil]; decide)) (CJ9_min_7cf53 (((v6 * 10) + x14) - 48) 100000 m13) (fun x16 m15 => ?_)
      refine g_istore (L2 := [(6, .inl x16), (0, .inr (.inr (1, 0))), (1, .inl v1), (2, .inl v2), (3, .inl v3), (4, .inl v4), (5, .inl v5)]) (kdX6_readNumber 56 rfl) rfl (by decide) ?_
      refine g_iinc (v := v5 + 1) (L2 := [(5, .inl (v5 + 1)), (6, .inl x16), (0, .inr (.inr (1, 0))), (1, .inl v1), (2, .inl v2), (3, .inl v3), (4, .inl v4)]) 6 (kdX6_readNumber 57 rfl) rfl rfl rfl (by decide) ?_
      refine g_goto (tgt := 70) (kdX6_readNumber 58 rfl) (by decide) ?_
      exact g_fgt [2, 3, 4, 5, 6, 0, 1] rfl (h70 (v5 + 1) x16 m15)
def JX6_readNumber_70 (K119 : Int32 → Int32 → hM → hR) (v1 : Int32) (v2 : Int32) (v3 : Int32) (v4 : Int32) : Nat → Int32 → Int32 → hM → hR
  | 0, _, _, _ => none
  | f + 1, v5, v6, m => bJX6_readNumber_70 (fun v5 v6 m => JX6_readNumber_70 K119 v1 v2 v3 v4 f v5 v6 m) K119 v1 v2 v3 v4 v5 v6 m
theorem BJX6_readNumber_70 (K119 : Int32 → Int32 → hM → hR) (v1 : Int32) (v2 : Int32) (v3 : Int32) (v4 : Int32) (h119 : ∀ (v5 : Int32) (v6 : Int32) (m : hM), G mX6_readNumber 2 119 [(0, .inr (.inr (1, 0))), (1, .inl v1), (2, .inl v2), (3, .inl v3), (4, .inl v4), (5, .inl v5), (6, .inl v6)] [] m (K119 v5 v6 m)) : ∀ (f : Nat) (v5 : Int32) (v6 : Int32) (m : hM), G mX6_readNumber 2 70 [(0, .inr (.inr (1, 0))), (1, .inl v1), (2, .inl v2), (3, .inl v3), (4, .inl v4), (5, .inl v5), (6, .inl v6)] [] m (JX6_readNumber_70 K119 v1 v2 v3 v4 f v5 v6 m)
  | 0, _, _, _ => g_none
  | f + 1, v5, v6, m => BbJX6_readNumber_70  _ K119 v1 v2 v3 v4 (fun v5 v6 m => BJX6_readNumber_70  K119 v1 v2 v3 v4 h119 f v5 v6 m) h119 v5 v6 m
def JX6_readNumber_133 (v1 : Int32) (v2 : Int32) (v3 : Int32) (v5 : Int32) (v100 : Int32) (m : hM) : hR :=
  stI m 1 0 7 v100 fun m18 =>
  calI (JX11_within (m18.1 1 0 7) v1 v2 m18) fun x20 m19 =>
  if x20 = 0 then (calI (JX6_refuseAt v3 m19) fun x23 m22 =>
  jretZ x23 m22) else (stI m19 1 0 5 v5 fun m21 =>
  jretZ 1 m21)
set_option maxRecDepth 20000 in
theorem BX6_readNumber_133 (v1 : Int32) (v2 : Int32) (v3 : Int32) (v5 : Int32) (v100 : Int32) (m : hM) : G mX6_readNumber 2 133 [(0, .inr (.inr (1, 0))), (1, .inl v1), (2, .inl v2), (3, .inl v3), (5, .inl v5)] [.inl v100, .inr (.inr (1, 0))] m (JX6_readNumber_133 v1 v2 v3 v5 v100 m) := by
  unfold JX6_readNumber_133
  refine g_putI (kdX6_readNumber 66 rfl) fX6_113 rfl (fun m18 => ?_)
  refine g_aload_n 0 (kdX6_readNumber 67 rfl) rfl ?_
  refine g_get (v := .inl (m18.1 1 0 7)) (kdX6_readNumber 68 rfl) fX6_113 rfl ?_
  refine g_iload_n 1 (kdX6_readNumber 69 rfl) rfl ?_
  refine g_iload_n 2 (kdX6_readNumber 70 rfl) rfl ?_
  refine g_calI (ck_S (As := [.inl (m18.1 1 0 7), .inl v1, .inl v2]) (S := []) (kdX6_readNumber 71 rfl) iX11_within lX6_45 rfl rfl rfl (by decide) (by simp only [List.map, vcat, List.sum_cons, List.sum_nil]; decide)) (CX11_within (m18.1 1 0 7) v1 v2 m18) (fun x20 m19 => ?_)
  refine g_if_ne (tgt := 154) (kdX6_readNumber 72 rfl) (by decide) (fun _ => ?_) (fun _ => ?_)
  · refine g_aload_n 0 (kdX6_readNumber 77 rfl) rfl ?_
    refine g_iload 4 (kdX6_readNumber 78 rfl) rfl ?_
    refine g_putI (kdX6_readNumber 79 rfl) fX6_49 rfl (fun m21 => ?_)
    refine g_iconst (v := 1) (kdX6_readNumber 80 rfl) (by decide) ?_
    exact g_zret rfl (kdX6_readNumber 81 rfl)
  · refine g_aload_n 0 (kdX6_readNumber 73 rfl) rfl ?_
    refine g_iload_n 3 (kdX6_readNumber 74 rfl) rfl ?_
    refine g_calI (ck_V (As := [.inl v3]) (S := []) (t := 1) (o := 0) (kdX6_readNumber 75 rfl) iX6_refuseAt lX6_88 rc_1 rfl rfl rfl (by decide) (by simp only [List.map, vcat, List.sum_cons, List.sum_nil]; decide)) (CX6_refuseAt v3 m19) (fun x23 m22 => ?_)
    exact g_zret rfl (kdX6_readNumber 76 rfl)
def JX6_readNumber_119 (v1 : Int32) (v2 : Int32) (v3 : Int32) (v4 : Int32) (v5 : Int32) (v6 : Int32) (m : hM) : hR :=
  if v4 = 0 then (JX6_readNumber_133 v1 v2 v3 v5 v6 m) else (JX6_readNumber_133 v1 v2 v3 v5 (-v6) m)
set_option maxRecDepth 20000 in
theorem BX6_readNumber_119 (v1 : Int32) (v2 : Int32) (v3 : Int32) (v4 : Int32) (v5 : Int32) (v6 : Int32) (m : hM) : G mX6_readNumber 2 119 [(0, .inr (.inr (1, 0))), (1, .inl v1), (2, .inl v2), (3, .inl v3), (4, .inl v4), (5, .inl v5), (6, .inl v6)] [] m (JX6_readNumber_119 v1 v2 v3 v4 v5 v6 m) := by
  unfold JX6_readNumber_119
  refine g_aload_n 0 (kdX6_readNumber 59 rfl) rfl ?_
  refine g_iload 4 (kdX6_readNumber 60 rfl) rfl ?_
  refine g_if_eq (tgt := 131) (kdX6_readNumber 61 rfl) (by decide) (fun _ => ?_) (fun _ => ?_)
  · refine g_iload 6 (kdX6_readNumber 65 rfl) rfl ?_
    exact g_fgt [0, 1, 2, 3, 5] rfl (BX6_readNumber_133 v1 v2 v3 v5 v6 m)
  · refine g_iload 6 (kdX6_readNumber 62 rfl) rfl ?_
    refine g_ineg (kdX6_readNumber 63 rfl) ?_
    refine g_goto (tgt := 133) (kdX6_readNumber 64 rfl) (by decide) ?_
    exact g_fgt [0, 1, 2, 3, 5] rfl (BX6_readNumber_133 v1 v2 v3 v5 (-v6) m)
def JX6_readNumber_47 (v1 : Int32) (v2 : Int32) (v3 : Int32) (v4 : Int32) (v100 : Int32) (m : hM) : hR :=
  calI (JX6_byteAt v100 m) fun x6 m5 =>
  calI (JX6_isDigit x6 m5) fun x8 m7 =>
  if x8 = 0 then (calI (JX6_refuseAt v3 m7) fun x25 m24 =>
  jretZ x25 m24) else (JX6_readNumber_70 (fun v5 v6 m17 => JX6_readNumber_119 v1 v2 v3 v4 v5 v6 m17) v1 v2 v3 v4 FU v100 0 m7)
set_option maxRecDepth 20000 in
theorem BX6_readNumber_47 (v1 : Int32) (v2 : Int32) (v3 : Int32) (v4 : Int32) (v100 : Int32) (m : hM) : G mX6_readNumber 2 47 [(0, .inr (.inr (1, 0))), (1, .inl v1), (2, .inl v2), (3, .inl v3), (4, .inl v4)] [.inl v100] m (JX6_readNumber_47 v1 v2 v3 v4 v100 m) := by
  unfold JX6_readNumber_47
  refine g_istore (L2 := [(5, .inl v100), (0, .inr (.inr (1, 0))), (1, .inl v1), (2, .inl v2), (3, .inl v3), (4, .inl v4)]) (kdX6_readNumber 24 rfl) rfl (by decide) ?_
  refine g_aload_n 1 (kdX6_readNumber 25 rfl) rfl ?_
  refine g_iload 0 (kdX6_readNumber 26 rfl) rfl ?_
  refine g_calI (ck_V (As := [.inl v100]) (S := []) (t := 1) (o := 0) (kdX6_readNumber 27 rfl) iX6_byteAt lX6_147 rc_1 rfl rfl rfl (by decide) (by simp only [List.map, vcat, List.sum_cons, List.sum_nil]; decide)) (CX6_byteAt v100 m) (fun x6 m5 => ?_)
  refine g_calI (ck_S (As := [.inl x6]) (S := []) (kdX6_readNumber 28 rfl) iX6_isDigit lX6_150 rfl rfl rfl (by decide) (by simp only [List.map, vcat, List.sum_cons, List.sum_nil]; decide)) (CX6_isDigit x6 m5) (fun x8 m7 => ?_)
  refine g_if_ne (tgt := 67) (kdX6_readNumber 29 rfl) (by decide) (fun _ => ?_) (fun _ => ?_)
  · refine g_iconst (v := 0) (kdX6_readNumber 34 rfl) (by decide) ?_
    refine g_istore (L2 := [(6, .inl 0), (5, .inl v100), (0, .inr (.inr (1, 0))), (1, .inl v1), (2, .inl v2), (3, .inl v3), (4, .inl v4)]) (kdX6_readNumber 35 rfl) rfl (by decide) ?_
    refine g_fgt [2, 3, 4, 5, 6, 1, 0] rfl (BJX6_readNumber_70  _ v1 v2 v3 v4 ?_ FU v100 0 m7)
    · intro v5 v6 m17
      exact g_fgt [0, 1, 2, 3, 4, 5, 6] rfl (BX6_readNumber_119 v1 v2 v3 v4 v5 v6 m17)
  · refine g_aload_n 1 (kdX6_readNumber 30 rfl) rfl ?_
    refine g_iload_n 4 (kdX6_readNumber 31 rfl) rfl ?_
    refine g_calI (ck_V (As := [.inl v3]) (S := []) (t := 1) (o := 0) (kdX6_readNumber 32 rfl) iX6_refuseAt lX6_88 rc_1 rfl rfl rfl (by decide) (by simp only [List.map, vcat, List.sum_cons, List.sum_nil]; decide)) (CX6_refuseAt v3 m7) (fun x25 m24 => ?_)
    exact g_zret rfl (kdX6_readNumber 33 rfl)
def JX6_readNumber_27 (v1 : Int32) (v2 : Int32) (v3 : Int32) (v100 : Int32) (m : hM) : hR :=
  if v100 = 0 then (JX6_readNumber_47 v1 v2 v3 v100 (m.1 1 0 5) m) else (JX6_readNumber_47 v1 v2 v3 v100 ((m.1 1 0 5) + 1) m)
set_option maxRecDepth 20000 in
theorem BX6_readNumber_27 (v1 : Int32) (v2 : Int32) (v3 : Int32) (v100 : Int32) (m : hM) : G mX6_readNumber 2 27 [(0, .inr (.inr (1, 0))), (1, .inl v1), (2, .inl v2), (3, .inl v3)] [.inl v100] m (JX6_readNumber_27 v1 v2 v3 v100 m) := by
  unfold JX6_readNumber_27
  refine g_istore (L2 := [(4, .inl v100), (0, .inr (.inr (1, 0))), (1, .inl v1), (2, .inl v2), (3, .inl v3)]) (kdX6_readNumber 14 rfl) rfl (by decide) ?_
  refine g_iload 0 (kdX6_readNumber 15 rfl) rfl ?_
  refine g_if_eq (tgt := 43) (kdX6_readNumber 16 rfl) (by decide) (fun _ => ?_) (fun _ => ?_)
  · refine g_aload_n 1 (kdX6_readNumber 22 rfl) rfl ?_
    refine g_get (v := .inl (m.1 1 0 5)) (kdX6_readNumber 23 rfl) fX6_49 rfl ?_
    exact g_fgt [1, 2, 3, 4, 0] rfl (BX6_readNumber_47 v1 v2 v3 v100 (m.1 1 0 5) m)
  · refine g_aload_n 1 (kdX6_readNumber 17 rfl) rfl ?_
    refine g_get (v := .inl (m.1 1 0 5)) (kdX6_readNumber 18 rfl) fX6_49 rfl ?_
    refine g_iconst (v := 1) (kdX6_readNumber 19 rfl) (by decide) ?_
    refine g_iadd (kdX6_readNumber 20 rfl) ?_
    refine g_goto (tgt := 47) (kdX6_readNumber 21 rfl) (by decide) ?_
    exact g_fgt [1, 2, 3, 4, 0] rfl (BX6_readNumber_47 v1 v2 v3 v100 ((m.1 1 0 5) + 1) m)
def JX6_readNumber (a1 : Int32) (a2 : Int32) (m : hM) : hR :=
  calV (JX6_skipBlanks m) fun m1 =>
  lt (m1.1 1 0 5) fun x2 =>
  calI (JX6_byteAt (m1.1 1 0 5) m1) fun x4 m3 =>
  if x4 = 45 then (JX6_readNumber_27 a1 a2 x2 1 m3) else (JX6_readNumber_27 a1 a2 x2 0 m3)
set_option maxRecDepth 20000 in
theorem CX6_readNumber (a1 : Int32) (a2 : Int32) (m : hM) : Cn mX6_readNumber 2 [.inr (.inr (1, 0)), .inl a1, .inl a2] m (JX6_readNumber a1 a2 m) := by
  refine cn_of (by decide +kernel) (by simp only [List.map, vcat, List.sum_cons, List.sum_nil]; decide) ?_
  unfold JX6_readNumber
  show G mX6_readNumber 2 0 [(0, .inr (.inr (1, 0))), (1, .inl a1), (2, .inl a2)] [] m _
  refine g_aload_n 0 (kdX6_readNumber 0 rfl) rfl ?_
  refine g_calV (ck_V (As := []) (S := []) (t := 1) (o := 0) (kdX6_readNumber 1 rfl) iX6_skipBlanks lX6_76 rc_1 rfl rfl rfl (by decide) (by simp only [List.map, vcat, List.sum_cons, List.sum_nil]; decide)) (CX6_skipBlanks m) (fun m1 => ?_)
  refine g_aload_n 0 (kdX6_readNumber 2 rfl) rfl ?_
  refine g_get (v := .inl (m1.1 1 0 5)) (kdX6_readNumber 3 rfl) fX6_49 rfl ?_
  refine g_lt (fun x2 => ?_)
  refine g_istore_n (L2 := [(3, .inl x2), (0, .inr (.inr (1, 0))), (1, .inl a1), (2, .inl a2)]) (kdX6_readNumber 4 rfl) rfl (by decide) ?_
  refine g_aload_n 1 (kdX6_readNumber 5 rfl) rfl ?_
  refine g_aload_n 1 (kdX6_readNumber 6 rfl) rfl ?_
  refine g_get (v := .inl (m1.1 1 0 5)) (kdX6_readNumber 7 rfl) fX6_49 rfl ?_
  refine g_calI (ck_V (As := [.inl (m1.1 1 0 5)]) (S := []) (t := 1) (o := 0) (kdX6_readNumber 8 rfl) iX6_byteAt lX6_147 rc_1 rfl rfl rfl (by decide) (by simp only [List.map, vcat, List.sum_cons, List.sum_nil]; decide)) (CX6_byteAt (m1.1 1 0 5) m1) (fun x4 m3 => ?_)
  refine g_bipush (v := 45) (kdX6_readNumber 9 rfl) (by decide) ?_
  refine g_icmp_ne (tgt := 26) (kdX6_readNumber 10 rfl) (by decide) (fun _ => ?_) (fun _ => ?_)
  · refine g_iconst (v := 0) (kdX6_readNumber 13 rfl) (by decide) ?_
    exact g_fgt [1, 2, 3, 0] rfl (BX6_readNumber_27 a1 a2 x2 0 m3)
  · refine g_iconst (v := 1) (kdX6_readNumber 11 rfl) (by decide) ?_
    refine g_goto (tgt := 27) (kdX6_readNumber 12 rfl) (by decide) ?_
    exact g_fgt [1, 2, 3, 0] rfl (BX6_readNumber_27 a1 a2 x2 1 m3)
def JX6_readClause_36 (m : hM) : hR :=
  calI (JX6_refuseAt (m.1 1 0 5) m) fun x5 m4 =>
  jretZ x5 m4
set_option maxRecDepth 20000 in
theorem BX6_readClause_36 (m : hM) : G mX6_readClause 6 36 [(0, .inr (.inr (1, 0)))] [] m (JX6_readClause_36 m) := by
  unfold JX6_readClause_36
  refine g_aload_n 0 (kdX6_readClause 19 rfl) rfl ?_
  refine g_aload_n 0 (kdX6_readClause 20 rfl) rfl ?_
  refine g_get (v := .inl (m.1 1 0 5)) (kdX6_readClause 21 rfl) fX6_49 rfl ?_
  refine g_calI (ck_V (As := [.inl (m.1 1 0 5)]) (S := []) (t := 1) (o := 0) (kdX6_readClause 22 rfl) iX6_refuseAt lX6_88 rc_1 rfl rfl rfl (by decide) (by simp only [List.map, vcat, List.sum_cons, List.sum_nil]; decide)) (CX6_refuseAt (m.1 1 0 5) m) (fun x5 m4 => ?_)
  exact g_zret rfl (kdX6_readClause 23 rfl)
def JX6_readClause_148 (K79 : Int32 → Int32 → hM → hR) (K107 : hM → hR) (K155 : hM → hR) (v1 : Int32) (w2 : Nat) (v4 : Int32) (v100 : Int32) (m : hM) : hR :=
  K79 v100 (v4 + 1) m
set_option maxRecDepth 20000 in
theorem BX6_readClause_148 (v1 : Int32) (w2 : Nat) (K79 : Int32 → Int32 → hM → hR) (K107 : hM → hR) (K155 : hM → hR) (h79 : ∀ (v3 : Int32) (v4 : Int32) (m : hM), G mX6_readClause 6 79 [(0, .inr (.inr (1, 0))), (1, .inl v1), (2, .inr (.inr (101, w2))), (3, .inl v3), (4, .inl v4)] [] m (K79 v3 v4 m)) (h107 : ∀ (m : hM), G mX6_readClause 6 107 [] [] m (K107 m)) (h155 : ∀ (m : hM), G mX6_readClause 6 155 [(0, .inr (.inr (1, 0)))] [] m (K155 m)) (v4 : Int32) (v100 : Int32) (m : hM) : G mX6_readClause 6 148 [(0, .inr (.inr (1, 0))), (1, .inl v1), (2, .inr (.inr (101, w2))), (4, .inl v4)] [.inl v100] m (JX6_readClause_148 K79 K107 K155 v1 w2 v4 v100 m) := by
  unfold JX6_readClause_148
  refine g_istore_n (L2 := [(3, .inl v100), (0, .inr (.inr (1, 0))), (1, .inl v1), (2, .inr (.inr (101, w2))), (4, .inl v4)]) (kdX6_readClause 80 rfl) rfl (by decide) ?_
  refine g_iinc (v := v4 + 1) (L2 := [(4, .inl (v4 + 1)), (3, .inl v100), (0, .inr (.inr (1, 0))), (1, .inl v1), (2, .inr (.inr (101, w2)))]) 4 (kdX6_readClause 81 rfl) rfl rfl rfl (by decide) ?_
  refine g_goto (tgt := 79) (kdX6_readClause 82 rfl) (by decide) ?_
  exact g_fgt [2, 3, 4, 1, 0] rfl (h79 v100 (v4 + 1) m)
def JX6_readClause_147 (K79 : Int32 → Int32 → hM → hR) (K107 : hM → hR) (K155 : hM → hR) (v1 : Int32) (w2 : Nat) (v4 : Int32) (m : hM) : hR :=
  JX6_readClause_148 K79 K107 K155 v1 w2 v4 0 m
set_option maxRecDepth 20000 in
theorem BX6_readClause_147 (v1 : Int32) (w2 : Nat) (K79 : Int32 → Int32 → hM → hR) (K107 : hM → hR) (K155 : hM → hR) (h79 : ∀ (v3 : Int32) (v4 : Int32) (m : hM), G mX6_readClause 6 79 [(0, .inr (.inr (1, 0))), (1, .inl v1), (2, .inr (.inr (101, w2))), (3, .inl v3), (4, .inl v4)] [] m (K79 v3 v4 m)) (h107 : ∀ (m : hM), G mX6_readClause 6 107 [] [] m (K107 m)) (h155 : ∀ (m : hM), G mX6_readClause 6 155 [(0, .inr (.inr (1, 0)))] [] m (K155 m)) (v4 : Int32) (m : hM) : G mX6_readClause 6 147 [(0, .inr (.inr (1, 0))), (1, .inl v1), (2, .inr (.inr (101, w2))), (4, .inl v4)] [] m (JX6_readClause_147 K79 K107 K155 v1 w2 v4 m) := by
  unfold JX6_readClause_147
  refine g_iconst (v := 0) (kdX6_readClause 79 rfl) (by decide) ?_
  exact g_fgt [0, 1, 2, 3] rfl (BX6_readClause_148 v1 w2 _ _ _ h79 h107 h155 v4 0 m)
def bJX6_readClause_79 (K79 : Int32 → Int32 → hM → hR) (K107 : hM → hR) (K155 : hM → hR) (v1 : Int32) (w2 : Nat) (v3 : Int32) (v4 : Int32) (m : hM) : hR :=
  if (ck_most.getD w2 0) ≤ v4 then (K155 m) else (if v3 = 0 then (K155 m) else (calI (JX6_readNumber (ck_low.getD w2 0) (ck_high.getD w2 0) m) fun x13 m12 =>
  if x13 = 0 then (K107 m12) else (calV (JX4_put 1 v1 v4 (m12.1 1 0 7) m12) fun m14 =>
  if (ck_most.getD w2 0) ≤ (v4 + 1) then (JX6_readClause_147 K79 K107 K155 v1 w2 v4 m14) else (calI (JX6_passByte 44 m14) fun x16 m15 =>
  if x16 = 0 then (JX6_readClause_147 K79 K107 K155 v1 w2 v4 m15) else (JX6_readClause_148 K79 K107 K155 v1 w2 v4 1 m15)))))
set_option maxRecDepth 20000 in
theorem BbJX6_readClause_79 (K79 : Int32 → Int32 → hM → hR) (K107 : hM → hR) (K155 : hM → hR) (v1 : Int32) (w2 : Nat) (h79 : ∀ (v3 : Int32) (v4 : Int32) (m : hM), G mX6_readClause 6 79 [(0, .inr (.inr (1, 0))), (1, .inl v1), (2, .inr (.inr (101, w2))), (3, .inl v3), (4, .inl v4)] [] m (K79 v3 v4 m)) (h107 : ∀ (m : hM), G mX6_readClause 6 107 [] [] m (K107 m)) (h155 : ∀ (m : hM), G mX6_readClause 6 155 [(0, .inr (.inr (1, 0)))] [] m (K155 m)) (v3 : Int32) (v4 : Int32) (m : hM) : G mX6_readClause 6 79 [(0, .inr (.inr (1, 0))), (1, .inl v1), (2, .inr (.inr (101, w2))), (3, .inl v3), (4, .inl v4)] [] m (bJX6_readClause_79 K79 K107 K155 v1 w2 v3 v4 m) := by
  unfold bJX6_readClause_79
  refine g_iload 4 (kdX6_readClause 45 rfl) rfl ?_
  refine g_aload_n 2 (kdX6_readClause 46 rfl) rfl ?_
  refine g_giC (nm := "most") (l := ck_most) (kdX6_readClause 47 rfl) sX6_100 (by simp) ?_
  refine g_icmp_ge (tgt := 155) (kdX6_readClause 48 rfl) (by decide) (fun _ => ?_) (fun _ => ?_)
  · exact g_fgt [0] rfl (h155 m)
  · refine g_iload_n 3 (kdX6_readClause 49 rfl) rfl ?_
    refine g_if_eq (tgt := 155) (kdX6_readClause 50 rfl) (by decide) (fun _ => ?_) (fun _ => ?_)
    · exact g_fgt [0] rfl (h155 m)
    · refine g_aload_n 0 (kdX6_readClause 51 rfl) rfl ?_
      refine g_aload_n 2 (kdX6_readClause 52 rfl) rfl ?_
      refine g_giC (nm := "low") (l := ck_low) (kdX6_readClause 53 rfl) sX6_103 (by simp) ?_
      refine g_aload_n 2 (kdX6_readClause 54 rfl) rfl ?_
      refine g_giC (nm := "high") (l := ck_high) (kdX6_readClause 55 rfl) sX6_106 (by simp) ?_
      refine g_calI (ck_V (As := [.inl (ck_low.getD w2 0), .inl (ck_high.getD w2 0)]) (S := []) (t := 1) (o := 0) (kdX6_readClause 56 rfl) iX6_readNumber lX6_109 rc_1 rfl rfl rfl (by decide) (by simp only [List.map, vcat, List.sum_cons, List.sum_nil]; decide)) (CX6_readNumber (ck_low.getD w2 0) (ck_high.getD w2 0) m) (fun x13 m12 => ?_)
      refine g_if_ne (tgt := 109) (kdX6_readClause 57 rfl) (by decide) (fun _ => ?_) (fun _ => ?_)
      · refine g_aload_n 0 (kdX6_readClause 60 rfl) rfl ?_
        refine g_get (v := .inr (.inr (4, 1))) (kdX6_readClause 61 rfl) fX6_22 rfl ?_
        refine g_iload_n 1 (kdX6_readClause 62 rfl) rfl ?_
        refine g_iload 4 (kdX6_readClause 63 rfl) rfl ?_
        refine g_aload_n 0 (kdX6_readClause 64 rfl) rfl ?_
        refine g_get (v := .inl (m12.1 1 0 7)) (kdX6_readClause 65 rfl) fX6_113 rfl ?_
        refine g_calV (ck_V (As := [.inl v1, .inl v4, .inl (m12.1 1 0 7)]) (S := []) (t := 4) (o := 1) (kdX6_readClause 66 rfl) iX4_put lX6_116 rc_4 rfl rfl rfl (by decide) (by simp only [List.map, vcat, List.sum_cons, List.sum_nil]; decide)) (CX4_put 1 v1 v4 (m12.1 1 0 7) m12) (fun m14 => ?_)
        refine g_iload 4 (kdX6_readClause 67 rfl) rfl ?_
        refine g_iconst (v := 1) (kdX6_readClause 68 rfl) (by decide) ?_
        refine g_iadd (kdX6_readClause 69 rfl) ?_
        refine g_aload_n 2 (kdX6_readClause 70 rfl) rfl ?_
        refine g_giC (nm := "most") (l := ck_most) (kdX6_readClause 71 rfl) sX6_100 (by simp) ?_
        refine g_icmp_ge (tgt := 147) (kdX6_readClause 72 rfl) (by decide) (fun _ => ?_) (fun _ => ?_)
        · exact g_fgt [0, 1, 2, 4] rfl (BX6_readClause_147 v1 w2 _ _ _ h79 h107 h155 v4 m14)
        · refine g_aload_n 0 (kdX6_readClause 73 rfl) rfl ?_
          refine g_bipush (v := 44) (kdX6_readClause 74 rfl) (by decide) ?_
          refine g_calI (ck_V (As := [.inl 44]) (S := []) (t := 1) (o := 0) (kdX6_readClause 75 rfl) iX6_passByte lX6_120 rc_1 rfl rfl rfl (by decide) (by simp only [List.map, vcat, List.sum_cons, List.sum_nil]; decide)) (CX6_passByte 44 m14) (fun x16 m15 => ?_)
          refine g_if_eq (tgt := 147) (kdX6_readClause 76 rfl) (by decide) (fun _ => ?_) (fun _ => ?_)
          · exact g_fgt [0, 1, 2, 4] rfl (BX6_readClause_147 v1 w2 _ _ _ h79 h107 h155 v4 m15)
          · refine g_iconst (v := 1) (kdX6_readClause 77 rfl) (by decide) ?_
            refine g_goto (tgt := 148) (kdX6_readClause 78 rfl) (by decide) ?_
            exact g_fgt [0, 1, 2, 4] rfl (BX6_readClause_148 v1 w2 _ _ _ h79 h107 h155 v4 1 m15)
      · exact g_fgt [] rfl (h107 m12)
def JX6_readClause_79 (K107 : hM → hR) (K155 : hM → hR) (v1 : Int32) (w2 : Nat) : Nat → Int32 → Int32 → hM → hR
  | 0, _, _, _ => none
  | f + 1, v3, v4, m => bJX6_readClause_79 (fun v3 v4 m => JX6_readClause_79 K107 K155 v1 w2 f v3 v4 m) K107 K155 v1 w2 v3 v4 m
theorem BJX6_readClause_79 (K107 : hM → hR) (K155 : hM → hR) (v1 : Int32) (w2 : Nat) (h107 : ∀ (m : hM), G mX6_readClause 6 107 [] [] m (K107 m)) (h155 : ∀ (m : hM), G mX6_readClause 6 155 [(0, .inr (.inr (1, 0)))] [] m (K155 m)) : ∀ (f : Nat) (v3 : Int32) (v4 : Int32) (m : hM), G mX6_readClause 6 79 [(0, .inr (.inr (1, 0))), (1, .inl v1), (2, .inr (.inr (101, w2))), (3, .inl v3), (4, .inl v4)] [] m (JX6_readClause_79 K107 K155 v1 w2 f v3 v4 m)
  | 0, _, _, _ => g_none
  | f + 1, v3, v4, m => BbJX6_readClause_79  _ K107 K155 v1 w2 (fun v3 v4 m => BJX6_readClause_79  K107 K155 v1 w2 h107 h155 f v3 v4 m) h107 h155 v3 v4 m
def JX6_readClause_155 (m : hM) : hR :=
  calI (JX6_passMark 1 m) fun x20 m19 =>
  jretZ x20 m19
set_option maxRecDepth 20000 in
theorem BX6_readClause_155 (m : hM) : G mX6_readClause 6 155 [(0, .inr (.inr (1, 0)))] [] m (JX6_readClause_155 m) := by
  unfold JX6_readClause_155
  refine g_aload_n 0 (kdX6_readClause 83 rfl) rfl ?_
  refine g_iconst (v := 1) (kdX6_readClause 84 rfl) (by decide) ?_
  refine g_calI (ck_V (As := [.inl 1]) (S := []) (t := 1) (o := 0) (kdX6_readClause 85 rfl) iX6_passMark lX6_72 rc_1 rfl rfl rfl (by decide) (by simp only [List.map, vcat, List.sum_cons, List.sum_nil]; decide)) (CX6_passMark 1 m) (fun x20 m19 => ?_)
  exact g_zret rfl (kdX6_readClause 86 rfl)
def JX6_readClause  (m : hM) : hR :=
  calV (JX6_skipBlanks m) fun m1 =>
  calI (JX6_clauseHere m1) fun x3 m2 =>
  if x3 < 0 then (JX6_readClause_36 m2) else (if 13 ≤ x3 then (JX6_readClause_36 m2) else (if 13 ≤ x3 then (JX6_readClause_36 m2) else (zald m2 3 0 x3 fun x6 =>
  if x6 = 0 then (zast m2 3 0 x3 1 fun m7 =>
  eal 13 x3 fun j8 =>
  calI (JJ0_length_8abf5_C j8 m7) fun x10 m9 =>
  stI m9 1 0 5 ((m7.1 1 0 5) + x10) fun m11 =>
  JX6_readClause_79 (fun m17 => jretZ 0 m17) (fun m18 => JX6_readClause_155 m18) x3 j8 FU 1 0 m11) else (JX6_readClause_36 m2))))
set_option maxRecDepth 20000 in
theorem CX6_readClause  (m : hM) : Cn mX6_readClause 6 [.inr (.inr (1, 0))] m (JX6_readClause  m) := by
  refine cn_of (by decide +kernel) (by simp only [List.map, vcat, List.sum_cons, List.sum_nil]; decide) ?_
  unfold JX6_readClause
  show G mX6_readClause 6 0 [(0, .inr (.inr (1, 0)))] [] m _
  refine g_aload_n 0 (kdX6_readClause 0 rfl) rfl ?_
  refine g_calV (ck_V (As := []) (S := []) (t := 1) (o := 0) (kdX6_readClause 1 rfl) iX6_skipBlanks lX6_76 rc_1 rfl rfl rfl (by decide) (by simp only [List.map, vcat, List.sum_cons, List.sum_nil]; decide)) (CX6_skipBlanks m) (fun m1 => ?_)
  refine g_aload_n 0 (kdX6_readClause 2 rfl) rfl ?_
  refine g_calI (ck_V (As := []) (S := []) (t := 1) (o := 0) (kdX6_readClause 3 rfl) iX6_clauseHere lX6_79 rc_1 rfl rfl rfl (by decide) (by simp only [List.map, vcat, List.sum_cons, List.sum_nil]; decide)) (CX6_clauseHere m1) (fun x3 m2 => ?_)
  refine g_istore_n (L2 := [(1, .inl x3), (0, .inr (.inr (1, 0)))]) (kdX6_readClause 4 rfl) rfl (by decide) ?_
  refine g_iload_n 0 (kdX6_readClause 5 rfl) rfl ?_
  refine g_if_lt (tgt := 36) (kdX6_readClause 6 rfl) (by decide) (fun _ => ?_) (fun _ => ?_)
  · exact g_fgt [1] rfl (BX6_readClause_36 m2)
  · refine g_iload_n 0 (kdX6_readClause 7 rfl) rfl ?_
    refine g_gsC (kdX6_readClause 8 rfl) sX6_82 ?_
    refine g_elenC (kdX6_readClause 9 rfl) ?_
    refine g_icmp_ge (tgt := 36) (kdX6_readClause 10 rfl) (by decide) (fun _ => ?_) (fun _ => ?_)
    · exact g_fgt [1] rfl (BX6_readClause_36 m2)
    · refine g_iload_n 0 (kdX6_readClause 11 rfl) rfl ?_
      refine g_bipush (v := 13) (kdX6_readClause 12 rfl) (by decide) ?_
      refine g_icmp_ge (tgt := 36) (kdX6_readClause 13 rfl) (by decide) (fun _ => ?_) (fun _ => ?_)
      · exact g_fgt [1] rfl (BX6_readClause_36 m2)
      · refine g_aload_n 1 (kdX6_readClause 14 rfl) rfl ?_
        refine g_get (v := .inr (.inr (3, 0))) (kdX6_readClause 15 rfl) fX6_15 rfl ?_
        refine g_iload_n 0 (kdX6_readClause 16 rfl) rfl ?_
        refine g_zald (kdX6_readClause 17 rfl) (fun x6 => ?_)
        refine g_if_eq (tgt := 45) (kdX6_readClause 18 rfl) (by decide) (fun _ => ?_) (fun _ => ?_)
        · refine g_aload_n 1 (kdX6_readClause 24 rfl) rfl ?_
          refine g_get (v := .inr (.inr (3, 0))) (kdX6_readClause 25 rfl) fX6_15 rfl ?_
          refine g_iload_n 0 (kdX6_readClause 26 rfl) rfl ?_
          refine g_iconst (v := 1) (kdX6_readClause 27 rfl) (by decide) ?_
          refine g_zast (kdX6_readClause 28 rfl) (fun m7 => ?_)
          refine g_gsC (kdX6_readClause 29 rfl) sX6_82 ?_
          refine g_iload_n 0 (kdX6_readClause 30 rfl) rfl ?_
          refine g_ealdC (kdX6_readClause 31 rfl) (fun j8 => ?_)
          refine g_astore_n (L2 := [(2, .inr (.inr (101, j8))), (1, .inl x3), (0, .inr (.inr (1, 0)))]) (kdX6_readClause 32 rfl) rfl (by decide) ?_
          refine g_aload_n 2 (kdX6_readClause 33 rfl) rfl ?_
          refine g_dup (kdX6_readClause 34 rfl) rfl ?_
          refine g_get (v := .inl (m7.1 1 0 5)) (kdX6_readClause 35 rfl) fX6_49 rfl ?_
          refine g_aload_n 0 (kdX6_readClause 36 rfl) rfl ?_
          refine g_gwC (kdX6_readClause 37 rfl) sX6_92 ?_
          refine g_calI (ck_V (As := []) (S := [.inl (m7.1 1 0 5), .inr (.inr (1, 0))]) (t := 102) (o := j8) (kdX6_readClause 38 rfl) iJ0_length_8abf5 lX6_96 rc_102 rfl rfl rfl (by decide) (by simp only [List.map, vcat, List.sum_cons, List.sum_nil]; decide)) (CJ0_length_8abf5_C j8 m7) (fun x10 m9 => ?_)
          refine g_iadd (kdX6_readClause 39 rfl) ?_
          refine g_putI (kdX6_readClause 40 rfl) fX6_49 rfl (fun m11 => ?_)
          refine g_iconst (v := 1) (kdX6_readClause 41 rfl) (by decide) ?_
          refine g_istore_n (L2 := [(3, .inl 1), (2, .inr (.inr (101, j8))), (1, .inl x3), (0, .inr (.inr (1, 0)))]) (kdX6_readClause 42 rfl) rfl (by decide) ?_
          refine g_iconst (v := 0) (kdX6_readClause 43 rfl) (by decide) ?_
          refine g_istore (L2 := [(4, .inl 0), (3, .inl 1), (2, .inr (.inr (101, j8))), (1, .inl x3), (0, .inr (.inr (1, 0)))]) (kdX6_readClause 44 rfl) rfl (by decide) ?_
          refine g_fgt [4, 3, 2, 1, 0] rfl (BJX6_readClause_79  _ _ x3 j8 ?_ ?_ FU 1 0 m11)
          · intro m17
            refine g_iconst (v := 0) (kdX6_readClause 58 rfl) (by decide) ?_
            exact g_zret rfl (kdX6_readClause 59 rfl)
          · intro m18
            exact g_fgt [0] rfl (BX6_readClause_155 m18)
        · exact g_fgt [1] rfl (BX6_readClause_36 m2)
def bJX6_faultOfLine_19 (K19 : Int32 → hM → hR) (K38 : hM → hR) (v1 : Int32) (m : hM) : hR :=
  if 13 ≤ v1 then (K38 m) else (zast m 3 0 v1 0 fun m4 =>
  K19 (v1 + 1) m4)
set_option maxRecDepth 20000 in
theorem BbJX6_faultOfLine_19 (K19 : Int32 → hM → hR) (K38 : hM → hR) (h19 : ∀ (v1 : Int32) (m : hM), G mX6_faultOfLine 7 19 [(0, .inr (.inr (1, 0))), (1, .inl v1)] [] m (K19 v1 m)) (h38 : ∀ (m : hM), G mX6_faultOfLine 7 38 [(0, .inr (.inr (1, 0)))] [] m (K38 m)) (v1 : Int32) (m : hM) : G mX6_faultOfLine 7 19 [(0, .inr (.inr (1, 0))), (1, .inl v1)] [] m (bJX6_faultOfLine_19 K19 K38 v1 m) := by
  unfold bJX6_faultOfLine_19
  refine g_iload_n 1 (kdX6_faultOfLine 11 rfl) rfl ?_
  refine g_bipush (v := 13) (kdX6_faultOfLine 12 rfl) (by decide) ?_
  refine g_icmp_ge (tgt := 38) (kdX6_faultOfLine 13 rfl) (by decide) (fun _ => ?_) (fun _ => ?_)
  · exact g_fgt [0] rfl (h38 m)
  · refine g_aload_n 0 (kdX6_faultOfLine 14 rfl) rfl ?_
    refine g_get (v := .inr (.inr (3, 0))) (kdX6_faultOfLine 15 rfl) fX6_15 rfl ?_
    refine g_iload_n 1 (kdX6_faultOfLine 16 rfl) rfl ?_
    refine g_iconst (v := 0) (kdX6_faultOfLine 17 rfl) (by decide) ?_
    refine g_zast (kdX6_faultOfLine 18 rfl) (fun m4 => ?_)
    refine g_iinc (v := v1 + 1) (L2 := [(1, .inl (v1 + 1)), (0, .inr (.inr (1, 0)))]) 1 (kdX6_faultOfLine 19 rfl) rfl rfl rfl (by decide) ?_
    refine g_goto (tgt := 19) (kdX6_faultOfLine 20 rfl) (by decide) ?_
    exact g_fgt [1, 0] rfl (h19 (v1 + 1) m4)
def JX6_faultOfLine_19 (K38 : hM → hR) : Nat → Int32 → hM → hR
  | 0, _, _ => none
  | f + 1, v1, m => bJX6_faultOfLine_19 (fun v1 m => JX6_faultOfLine_19 K38  f v1 m) K38  v1 m
theorem BJX6_faultOfLine_19 (K38 : hM → hR) (h38 : ∀ (m : hM), G mX6_faultOfLine 7 38 [(0, .inr (.inr (1, 0)))] [] m (K38 m)) : ∀ (f : Nat) (v1 : Int32) (m : hM), G mX6_faultOfLine 7 19 [(0, .inr (.inr (1, 0))), (1, .inl v1)] [] m (JX6_faultOfLine_19 K38  f v1 m)
  | 0, _, _ => g_none
  | f + 1, v1, m => BbJX6_faultOfLine_19  _ K38  (fun v1 m => BJX6_faultOfLine_19  K38  h38 f v1 m) h38 v1 m
def bJX6_faultOfLine_42 (K42 : Int32 → Int32 → hM → hR) (K63 : hM → hR) (v1 : Int32) (v2 : Int32) (m : hM) : hR :=
  if 13 < v2 then (K63 m) else (if v1 = 0 then (K63 m) else (calI (JX6_readClause m) fun x7 m6 =>
  K42 x7 (v2 + 1) m6))
set_option maxRecDepth 20000 in
theorem BbJX6_faultOfLine_42 (K42 : Int32 → Int32 → hM → hR) (K63 : hM → hR) (h42 : ∀ (v1 : Int32) (v2 : Int32) (m : hM), G mX6_faultOfLine 7 42 [(0, .inr (.inr (1, 0))), (1, .inl v1), (2, .inl v2)] [] m (K42 v1 v2 m)) (h63 : ∀ (m : hM), G mX6_faultOfLine 7 63 [(0, .inr (.inr (1, 0)))] [] m (K63 m)) (v1 : Int32) (v2 : Int32) (m : hM) : G mX6_faultOfLine 7 42 [(0, .inr (.inr (1, 0))), (1, .inl v1), (2, .inl v2)] [] m (bJX6_faultOfLine_42 K42 K63 v1 v2 m) := by
  unfold bJX6_faultOfLine_42
  refine g_iload_n 2 (kdX6_faultOfLine 25 rfl) rfl ?_
  refine g_bipush (v := 13) (kdX6_faultOfLine 26 rfl) (by decide) ?_
  refine g_icmp_gt (tgt := 63) (kdX6_faultOfLine 27 rfl) (by decide) (fun _ => ?_) (fun _ => ?_)
  · exact g_fgt [0] rfl (h63 m)
  · refine g_iload_n 1 (kdX6_faultOfLine 28 rfl) rfl ?_
    refine g_if_eq (tgt := 63) (kdX6_faultOfLine 29 rfl) (by decide) (fun _ => ?_) (fun _ => ?_)
    · exact g_fgt [0] rfl (h63 m)
    · refine g_aload_n 0 (kdX6_faultOfLine 30 rfl) rfl ?_
      refine g_calI (ck_V (As := []) (S := []) (t := 1) (o := 0) (kdX6_faultOfLine 31 rfl) iX6_readClause lX6_58 rc_1 rfl rfl rfl (by decide) (by simp only [List.map, vcat, List.sum_cons, List.sum_nil]; decide)) (CX6_readClause m) (fun x7 m6 => ?_)
      refine g_istore_n (L2 := [(1, .inl x7), (0, .inr (.inr (1, 0))), (2, .inl v2)]) (kdX6_faultOfLine 32 rfl) rfl (by decide) ?_
      refine g_iinc (v := v2 + 1) (L2 := [(2, .inl (v2 + 1)), (1, .inl x7), (0, .inr (.inr (1, 0)))]) 2 (kdX6_faultOfLine 33 rfl) rfl rfl rfl (by decide) ?_
      refine g_goto (tgt := 42) (kdX6_faultOfLine 34 rfl) (by decide) ?_
      exact g_fgt [2, 1, 0] rfl (h42 x7 (v2 + 1) m6)
def JX6_faultOfLine_42 (K63 : hM → hR) : Nat → Int32 → Int32 → hM → hR
  | 0, _, _, _ => none
  | f + 1, v1, v2, m => bJX6_faultOfLine_42 (fun v1 v2 m => JX6_faultOfLine_42 K63  f v1 v2 m) K63  v1 v2 m
theorem BJX6_faultOfLine_42 (K63 : hM → hR) (h63 : ∀ (m : hM), G mX6_faultOfLine 7 63 [(0, .inr (.inr (1, 0)))] [] m (K63 m)) : ∀ (f : Nat) (v1 : Int32) (v2 : Int32) (m : hM), G mX6_faultOfLine 7 42 [(0, .inr (.inr (1, 0))), (1, .inl v1), (2, .inl v2)] [] m (JX6_faultOfLine_42 K63  f v1 v2 m)
  | 0, _, _, _ => g_none
  | f + 1, v1, v2, m => BbJX6_faultOfLine_42  _ K63  (fun v1 v2 m => BJX6_faultOfLine_42  K63  h63 f v1 v2 m) h63 v1 v2 m
def JX6_faultOfLine_63 (m : hM) : hR :=
  if (m.1 1 0 6) = (-1) then (calI (JX4_pulseLength 1 m) fun x10 m9 =>
  if x10 = 0 then (stI m9 1 0 6 (m9.1 1 0 4) fun m11 =>
  some (some (.inl (m11.1 1 0 6)), m11)) else (some (some (.inl (m9.1 1 0 6)), m9))) else (some (some (.inl (m.1 1 0 6)), m))
set_option maxRecDepth 20000 in
theorem BX6_faultOfLine_63 (m : hM) : G mX6_faultOfLine 7 63 [(0, .inr (.inr (1, 0)))] [] m (JX6_faultOfLine_63 m) := by
  unfold JX6_faultOfLine_63
  refine g_aload_n 0 (kdX6_faultOfLine 35 rfl) rfl ?_
  refine g_get (v := .inl (m.1 1 0 6)) (kdX6_faultOfLine 36 rfl) fX6_52 rfl ?_
  refine g_iconst (v := (-1)) (kdX6_faultOfLine 37 rfl) (by decide) ?_
  refine g_icmp_ne (tgt := 89) (kdX6_faultOfLine 38 rfl) (by decide) (fun _ => ?_) (fun _ => ?_)
  · refine g_aload_n 0 (kdX6_faultOfLine 47 rfl) rfl ?_
    refine g_get (v := .inl (m.1 1 0 6)) (kdX6_faultOfLine 48 rfl) fX6_52 rfl ?_
    exact g_iret rfl (kdX6_faultOfLine 49 rfl)
  · refine g_aload_n 0 (kdX6_faultOfLine 39 rfl) rfl ?_
    refine g_get (v := .inr (.inr (4, 1))) (kdX6_faultOfLine 40 rfl) fX6_22 rfl ?_
    refine g_calI (ck_V (As := []) (S := []) (t := 4) (o := 1) (kdX6_faultOfLine 41 rfl) iX4_pulseLength lX6_62 rc_4 rfl rfl rfl (by decide) (by simp only [List.map, vcat, List.sum_cons, List.sum_nil]; decide)) (CX4_pulseLength 1 m) (fun x10 m9 => ?_)
    refine g_if_ne (tgt := 89) (kdX6_faultOfLine 42 rfl) (by decide) (fun _ => ?_) (fun _ => ?_)
    · refine g_aload_n 0 (kdX6_faultOfLine 47 rfl) rfl ?_
      refine g_get (v := .inl (m9.1 1 0 6)) (kdX6_faultOfLine 48 rfl) fX6_52 rfl ?_
      exact g_iret rfl (kdX6_faultOfLine 49 rfl)
    · refine g_aload_n 0 (kdX6_faultOfLine 43 rfl) rfl ?_
      refine g_aload_n 0 (kdX6_faultOfLine 44 rfl) rfl ?_
      refine g_get (v := .inl (m9.1 1 0 4)) (kdX6_faultOfLine 45 rfl) fX6_37 rfl ?_
      refine g_putI (kdX6_faultOfLine 46 rfl) fX6_52 rfl (fun m11 => ?_)
      refine g_aload_n 0 (kdX6_faultOfLine 47 rfl) rfl ?_
      refine g_get (v := .inl (m11.1 1 0 6)) (kdX6_faultOfLine 48 rfl) fX6_52 rfl ?_
      exact g_iret rfl (kdX6_faultOfLine 49 rfl)
def JX6_faultOfLine  (m : hM) : hR :=
  stI m 1 0 5 0 fun m1 =>
  stI m1 1 0 6 (-1) fun m2 =>
  calV (JX4_reset 1 m2) fun m3 =>
  JX6_faultOfLine_19 (fun m5 => JX6_faultOfLine_42 (fun m8 => JX6_faultOfLine_63 m8)  FU 1 0 m5)  FU 0 m3
set_option maxRecDepth 20000 in
theorem CX6_faultOfLine  (m : hM) : Cn mX6_faultOfLine 7 [.inr (.inr (1, 0))] m (JX6_faultOfLine  m) := by
  refine cn_of (by decide +kernel) (by simp only [List.map, vcat, List.sum_cons, List.sum_nil]; decide) ?_
  unfold JX6_faultOfLine
  show G mX6_faultOfLine 7 0 [(0, .inr (.inr (1, 0)))] [] m _
  refine g_aload_n 0 (kdX6_faultOfLine 0 rfl) rfl ?_
  refine g_iconst (v := 0) (kdX6_faultOfLine 1 rfl) (by decide) ?_
  refine g_putI (kdX6_faultOfLine 2 rfl) fX6_49 rfl (fun m1 => ?_)
  refine g_aload_n 0 (kdX6_faultOfLine 3 rfl) rfl ?_
  refine g_iconst (v := (-1)) (kdX6_faultOfLine 4 rfl) (by decide) ?_
  refine g_putI (kdX6_faultOfLine 5 rfl) fX6_52 rfl (fun m2 => ?_)
  refine g_aload_n 0 (kdX6_faultOfLine 6 rfl) rfl ?_
  refine g_get (v := .inr (.inr (4, 1))) (kdX6_faultOfLine 7 rfl) fX6_22 rfl ?_
  refine g_calV (ck_V (As := []) (S := []) (t := 4) (o := 1) (kdX6_faultOfLine 8 rfl) iX4_reset lX6_55 rc_4 rfl rfl rfl (by decide) (by simp only [List.map, vcat, List.sum_cons, List.sum_nil]; decide)) (CX4_reset 1 m2) (fun m3 => ?_)
  refine g_iconst (v := 0) (kdX6_faultOfLine 9 rfl) (by decide) ?_
  refine g_istore_n (L2 := [(1, .inl 0), (0, .inr (.inr (1, 0)))]) (kdX6_faultOfLine 10 rfl) rfl (by decide) ?_
  refine g_fgt [1, 0] rfl (BJX6_faultOfLine_19  _  ?_ FU 0 m3)
  · intro m5
    refine g_iconst (v := 1) (kdX6_faultOfLine 21 rfl) (by decide) ?_
    refine g_istore_n (L2 := [(1, .inl 1), (0, .inr (.inr (1, 0)))]) (kdX6_faultOfLine 22 rfl) rfl (by decide) ?_
    refine g_iconst (v := 0) (kdX6_faultOfLine 23 rfl) (by decide) ?_
    refine g_istore_n (L2 := [(2, .inl 0), (1, .inl 1), (0, .inr (.inr (1, 0)))]) (kdX6_faultOfLine 24 rfl) rfl (by decide) ?_
    refine g_fgt [2, 1, 0] rfl (BJX6_faultOfLine_42  _  ?_ FU 1 0 m5)
    · intro m8
      exact g_fgt [0] rfl (BX6_faultOfLine_63 m8)
def bJX6_stepHere_7 (K7 : Int32 → hM → hR) (K31 : Int32 → hM → hR) (K39 : hM → hR) (v1 : Int32) (v2 : Int32) (m : hM) : hR :=
  if 8 ≤ v2 then (K39 m) else (eal 8 v2 fun j3 =>
  calI (JX6_stands_S j3 v1 m) fun x5 m4 =>
  if x5 = 0 then (K7 (v2 + 1) m4) else (K31 v2 m4))
set_option maxRecDepth 20000 in
theorem BbJX6_stepHere_7 (K7 : Int32 → hM → hR) (K31 : Int32 → hM → hR) (K39 : hM → hR) (v1 : Int32) (h7 : ∀ (v2 : Int32) (m : hM), G mX6_stepHere 5 7 [(0, .inr (.inr (1, 0))), (1, .inl v1), (2, .inl v2)] [] m (K7 v2 m)) (h31 : ∀ (v2 : Int32) (m : hM), G mX6_stepHere 5 31 [(2, .inl v2)] [] m (K31 v2 m)) (h39 : ∀ (m : hM), G mX6_stepHere 5 39 [] [] m (K39 m)) (v2 : Int32) (m : hM) : G mX6_stepHere 5 7 [(0, .inr (.inr (1, 0))), (1, .inl v1), (2, .inl v2)] [] m (bJX6_stepHere_7 K7 K31 K39 v1 v2 m) := by
  unfold bJX6_stepHere_7
  refine g_iload_n 2 (kdX6_stepHere 5 rfl) rfl ?_
  refine g_gsS (kdX6_stepHere 6 rfl) sX6_126 ?_
  refine g_elenS (kdX6_stepHere 7 rfl) ?_
  refine g_icmp_ge (tgt := 39) (kdX6_stepHere 8 rfl) (by decide) (fun _ => ?_) (fun _ => ?_)
  · exact g_fgt [] rfl (h39 m)
  · refine g_aload_n 0 (kdX6_stepHere 9 rfl) rfl ?_
    refine g_gsS (kdX6_stepHere 10 rfl) sX6_126 ?_
    refine g_iload_n 2 (kdX6_stepHere 11 rfl) rfl ?_
    refine g_ealdS (kdX6_stepHere 12 rfl) (fun j3 => ?_)
    refine g_gwS (kdX6_stepHere 13 rfl) sX6_134 ?_
    refine g_iload_n 1 (kdX6_stepHere 14 rfl) rfl ?_
    refine g_calI (ck_V (As := [.inr (.inr (105, j3)), .inl v1]) (S := []) (t := 1) (o := 0) (kdX6_stepHere 15 rfl) iX6_stands lX6_163 rc_1 rfl rfl rfl (by decide) (by simp only [List.map, vcat, List.sum_cons, List.sum_nil]; decide)) (CX6_stands_S j3 v1 m) (fun x5 m4 => ?_)
    refine g_if_eq (tgt := 33) (kdX6_stepHere 16 rfl) (by decide) (fun _ => ?_) (fun _ => ?_)
    · refine g_iinc (v := v2 + 1) (L2 := [(2, .inl (v2 + 1)), (0, .inr (.inr (1, 0))), (1, .inl v1)]) 2 (kdX6_stepHere 19 rfl) rfl rfl rfl (by decide) ?_
      refine g_goto (tgt := 7) (kdX6_stepHere 20 rfl) (by decide) ?_
      exact g_fgt [1, 2, 0] rfl (h7 (v2 + 1) m4)
    · exact g_fgt [2] rfl (h31 v2 m4)
def JX6_stepHere_7 (K31 : Int32 → hM → hR) (K39 : hM → hR) (v1 : Int32) : Nat → Int32 → hM → hR
  | 0, _, _ => none
  | f + 1, v2, m => bJX6_stepHere_7 (fun v2 m => JX6_stepHere_7 K31 K39 v1 f v2 m) K31 K39 v1 v2 m
theorem BJX6_stepHere_7 (K31 : Int32 → hM → hR) (K39 : hM → hR) (v1 : Int32) (h31 : ∀ (v2 : Int32) (m : hM), G mX6_stepHere 5 31 [(2, .inl v2)] [] m (K31 v2 m)) (h39 : ∀ (m : hM), G mX6_stepHere 5 39 [] [] m (K39 m)) : ∀ (f : Nat) (v2 : Int32) (m : hM), G mX6_stepHere 5 7 [(0, .inr (.inr (1, 0))), (1, .inl v1), (2, .inl v2)] [] m (JX6_stepHere_7 K31 K39 v1 f v2 m)
  | 0, _, _ => g_none
  | f + 1, v2, m => BbJX6_stepHere_7  _ K31 K39 v1 (fun v2 m => BJX6_stepHere_7  K31 K39 v1 h31 h39 f v2 m) h31 h39 v2 m
def JX6_stepHere  (m : hM) : hR :=
  calI (JX6_endOfLetters m) fun x2 m1 =>
  JX6_stepHere_7 (fun v2 m6 => some (some (.inl v2), m6)) (fun m7 => some (some (.inl (-1)), m7)) x2 FU 0 m1
set_option maxRecDepth 20000 in
theorem CX6_stepHere  (m : hM) : Cn mX6_stepHere 5 [.inr (.inr (1, 0))] m (JX6_stepHere  m) := by
  refine cn_of (by decide +kernel) (by simp only [List.map, vcat, List.sum_cons, List.sum_nil]; decide) ?_
  unfold JX6_stepHere
  show G mX6_stepHere 5 0 [(0, .inr (.inr (1, 0)))] [] m _
  refine g_aload_n 0 (kdX6_stepHere 0 rfl) rfl ?_
  refine g_calI (ck_V (As := []) (S := []) (t := 1) (o := 0) (kdX6_stepHere 1 rfl) iX6_endOfLetters lX6_160 rc_1 rfl rfl rfl (by decide) (by simp only [List.map, vcat, List.sum_cons, List.sum_nil]; decide)) (CX6_endOfLetters m) (fun x2 m1 => ?_)
  refine g_istore_n (L2 := [(1, .inl x2), (0, .inr (.inr (1, 0)))]) (kdX6_stepHere 2 rfl) rfl (by decide) ?_
  refine g_iconst (v := 0) (kdX6_stepHere 3 rfl) (by decide) ?_
  refine g_istore_n (L2 := [(2, .inl 0), (1, .inl x2), (0, .inr (.inr (1, 0)))]) (kdX6_stepHere 4 rfl) rfl (by decide) ?_
  refine g_fgt [2, 1, 0] rfl (BJX6_stepHere_7  _ _ x2 ?_ ?_ FU 0 m1)
  · intro v2 m6
    refine g_iload_n 0 (kdX6_stepHere 17 rfl) rfl ?_
    exact g_iret rfl (kdX6_stepHere 18 rfl)
  · intro m7
    refine g_iconst (v := (-1)) (kdX6_stepHere 21 rfl) (by decide) ?_
    exact g_iret rfl (kdX6_stepHere 22 rfl)
def JX6_readStep_21 (m : hM) : hR :=
  calI (JX6_refuseAt (m.1 1 0 5) m) fun x5 m4 =>
  jretZ x5 m4
set_option maxRecDepth 20000 in
theorem BX6_readStep_21 (m : hM) : G mX6_readStep 6 21 [(0, .inr (.inr (1, 0)))] [] m (JX6_readStep_21 m) := by
  unfold JX6_readStep_21
  refine g_aload_n 0 (kdX6_readStep 11 rfl) rfl ?_
  refine g_aload_n 0 (kdX6_readStep 12 rfl) rfl ?_
  refine g_get (v := .inl (m.1 1 0 5)) (kdX6_readStep 13 rfl) fX6_49 rfl ?_
  refine g_calI (ck_V (As := [.inl (m.1 1 0 5)]) (S := []) (t := 1) (o := 0) (kdX6_readStep 14 rfl) iX6_refuseAt lX6_88 rc_1 rfl rfl rfl (by decide) (by simp only [List.map, vcat, List.sum_cons, List.sum_nil]; decide)) (CX6_refuseAt (m.1 1 0 5) m) (fun x5 m4 => ?_)
  exact g_zret rfl (kdX6_readStep 15 rfl)
def JX6_readStep_92 (K62 : Int32 → hM → hR) (K83 : hM → hR) (K109 : hM → hR) (K129 : hM → hR) (w2 : Nat) (v3 : Int32) (m : hM) : hR :=
  calI (JX9_lowOf w2 v3 m) fun x12 m11 =>
  calI (JX9_highOf w2 v3 m11) fun x14 m13 =>
  calI (JX6_readNumber x12 x14 m13) fun x16 m15 =>
  if x16 = 0 then (K109 m15) else (calV (JX7_put 4 v3 (m15.1 1 0 7) m15) fun m17 =>
  K62 (v3 + 1) m17)
set_option maxRecDepth 20000 in
theorem BX6_readStep_92 (w2 : Nat) (K62 : Int32 → hM → hR) (K83 : hM → hR) (K109 : hM → hR) (K129 : hM → hR) (h62 : ∀ (v3 : Int32) (m : hM), G mX6_readStep 6 62 [(0, .inr (.inr (1, 0))), (2, .inr (.inr (104, w2))), (3, .inl v3)] [] m (K62 v3 m)) (h83 : ∀ (m : hM), G mX6_readStep 6 83 [(0, .inr (.inr (1, 0)))] [] m (K83 m)) (h109 : ∀ (m : hM), G mX6_readStep 6 109 [] [] m (K109 m)) (h129 : ∀ (m : hM), G mX6_readStep 6 129 [] [] m (K129 m)) (v3 : Int32) (m : hM) : G mX6_readStep 6 92 [(0, .inr (.inr (1, 0))), (2, .inr (.inr (104, w2))), (3, .inl v3)] [] m (JX6_readStep_92 K62 K83 K109 K129 w2 v3 m) := by
  unfold JX6_readStep_92
  refine g_aload_n 0 (kdX6_readStep 49 rfl) rfl ?_
  refine g_aload_n 1 (kdX6_readStep 50 rfl) rfl ?_
  refine g_iload_n 2 (kdX6_readStep 51 rfl) rfl ?_
  refine g_calI (ck_V (As := [.inl v3]) (S := [.inr (.inr (1, 0))]) (t := 104) (o := w2) (kdX6_readStep 52 rfl) iX9_lowOf lX6_138 rc_104 rfl rfl rfl (by decide) (by simp only [List.map, vcat, List.sum_cons, List.sum_nil]; decide)) (CX9_lowOf w2 v3 m) (fun x12 m11 => ?_)
  refine g_aload_n 1 (kdX6_readStep 53 rfl) rfl ?_
  refine g_iload_n 2 (kdX6_readStep 54 rfl) rfl ?_
  refine g_calI (ck_V (As := [.inl v3]) (S := [.inl x12, .inr (.inr (1, 0))]) (t := 104) (o := w2) (kdX6_readStep 55 rfl) iX9_highOf lX6_141 rc_104 rfl rfl rfl (by decide) (by simp only [List.map, vcat, List.sum_cons, List.sum_nil]; decide)) (CX9_highOf w2 v3 m11) (fun x14 m13 => ?_)
  refine g_calI (ck_V (As := [.inl x12, .inl x14]) (S := []) (t := 1) (o := 0) (kdX6_readStep 56 rfl) iX6_readNumber lX6_109 rc_1 rfl rfl rfl (by decide) (by simp only [List.map, vcat, List.sum_cons, List.sum_nil]; decide)) (CX6_readNumber x12 x14 m13) (fun x16 m15 => ?_)
  refine g_if_ne (tgt := 111) (kdX6_readStep 57 rfl) (by decide) (fun _ => ?_) (fun _ => ?_)
  · refine g_aload_n 0 (kdX6_readStep 60 rfl) rfl ?_
    refine g_get (v := .inr (.inr (8, 4))) (kdX6_readStep 61 rfl) fX6_29 rfl ?_
    refine g_iload_n 2 (kdX6_readStep 62 rfl) rfl ?_
    refine g_aload_n 0 (kdX6_readStep 63 rfl) rfl ?_
    refine g_get (v := .inl (m15.1 1 0 7)) (kdX6_readStep 64 rfl) fX6_113 rfl ?_
    refine g_calV (ck_V (As := [.inl v3, .inl (m15.1 1 0 7)]) (S := []) (t := 8) (o := 4) (kdX6_readStep 65 rfl) iX7_put lX6_144 rc_8 rfl rfl rfl (by decide) (by simp only [List.map, vcat, List.sum_cons, List.sum_nil]; decide)) (CX7_put 4 v3 (m15.1 1 0 7) m15) (fun m17 => ?_)
    refine g_iinc (v := v3 + 1) (L2 := [(3, .inl (v3 + 1)), (0, .inr (.inr (1, 0))), (2, .inr (.inr (104, w2)))]) 2 (kdX6_readStep 66 rfl) rfl rfl rfl (by decide) ?_
    refine g_goto (tgt := 62) (kdX6_readStep 67 rfl) (by decide) ?_
    exact g_fgt [1, 2, 0] rfl (h62 (v3 + 1) m17)
  · exact g_fgt [] rfl (h109 m15)
def bJX6_readStep_62 (K62 : Int32 → hM → hR) (K83 : hM → hR) (K109 : hM → hR) (K129 : hM → hR) (w2 : Nat) (v3 : Int32) (m : hM) : hR :=
  if (sk_numbers.getD w2 0) ≤ v3 then (K129 m) else (if v3 ≤ 0 then (JX6_readStep_92 K62 K83 K109 K129 w2 v3 m) else (calI (JX6_passByte 44 m) fun x19 m18 =>
  if x19 = 0 then (K83 m18) else (JX6_readStep_92 K62 K83 K109 K129 w2 v3 m18)))
set_option maxRecDepth 20000 in
theorem BbJX6_readStep_62 (K62 : Int32 → hM → hR) (K83 : hM → hR) (K109 : hM → hR) (K129 : hM → hR) (w2 : Nat) (h62 : ∀ (v3 : Int32) (m : hM), G mX6_readStep 6 62 [(0, .inr (.inr (1, 0))), (2, .inr (.inr (104, w2))), (3, .inl v3)] [] m (K62 v3 m)) (h83 : ∀ (m : hM), G mX6_readStep 6 83 [(0, .inr (.inr (1, 0)))] [] m (K83 m)) (h109 : ∀ (m : hM), G mX6_readStep 6 109 [] [] m (K109 m)) (h129 : ∀ (m : hM), G mX6_readStep 6 129 [] [] m (K129 m)) (v3 : Int32) (m : hM) : G mX6_readStep 6 62 [(0, .inr (.inr (1, 0))), (2, .inr (.inr (104, w2))), (3, .inl v3)] [] m (bJX6_readStep_62 K62 K83 K109 K129 w2 v3 m) := by
  unfold bJX6_readStep_62
  refine g_iload_n 2 (kdX6_readStep 34 rfl) rfl ?_
  refine g_aload_n 1 (kdX6_readStep 35 rfl) rfl ?_
  refine g_giS (nm := "numbers") (l := sk_numbers) (kdX6_readStep 36 rfl) sX6_135 (by simp) ?_
  refine g_icmp_ge (tgt := 129) (kdX6_readStep 37 rfl) (by decide) (fun _ => ?_) (fun _ => ?_)
  · exact g_fgt [] rfl (h129 m)
  · refine g_iload_n 2 (kdX6_readStep 38 rfl) rfl ?_
    refine g_if_le (tgt := 92) (kdX6_readStep 39 rfl) (by decide) (fun _ => ?_) (fun _ => ?_)
    · exact g_fgt [0, 1, 2] rfl (BX6_readStep_92 w2 _ _ _ _ h62 h83 h109 h129 v3 m)
    · refine g_aload_n 0 (kdX6_readStep 40 rfl) rfl ?_
      refine g_bipush (v := 44) (kdX6_readStep 41 rfl) (by decide) ?_
      refine g_calI (ck_V (As := [.inl 44]) (S := []) (t := 1) (o := 0) (kdX6_readStep 42 rfl) iX6_passByte lX6_120 rc_1 rfl rfl rfl (by decide) (by simp only [List.map, vcat, List.sum_cons, List.sum_nil]; decide)) (CX6_passByte 44 m) (fun x19 m18 => ?_)
      refine g_if_ne (tgt := 92) (kdX6_readStep 43 rfl) (by decide) (fun _ => ?_) (fun _ => ?_)
      · exact g_fgt [0, 1, 2] rfl (BX6_readStep_92 w2 _ _ _ _ h62 h83 h109 h129 v3 m18)
      · exact g_fgt [0] rfl (h83 m18)
def JX6_readStep_62 (K83 : hM → hR) (K109 : hM → hR) (K129 : hM → hR) (w2 : Nat) : Nat → Int32 → hM → hR
  | 0, _, _ => none
  | f + 1, v3, m => bJX6_readStep_62 (fun v3 m => JX6_readStep_62 K83 K109 K129 w2 f v3 m) K83 K109 K129 w2 v3 m
theorem BJX6_readStep_62 (K83 : hM → hR) (K109 : hM → hR) (K129 : hM → hR) (w2 : Nat) (h83 : ∀ (m : hM), G mX6_readStep 6 83 [(0, .inr (.inr (1, 0)))] [] m (K83 m)) (h109 : ∀ (m : hM), G mX6_readStep 6 109 [] [] m (K109 m)) (h129 : ∀ (m : hM), G mX6_readStep 6 129 [] [] m (K129 m)) : ∀ (f : Nat) (v3 : Int32) (m : hM), G mX6_readStep 6 62 [(0, .inr (.inr (1, 0))), (2, .inr (.inr (104, w2))), (3, .inl v3)] [] m (JX6_readStep_62 K83 K109 K129 w2 f v3 m)
  | 0, _, _ => g_none
  | f + 1, v3, m => BbJX6_readStep_62  _ K83 K109 K129 w2 (fun v3 m => BJX6_readStep_62  K83 K109 K129 w2 h83 h109 h129 f v3 m) h83 h109 h129 v3 m
def JX6_readStep  (m : hM) : hR :=
  calV (JX6_skipBlanks m) fun m1 =>
  calI (JX6_stepHere m1) fun x3 m2 =>
  if x3 < 0 then (JX6_readStep_21 m2) else (if x3 < 8 then (eal 8 x3 fun j6 =>
  calV (JX7_open 4 x3 m2) fun m7 =>
  calI (JJ0_length_8abf5_S j6 m7) fun x9 m8 =>
  stI m8 1 0 5 ((m7.1 1 0 5) + x9) fun m10 =>
  JX6_readStep_62 (fun m20 => calI (JX6_refuseAt (m20.1 1 0 5) m20) fun x22 m21 =>
  jretZ x22 m21) (fun m23 => jretZ 0 m23) (fun m24 => jretZ 1 m24) j6 FU 0 m10) else (JX6_readStep_21 m2))
set_option maxRecDepth 20000 in
theorem CX6_readStep  (m : hM) : Cn mX6_readStep 6 [.inr (.inr (1, 0))] m (JX6_readStep  m) := by
  refine cn_of (by decide +kernel) (by simp only [List.map, vcat, List.sum_cons, List.sum_nil]; decide) ?_
  unfold JX6_readStep
  show G mX6_readStep 6 0 [(0, .inr (.inr (1, 0)))] [] m _
  refine g_aload_n 0 (kdX6_readStep 0 rfl) rfl ?_
  refine g_calV (ck_V (As := []) (S := []) (t := 1) (o := 0) (kdX6_readStep 1 rfl) iX6_skipBlanks lX6_76 rc_1 rfl rfl rfl (by decide) (by simp only [List.map, vcat, List.sum_cons, List.sum_nil]; decide)) (CX6_skipBlanks m) (fun m1 => ?_)
  refine g_aload_n 0 (kdX6_readStep 2 rfl) rfl ?_
  refine g_calI (ck_V (As := []) (S := []) (t := 1) (o := 0) (kdX6_readStep 3 rfl) iX6_stepHere lX6_123 rc_1 rfl rfl rfl (by decide) (by simp only [List.map, vcat, List.sum_cons, List.sum_nil]; decide)) (CX6_stepHere m1) (fun x3 m2 => ?_)
  refine g_istore_n (L2 := [(1, .inl x3), (0, .inr (.inr (1, 0)))]) (kdX6_readStep 4 rfl) rfl (by decide) ?_
  refine g_iload_n 0 (kdX6_readStep 5 rfl) rfl ?_
  refine g_if_lt (tgt := 21) (kdX6_readStep 6 rfl) (by decide) (fun _ => ?_) (fun _ => ?_)
  · exact g_fgt [1] rfl (BX6_readStep_21 m2)
  · refine g_iload_n 0 (kdX6_readStep 7 rfl) rfl ?_
    refine g_gsS (kdX6_readStep 8 rfl) sX6_126 ?_
    refine g_elenS (kdX6_readStep 9 rfl) ?_
    refine g_icmp_lt (tgt := 30) (kdX6_readStep 10 rfl) (by decide) (fun _ => ?_) (fun _ => ?_)
    · refine g_gsS (kdX6_readStep 16 rfl) sX6_126 ?_
      refine g_iload_n 0 (kdX6_readStep 17 rfl) rfl ?_
      refine g_ealdS (kdX6_readStep 18 rfl) (fun j6 => ?_)
      refine g_astore_n (L2 := [(2, .inr (.inr (104, j6))), (1, .inl x3), (0, .inr (.inr (1, 0)))]) (kdX6_readStep 19 rfl) rfl (by decide) ?_
      refine g_aload_n 2 (kdX6_readStep 20 rfl) rfl ?_
      refine g_get (v := .inr (.inr (8, 4))) (kdX6_readStep 21 rfl) fX6_29 rfl ?_
      refine g_iload_n 1 (kdX6_readStep 22 rfl) rfl ?_
      refine g_calV (ck_V (As := [.inl x3]) (S := []) (t := 8) (o := 4) (kdX6_readStep 23 rfl) iX7_open lX6_131 rc_8 rfl rfl rfl (by decide) (by simp only [List.map, vcat, List.sum_cons, List.sum_nil]; decide)) (CX7_open 4 x3 m2) (fun m7 => ?_)
      refine g_aload_n 2 (kdX6_readStep 24 rfl) rfl ?_
      refine g_dup (kdX6_readStep 25 rfl) rfl ?_
      refine g_get (v := .inl (m7.1 1 0 5)) (kdX6_readStep 26 rfl) fX6_49 rfl ?_
      refine g_aload_n 0 (kdX6_readStep 27 rfl) rfl ?_
      refine g_gwS (kdX6_readStep 28 rfl) sX6_134 ?_
      refine g_calI (ck_V (As := []) (S := [.inl (m7.1 1 0 5), .inr (.inr (1, 0))]) (t := 105) (o := j6) (kdX6_readStep 29 rfl) iJ0_length_8abf5 lX6_96 rc_105 rfl rfl rfl (by decide) (by simp only [List.map, vcat, List.sum_cons, List.sum_nil]; decide)) (CJ0_length_8abf5_S j6 m7) (fun x9 m8 => ?_)
      refine g_iadd (kdX6_readStep 30 rfl) ?_
      refine g_putI (kdX6_readStep 31 rfl) fX6_49 rfl (fun m10 => ?_)
      refine g_iconst (v := 0) (kdX6_readStep 32 rfl) (by decide) ?_
      refine g_istore_n (L2 := [(3, .inl 0), (2, .inr (.inr (104, j6))), (1, .inl x3), (0, .inr (.inr (1, 0)))]) (kdX6_readStep 33 rfl) rfl (by decide) ?_
      refine g_fgt [3, 1, 0] rfl (BJX6_readStep_62  _ _ _ j6 ?_ ?_ ?_ FU 0 m10)
      · intro m20
        refine g_aload_n 0 (kdX6_readStep 44 rfl) rfl ?_
        refine g_aload_n 0 (kdX6_readStep 45 rfl) rfl ?_
        refine g_get (v := .inl (m20.1 1 0 5)) (kdX6_readStep 46 rfl) fX6_49 rfl ?_
        refine g_calI (ck_V (As := [.inl (m20.1 1 0 5)]) (S := []) (t := 1) (o := 0) (kdX6_readStep 47 rfl) iX6_refuseAt lX6_88 rc_1 rfl rfl rfl (by decide) (by simp only [List.map, vcat, List.sum_cons, List.sum_nil]; decide)) (CX6_refuseAt (m20.1 1 0 5) m20) (fun x22 m21 => ?_)
        exact g_zret rfl (kdX6_readStep 48 rfl)
      · intro m23
        refine g_iconst (v := 0) (kdX6_readStep 58 rfl) (by decide) ?_
        exact g_zret rfl (kdX6_readStep 59 rfl)
      · intro m24
        refine g_iconst (v := 1) (kdX6_readStep 68 rfl) (by decide) ?_
        exact g_zret rfl (kdX6_readStep 69 rfl)
    · exact g_fgt [1] rfl (BX6_readStep_21 m2)
def JX6_faultOfScript_64 (K22 : Int32 → Int32 → hM → hR) (K71 : hM → hR) (v2 : Int32) (v100 : Int32) (m : hM) : hR :=
  K22 v100 (v2 + 1) m
set_option maxRecDepth 20000 in
theorem BX6_faultOfScript_64 (K22 : Int32 → Int32 → hM → hR) (K71 : hM → hR) (h22 : ∀ (v1 : Int32) (v2 : Int32) (m : hM), G mX6_faultOfScript 7 22 [(0, .inr (.inr (1, 0))), (1, .inl v1), (2, .inl v2)] [] m (K22 v1 v2 m)) (h71 : ∀ (m : hM), G mX6_faultOfScript 7 71 [(0, .inr (.inr (1, 0)))] [] m (K71 m)) (v2 : Int32) (v100 : Int32) (m : hM) : G mX6_faultOfScript 7 64 [(0, .inr (.inr (1, 0))), (2, .inl v2)] [.inl v100] m (JX6_faultOfScript_64 K22 K71 v2 v100 m) := by
  unfold JX6_faultOfScript_64
  refine g_istore_n (L2 := [(1, .inl v100), (0, .inr (.inr (1, 0))), (2, .inl v2)]) (kdX6_faultOfScript 36 rfl) rfl (by decide) ?_
  refine g_iinc (v := v2 + 1) (L2 := [(2, .inl (v2 + 1)), (1, .inl v100), (0, .inr (.inr (1, 0)))]) 2 (kdX6_faultOfScript 37 rfl) rfl rfl rfl (by decide) ?_
  refine g_goto (tgt := 22) (kdX6_faultOfScript 38 rfl) (by decide) ?_
  exact g_fgt [2, 1, 0] rfl (h22 v100 (v2 + 1) m)
def JX6_faultOfScript_63 (K22 : Int32 → Int32 → hM → hR) (K71 : hM → hR) (v2 : Int32) (m : hM) : hR :=
  JX6_faultOfScript_64 K22 K71 v2 0 m
set_option maxRecDepth 20000 in
theorem BX6_faultOfScript_63 (K22 : Int32 → Int32 → hM → hR) (K71 : hM → hR) (h22 : ∀ (v1 : Int32) (v2 : Int32) (m : hM), G mX6_faultOfScript 7 22 [(0, .inr (.inr (1, 0))), (1, .inl v1), (2, .inl v2)] [] m (K22 v1 v2 m)) (h71 : ∀ (m : hM), G mX6_faultOfScript 7 71 [(0, .inr (.inr (1, 0)))] [] m (K71 m)) (v2 : Int32) (m : hM) : G mX6_faultOfScript 7 63 [(0, .inr (.inr (1, 0))), (2, .inl v2)] [] m (JX6_faultOfScript_63 K22 K71 v2 m) := by
  unfold JX6_faultOfScript_63
  refine g_iconst (v := 0) (kdX6_faultOfScript 35 rfl) (by decide) ?_
  exact g_fgt [0, 1] rfl (BX6_faultOfScript_64 _ _ h22 h71 v2 0 m)
def JX6_faultOfScript_53 (K22 : Int32 → Int32 → hM → hR) (K71 : hM → hR) (v2 : Int32) (v100 : Int32) (m : hM) : hR :=
  calI (JX6_passMark v100 m) fun x7 m6 =>
  if x7 = 0 then (JX6_faultOfScript_63 K22 K71 v2 m6) else (JX6_faultOfScript_64 K22 K71 v2 1 m6)
set_option maxRecDepth 20000 in
theorem BX6_faultOfScript_53 (K22 : Int32 → Int32 → hM → hR) (K71 : hM → hR) (h22 : ∀ (v1 : Int32) (v2 : Int32) (m : hM), G mX6_faultOfScript 7 22 [(0, .inr (.inr (1, 0))), (1, .inl v1), (2, .inl v2)] [] m (K22 v1 v2 m)) (h71 : ∀ (m : hM), G mX6_faultOfScript 7 71 [(0, .inr (.inr (1, 0)))] [] m (K71 m)) (v2 : Int32) (v100 : Int32) (m : hM) : G mX6_faultOfScript 7 53 [(0, .inr (.inr (1, 0))), (2, .inl v2)] [.inl v100, .inr (.inr (1, 0))] m (JX6_faultOfScript_53 K22 K71 v2 v100 m) := by
  unfold JX6_faultOfScript_53
  refine g_calI (ck_V (As := [.inl v100]) (S := []) (t := 1) (o := 0) (kdX6_faultOfScript 31 rfl) iX6_passMark lX6_72 rc_1 rfl rfl rfl (by decide) (by simp only [List.map, vcat, List.sum_cons, List.sum_nil]; decide)) (CX6_passMark v100 m) (fun x7 m6 => ?_)
  refine g_if_eq (tgt := 63) (kdX6_faultOfScript 32 rfl) (by decide) (fun _ => ?_) (fun _ => ?_)
  · exact g_fgt [0, 1] rfl (BX6_faultOfScript_63 _ _ h22 h71 v2 m6)
  · refine g_iconst (v := 1) (kdX6_faultOfScript 33 rfl) (by decide) ?_
    refine g_goto (tgt := 64) (kdX6_faultOfScript 34 rfl) (by decide) ?_
    exact g_fgt [0, 1] rfl (BX6_faultOfScript_64 _ _ h22 h71 v2 1 m6)
def bJX6_faultOfScript_22 (K22 : Int32 → Int32 → hM → hR) (K71 : hM → hR) (v1 : Int32) (v2 : Int32) (m : hM) : hR :=
  if 12 ≤ v2 then (K71 m) else (if v1 = 0 then (K71 m) else (calI (JX6_readStep m) fun x5 m4 =>
  if x5 = 0 then (JX6_faultOfScript_63 K22 K71 v2 m4) else (if 12 ≤ (v2 + 1) then (JX6_faultOfScript_53 K22 K71 v2 0 m4) else (JX6_faultOfScript_53 K22 K71 v2 1 m4))))
set_option maxRecDepth 20000 in
theorem BbJX6_faultOfScript_22 (K22 : Int32 → Int32 → hM → hR) (K71 : hM → hR) (h22 : ∀ (v1 : Int32) (v2 : Int32) (m : hM), G mX6_faultOfScript 7 22 [(0, .inr (.inr (1, 0))), (1, .inl v1), (2, .inl v2)] [] m (K22 v1 v2 m)) (h71 : ∀ (m : hM), G mX6_faultOfScript 7 71 [(0, .inr (.inr (1, 0)))] [] m (K71 m)) (v1 : Int32) (v2 : Int32) (m : hM) : G mX6_faultOfScript 7 22 [(0, .inr (.inr (1, 0))), (1, .inl v1), (2, .inl v2)] [] m (bJX6_faultOfScript_22 K22 K71 v1 v2 m) := by
  unfold bJX6_faultOfScript_22
  refine g_iload_n 2 (kdX6_faultOfScript 14 rfl) rfl ?_
  refine g_bipush (v := 12) (kdX6_faultOfScript 15 rfl) (by decide) ?_
  refine g_icmp_ge (tgt := 71) (kdX6_faultOfScript 16 rfl) (by decide) (fun _ => ?_) (fun _ => ?_)
  · exact g_fgt [0] rfl (h71 m)
  · refine g_iload_n 1 (kdX6_faultOfScript 17 rfl) rfl ?_
    refine g_if_eq (tgt := 71) (kdX6_faultOfScript 18 rfl) (by decide) (fun _ => ?_) (fun _ => ?_)
    · exact g_fgt [0] rfl (h71 m)
    · refine g_aload_n 0 (kdX6_faultOfScript 19 rfl) rfl ?_
      refine g_calI (ck_V (As := []) (S := []) (t := 1) (o := 0) (kdX6_faultOfScript 20 rfl) iX6_readStep lX6_69 rc_1 rfl rfl rfl (by decide) (by simp only [List.map, vcat, List.sum_cons, List.sum_nil]; decide)) (CX6_readStep m) (fun x5 m4 => ?_)
      refine g_if_eq (tgt := 63) (kdX6_faultOfScript 21 rfl) (by decide) (fun _ => ?_) (fun _ => ?_)
      · exact g_fgt [0, 2] rfl (BX6_faultOfScript_63 _ _ h22 h71 v2 m4)
      · refine g_aload_n 0 (kdX6_faultOfScript 22 rfl) rfl ?_
        refine g_iload_n 2 (kdX6_faultOfScript 23 rfl) rfl ?_
        refine g_iconst (v := 1) (kdX6_faultOfScript 24 rfl) (by decide) ?_
        refine g_iadd (kdX6_faultOfScript 25 rfl) ?_
        refine g_bipush (v := 12) (kdX6_faultOfScript 26 rfl) (by decide) ?_
        refine g_icmp_ge (tgt := 52) (kdX6_faultOfScript 27 rfl) (by decide) (fun _ => ?_) (fun _ => ?_)
        · refine g_iconst (v := 0) (kdX6_faultOfScript 30 rfl) (by decide) ?_
          exact g_fgt [0, 2] rfl (BX6_faultOfScript_53 _ _ h22 h71 v2 0 m4)
        · refine g_iconst (v := 1) (kdX6_faultOfScript 28 rfl) (by decide) ?_
          refine g_goto (tgt := 53) (kdX6_faultOfScript 29 rfl) (by decide) ?_
          exact g_fgt [0, 2] rfl (BX6_faultOfScript_53 _ _ h22 h71 v2 1 m4)
def JX6_faultOfScript_22 (K71 : hM → hR) : Nat → Int32 → Int32 → hM → hR
  | 0, _, _, _ => none
  | f + 1, v1, v2, m => bJX6_faultOfScript_22 (fun v1 v2 m => JX6_faultOfScript_22 K71  f v1 v2 m) K71  v1 v2 m
theorem BJX6_faultOfScript_22 (K71 : hM → hR) (h71 : ∀ (m : hM), G mX6_faultOfScript 7 71 [(0, .inr (.inr (1, 0)))] [] m (K71 m)) : ∀ (f : Nat) (v1 : Int32) (v2 : Int32) (m : hM), G mX6_faultOfScript 7 22 [(0, .inr (.inr (1, 0))), (1, .inl v1), (2, .inl v2)] [] m (JX6_faultOfScript_22 K71  f v1 v2 m)
  | 0, _, _, _ => g_none
  | f + 1, v1, v2, m => BbJX6_faultOfScript_22  _ K71  (fun v1 v2 m => BJX6_faultOfScript_22  K71  h71 f v1 v2 m) h71 v1 v2 m
def JX6_faultOfScript  (m : hM) : hR :=
  stI m 1 0 5 0 fun m1 =>
  stI m1 1 0 6 (-1) fun m2 =>
  stI m2 8 4 3 0 fun m3 =>
  JX6_faultOfScript_22 (fun m8 => some (some (.inl (m8.1 1 0 6)), m8))  FU 1 0 m3
set_option maxRecDepth 20000 in
theorem CX6_faultOfScript  (m : hM) : Cn mX6_faultOfScript 7 [.inr (.inr (1, 0))] m (JX6_faultOfScript  m) := by
  refine cn_of (by decide +kernel) (by simp only [List.map, vcat, List.sum_cons, List.sum_nil]; decide) ?_
  unfold JX6_faultOfScript
  show G mX6_faultOfScript 7 0 [(0, .inr (.inr (1, 0)))] [] m _
  refine g_aload_n 0 (kdX6_faultOfScript 0 rfl) rfl ?_
  refine g_iconst (v := 0) (kdX6_faultOfScript 1 rfl) (by decide) ?_
  refine g_putI (kdX6_faultOfScript 2 rfl) fX6_49 rfl (fun m1 => ?_)
  refine g_aload_n 0 (kdX6_faultOfScript 3 rfl) rfl ?_
  refine g_iconst (v := (-1)) (kdX6_faultOfScript 4 rfl) (by decide) ?_
  refine g_putI (kdX6_faultOfScript 5 rfl) fX6_52 rfl (fun m2 => ?_)
  refine g_aload_n 0 (kdX6_faultOfScript 6 rfl) rfl ?_
  refine g_get (v := .inr (.inr (8, 4))) (kdX6_faultOfScript 7 rfl) fX6_29 rfl ?_
  refine g_iconst (v := 0) (kdX6_faultOfScript 8 rfl) (by decide) ?_
  refine g_putI (kdX6_faultOfScript 9 rfl) fX6_66 rfl (fun m3 => ?_)
  refine g_iconst (v := 1) (kdX6_faultOfScript 10 rfl) (by decide) ?_
  refine g_istore_n (L2 := [(1, .inl 1), (0, .inr (.inr (1, 0)))]) (kdX6_faultOfScript 11 rfl) rfl (by decide) ?_
  refine g_iconst (v := 0) (kdX6_faultOfScript 12 rfl) (by decide) ?_
  refine g_istore_n (L2 := [(2, .inl 0), (1, .inl 1), (0, .inr (.inr (1, 0)))]) (kdX6_faultOfScript 13 rfl) rfl (by decide) ?_
  refine g_fgt [2, 1, 0] rfl (BJX6_faultOfScript_22  _  ?_ FU 1 0 m3)
  · intro m8
    refine g_aload_n 0 (kdX6_faultOfScript 39 rfl) rfl ?_
    refine g_get (v := .inl (m8.1 1 0 6)) (kdX6_faultOfScript 40 rfl) fX6_52 rfl ?_
    exact g_iret rfl (kdX6_faultOfScript 41 rfl)
