abbrev mX11_undo : hMt := (yX11_undo, cX11_undo, 1, some .int)
def tX11_undo : hTb := [(0, .aload_n 0, 1, 1), (1, .getfield 168, 3, 4), (4, .ifCond .gt 5, 3, 7), (7, .iconst (-1), 1, 8), (8, .ireturn, 1, 9), (9, .aload_n 0, 1, 10), (10, .dup, 1, 11), (11, .getfield 168, 3, 14), (14, .iconst 1, 1, 15), (15, .isub, 1, 16), (16, .putfield 168, 3, 19), (19, .aload_n 0, 1, 20), (20, .getfield 32, 3, 23), (23, .aload_n 0, 1, 24), (24, .getfield 36, 3, 27), (27, .aload_n 0, 1, 28), (28, .aload_n 0, 1, 29), (29, .getfield 168, 3, 32), (32, .invokevirtual 189, 3, 35), (35, .aaload, 1, 36), (36, .invokevirtual 192, 3, 39), (39, .aload_n 0, 1, 40), (40, .getfield 168, 3, 43), (43, .ireturn, 1, 44)]
theorem ktX11_undo : TbOK mX11_undo tX11_undo := by
  unfold TbOK
  decide +kernel
theorem kdX11_undo (k : Nat) {pc : Nat} {i : Instr} {len nx : Nat} (hk : tX11_undo[k]? = some (pc, i, len, nx)) : Dc mX11_undo pc i len nx := dc_of ktX11_undo k hk
theorem iX11_undo : MiV mX11_undo := ⟨⟨gdw_of (i := 1102) (by decide +kernel) (by decide +kernel), gdw_of (i := 113) (by decide +kernel) (by decide +kernel), by decide, by decide, by decide⟩, gdw_of (i := 1100) (by decide +kernel) (by decide +kernel), gdw_of (i := 1101) (by decide +kernel) (by decide +kernel)⟩
abbrev mX11_image : hMt := (yX11_image, cX11_image, 1, some .int)
def tX11_image : hTb := [(0, .aload_n 0, 1, 1), (1, .getfield 106, 3, 4), (4, .ifCond .ne 5, 3, 7), (7, .iconst (-1), 1, 8), (8, .ireturn, 1, 9), (9, .aload_n 0, 1, 10), (10, .getfield 49, 3, 13), (13, .aload_n 0, 1, 14), (14, .getfield 32, 3, 17), (17, .invokevirtual 192, 3, 20), (20, .aload_n 0, 1, 21), (21, .getfield 52, 3, 24), (24, .aload_n 0, 1, 25), (25, .getfield 45, 3, 28), (28, .aload_n 0, 1, 29), (29, .getfield 32, 3, 32), (32, .getfield 153, 3, 35), (35, .invokevirtual 196, 3, 38), (38, .aload_n 0, 1, 39), (39, .iconst 1, 1, 40), (40, .putfield 200, 3, 43), (43, .aload_n 0, 1, 44), (44, .getfield 32, 3, 47), (47, .getfield 153, 3, 50), (50, .ireturn, 1, 51)]
theorem ktX11_image : TbOK mX11_image tX11_image := by
  unfold TbOK
  decide +kernel
theorem kdX11_image (k : Nat) {pc : Nat} {i : Instr} {len nx : Nat} (hk : tX11_image[k]? = some (pc, i, len, nx)) : Dc mX11_image pc i len nx := dc_of ktX11_image k hk
theorem iX11_image : MiV mX11_image := ⟨⟨gdw_of (i := 1106) (by decide +kernel) (by decide +kernel), gdw_of (i := 113) (by decide +kernel) (by decide +kernel), by decide, by decide, by decide⟩, gdw_of (i := 1104) (by decide +kernel) (by decide +kernel), gdw_of (i := 1105) (by decide +kernel) (by decide +kernel)⟩
abbrev mX11_back : hMt := (yX11_back, cX11_back, 1, some .int)
def tX11_back : hTb := [(0, .aload_n 0, 1, 1), (1, .getfield 200, 3, 4), (4, .ifCond .ne 5, 3, 7), (7, .iconst (-1), 1, 8), (8, .ireturn, 1, 9), (9, .aload_n 0, 1, 10), (10, .getfield 32, 3, 13), (13, .aload_n 0, 1, 14), (14, .getfield 49, 3, 17), (17, .invokevirtual 192, 3, 20), (20, .aload_n 0, 1, 21), (21, .getfield 45, 3, 24), (24, .aload_n 0, 1, 25), (25, .getfield 52, 3, 28), (28, .aload_n 0, 1, 29), (29, .getfield 32, 3, 32), (32, .getfield 153, 3, 35), (35, .invokevirtual 196, 3, 38), (38, .aload_n 0, 1, 39), (39, .iconst 0, 1, 40), (40, .putfield 168, 3, 43), (43, .aload_n 0, 1, 44), (44, .getfield 32, 3, 47), (47, .getfield 153, 3, 50), (50, .ireturn, 1, 51)]
theorem ktX11_back : TbOK mX11_back tX11_back := by
  unfold TbOK
  decide +kernel
theorem kdX11_back (k : Nat) {pc : Nat} {i : Instr} {len nx : Nat} (hk : tX11_back[k]? = some (pc, i, len, nx)) : Dc mX11_back pc i len nx := dc_of ktX11_back k hk
theorem iX11_back : MiV mX11_back := ⟨⟨gdw_of (i := 1114) (by decide +kernel) (by decide +kernel), gdw_of (i := 113) (by decide +kernel) (by decide +kernel), by decide, by decide, by decide⟩, gdw_of (i := 1112) (by decide +kernel) (by decide +kernel), gdw_of (i := 1113) (by decide +kernel) (by decide +kernel)⟩
abbrev mX11_isScript : hMt := (yX11_isScript, cX11_isScript, 2, some .boolean)
def tX11_isScript : hTb := [(0, .iload_n 1, 1, 1), (1, .iconst 0, 1, 2), (2, .aload_n 0, 1, 3), (3, .getfield 162, 3, 6), (6, .iconst 4, 1, 7), (7, .invokestatic 361, 3, 10), (10, .iconst 1, 1, 11), (11, .isub, 1, 12), (12, .invokestatic 110, 3, 15), (15, .ireturn, 1, 16)]
theorem ktX11_isScript : TbOK mX11_isScript tX11_isScript := by
  unfold TbOK
  decide +kernel
theorem kdX11_isScript (k : Nat) {pc : Nat} {i : Instr} {len nx : Nat} (hk : tX11_isScript[k]? = some (pc, i, len, nx)) : Dc mX11_isScript pc i len nx := dc_of ktX11_isScript k hk
theorem iX11_isScript : MiV mX11_isScript := ⟨⟨gdw_of (i := 1122) (by decide +kernel) (by decide +kernel), gdw_of (i := 113) (by decide +kernel) (by decide +kernel), by decide, by decide, by decide⟩, gdw_of (i := 1121) (by decide +kernel) (by decide +kernel), gdw_of (i := 42) (by decide +kernel) (by decide +kernel)⟩
abbrev mX11_step : hMt := (yX11_step, cX11_step, 4, some .int)
def tX11_step : hTb := [(0, .aload_n 0, 1, 1), (1, .iload_n 1, 1, 2), (2, .invokevirtual 203, 3, 5), (5, .ifCond .eq 17, 3, 8), (8, .aload_n 0, 1, 9), (9, .getfield 25, 3, 12), (12, .iload_n 1, 1, 13), (13, .aaload, 1, 14), (14, .iload_n 2, 1, 15), (15, .iload_n 3, 1, 16), (16, .invokevirtual 206, 3, 19), (19, .goto 5, 3, 22), (22, .ldc 118, 2, 24), (24, .ireturn, 1, 25)]
theorem ktX11_step : TbOK mX11_step tX11_step := by
  unfold TbOK
  decide +kernel
theorem kdX11_step (k : Nat) {pc : Nat} {i : Instr} {len nx : Nat} (hk : tX11_step[k]? = some (pc, i, len, nx)) : Dc mX11_step pc i len nx := dc_of ktX11_step k hk
theorem iX11_step : MiV mX11_step := ⟨⟨gdw_of (i := 1118) (by decide +kernel) (by decide +kernel), gdw_of (i := 113) (by decide +kernel) (by decide +kernel), by decide, by decide, by decide⟩, gdw_of (i := 1116) (by decide +kernel) (by decide +kernel), gdw_of (i := 1117) (by decide +kernel) (by decide +kernel)⟩
abbrev mX11_canStep : hMt := (yX11_canStep, cX11_canStep, 4, some .boolean)
def tX11_canStep : hTb := [(0, .aload_n 2, 1, 1), (1, .iload_n 3, 1, 2), (2, .invokevirtual 388, 3, 5), (5, .ifCond .eq 34, 3, 8), (8, .aload_n 0, 1, 9), (9, .aload_n 1, 1, 10), (10, .aload_n 2, 1, 11), (11, .getfield 233, 3, 14), (14, .iload_n 3, 1, 15), (15, .iaload, 1, 16), (16, .aload_n 2, 1, 17), (17, .getfield 236, 3, 20), (20, .iload_n 3, 1, 21), (21, .iaload, 1, 22), (22, .aload_n 2, 1, 23), (23, .getfield 239, 3, 26), (26, .iload_n 3, 1, 27), (27, .iaload, 1, 28), (28, .invokevirtual 364, 3, 31), (31, .iconst (-1), 1, 32), (32, .if_icmp .ne 7, 3, 35), (35, .iconst 1, 1, 36), (36, .goto 4, 3, 39), (39, .iconst 0, 1, 40), (40, .ireturn, 1, 41)]
theorem ktX11_canStep : TbOK mX11_canStep tX11_canStep := by
  unfold TbOK
  decide +kernel
theorem kdX11_canStep (k : Nat) {pc : Nat} {i : Instr} {len nx : Nat} (hk : tX11_canStep[k]? = some (pc, i, len, nx)) : Dc mX11_canStep pc i len nx := dc_of ktX11_canStep k hk
theorem iX11_canStep : MiV mX11_canStep := ⟨⟨gdw_of (i := 1139) (by decide +kernel) (by decide +kernel), gdw_of (i := 113) (by decide +kernel) (by decide +kernel), by decide, by decide, by decide⟩, gdw_of (i := 1138) (by decide +kernel) (by decide +kernel), gdw_of (i := 43) (by decide +kernel) (by decide +kernel)⟩
abbrev mX11_tryStep : hMt := (yX11_tryStep, cX11_tryStep, 4, none)
def tX11_tryStep : hTb := [(0, .aload_n 2, 1, 1), (1, .iload_n 3, 1, 2), (2, .invokevirtual 388, 3, 5), (5, .ifCond .ne 4, 3, 8), (8, .return_, 1, 9), (9, .aload_n 2, 1, 10), (10, .getfield 233, 3, 13), (13, .iload_n 3, 1, 14), (14, .iaload, 1, 15), (15, .ifCond .ne 21, 3, 18), (18, .aload_n 1, 1, 19), (19, .aload_n 0, 1, 20), (20, .getfield 19, 3, 23), (23, .aload_n 2, 1, 24), (24, .getfield 236, 3, 27), (27, .iload_n 3, 1, 28), (28, .iaload, 1, 29), (29, .invokevirtual 313, 3, 32), (32, .pop, 1, 33), (33, .goto 27, 3, 36), (36, .aload_n 0, 1, 37), (37, .aload_n 1, 1, 38), (38, .aload_n 2, 1, 39), (39, .getfield 233, 3, 42), (42, .iload_n 3, 1, 43), (43, .iaload, 1, 44), (44, .aload_n 2, 1, 45), (45, .getfield 236, 3, 48), (48, .iload_n 3, 1, 49), (49, .iaload, 1, 50), (50, .aload_n 2, 1, 51), (51, .getfield 239, 3, 54), (54, .iload_n 3, 1, 55), (55, .iaload, 1, 56), (56, .invokevirtual 391, 3, 59), (59, .pop, 1, 60), (60, .return_, 1, 61)]
theorem ktX11_tryStep : TbOK mX11_tryStep tX11_tryStep := by
  unfold TbOK
  decide +kernel
theorem kdX11_tryStep (k : Nat) {pc : Nat} {i : Instr} {len nx : Nat} (hk : tX11_tryStep[k]? = some (pc, i, len, nx)) : Dc mX11_tryStep pc i len nx := dc_of ktX11_tryStep k hk
theorem iX11_tryStep : MiV mX11_tryStep := ⟨⟨gdw_of (i := 1144) (by decide +kernel) (by decide +kernel), gdw_of (i := 113) (by decide +kernel) (by decide +kernel), by decide, by decide, by decide⟩, gdw_of (i := 1143) (by decide +kernel) (by decide +kernel), gdw_of (i := 44) (by decide +kernel) (by decide +kernel)⟩
abbrev mX11_run : hMt := (yX11_run, cX11_run, 8, some .int)
def tX11_run : hTb := [(0, .aload_n 0, 1, 1), (1, .getfield 106, 3, 4), (4, .ifCond .eq 20, 3, 7), (7, .aload_n 0, 1, 8), (8, .iload_n 1, 1, 9), (9, .invokevirtual 203, 3, 12), (12, .ifCond .eq 12, 3, 15), (15, .iload_n 2, 1, 16), (16, .iconst 0, 1, 17), (17, .iconst 1, 1, 18), (18, .invokestatic 110, 3, 21), (21, .ifCond .ne 6, 3, 24), (24, .ldc 118, 2, 26), (26, .ireturn, 1, 27), (27, .aload_n 0, 1, 28), (28, .getfield 25, 3, 31), (31, .iload_n 1, 1, 32), (32, .aaload, 1, 33), (33, .astore_n 3, 1, 34), (34, .aload_n 0, 1, 35), (35, .getfield 72, 3, 38), (38, .aload_n 0, 1, 39), (39, .getfield 32, 3, 42), (42, .invokevirtual 209, 3, 45), (45, .astore 4, 2, 47), (47, .aload 4, 2, 49), (49, .getfield 213, 3, 52), (52, .getfield 217, 3, 55), (55, .istore 5, 2, 57), (57, .iconst 0, 1, 58), (58, .istore 6, 2, 60), (60, .iconst 0, 1, 61), (61, .istore 7, 2, 63), (63, .iload 7, 2, 65), (65, .aload_n 3, 1, 66), (66, .getfield 222, 3, 69), (69, .if_icmp .ge 33, 3, 72), (72, .aload_n 0, 1, 73), (73, .aload 4, 2, 75), (75, .aload_n 3, 1, 76), (76, .iload 7, 2, 78), (78, .invokevirtual 225, 3, 81), (81, .ifCond .eq 21, 3, 84), (84, .aload_n 0, 1, 85), (85, .aload 4, 2, 87), (87, .aload_n 3, 1, 88), (88, .iload 7, 2, 90), (90, .invokevirtual 229, 3, 93), (93, .iinc 6 1, 3, 96), (96, .iinc 7 1, 3, 99), (99, .goto (-36), 3, 102), (102, .iload_n 2, 1, 103), (103, .iconst 1, 1, 104), (104, .if_icmp .ne 15, 3, 107), (107, .aload 4, 2, 109), (109, .getfield 213, 3, 112), (112, .getfield 217, 3, 115), (115, .iload 5, 2, 117), (117, .isub, 1, 118), (118, .ireturn, 1, 119), (119, .iload 6, 2, 121), (121, .aload_n 3, 1, 122), (122, .getfield 222, 3, 125), (125, .if_icmp .ne 7, 3, 128), (128, .iconst (-1), 1, 129), (129, .goto 5, 3, 132), (132, .iload 6, 2, 134), (134, .ireturn, 1, 135)]
theorem ktX11_run : TbOK mX11_run tX11_run := by
  unfold TbOK
  decide +kernel
theorem kdX11_run (k : Nat) {pc : Nat} {i : Instr} {len nx : Nat} (hk : tX11_run[k]? = some (pc, i, len, nx)) : Dc mX11_run pc i len nx := dc_of ktX11_run k hk
theorem iX11_run : MiV mX11_run := ⟨⟨gdw_of (i := 1130) (by decide +kernel) (by decide +kernel), gdw_of (i := 113) (by decide +kernel) (by decide +kernel), by decide, by decide, by decide⟩, gdw_of (i := 1128) (by decide +kernel) (by decide +kernel), gdw_of (i := 1129) (by decide +kernel) (by decide +kernel)⟩
abbrev mX11_perform : hMt := (yX11_perform, cX11_perform, 5, some .int)
def tX11_perform : hTb := [(0, .aload_n 0, 1, 1), (1, .getfield 106, 3, 4), (4, .ifCond .eq 11, 3, 7), (7, .aload_n 0, 1, 8), (8, .iload_n 1, 1, 9), (9, .invokevirtual 203, 3, 12), (12, .ifCond .ne 5, 3, 15), (15, .iconst (-1), 1, 16), (16, .ireturn, 1, 17), (17, .aload_n 0, 1, 18), (18, .getfield 25, 3, 21), (21, .iload_n 1, 1, 22), (22, .aaload, 1, 23), (23, .astore_n 2, 1, 24), (24, .iconst 0, 1, 25), (25, .istore_n 3, 1, 26), (26, .iconst 0, 1, 27), (27, .istore 4, 2, 29), (29, .iload 4, 2, 31), (31, .aload_n 2, 1, 32), (32, .getfield 222, 3, 35), (35, .if_icmp .ge 52, 3, 38), (38, .aload_n 0, 1, 39), (39, .aload_n 0, 1, 40), (40, .getfield 32, 3, 43), (43, .aload_n 2, 1, 44), (44, .iload 4, 2, 46), (46, .invokevirtual 225, 3, 49), (49, .ifCond .eq 38, 3, 52), (52, .aload_n 0, 1, 53), (53, .aload_n 2, 1, 54), (54, .getfield 233, 3, 57), (57, .iload 4, 2, 59), (59, .iaload, 1, 60), (60, .aload_n 2, 1, 61), (61, .getfield 236, 3, 64), (64, .iload 4, 2, 66), (66, .iaload, 1, 67), (67, .aload_n 2, 1, 68), (68, .getfield 239, 3, 71), (71, .iload 4, 2, 73), (73, .iaload, 1, 74), (74, .invokevirtual 174, 3, 77), (77, .pop, 1, 78), (78, .iinc 3 1, 3, 81), (81, .iinc 4 1, 3, 84), (84, .goto (-55), 3, 87), (87, .iload_n 3, 1, 88), (88, .ireturn, 1, 89)]
theorem ktX11_perform : TbOK mX11_perform tX11_perform := by
  unfold TbOK
  decide +kernel
theorem kdX11_perform (k : Nat) {pc : Nat} {i : Instr} {len nx : Nat} (hk : tX11_perform[k]? = some (pc, i, len, nx)) : Dc mX11_perform pc i len nx := dc_of ktX11_perform k hk
theorem iX11_perform : MiV mX11_perform := ⟨⟨gdw_of (i := 1153) (by decide +kernel) (by decide +kernel), gdw_of (i := 113) (by decide +kernel) (by decide +kernel), by decide, by decide, by decide⟩, gdw_of (i := 1151) (by decide +kernel) (by decide +kernel), gdw_of (i := 1152) (by decide +kernel) (by decide +kernel)⟩
abbrev mX11_isPhase : hMt := (yX11_isPhase, cX11_isPhase, 2, some .boolean)
def tX11_isPhase : hTb := [(0, .aload_n 0, 1, 1), (1, .getfield 106, 3, 4), (4, .ifCond .eq 16, 3, 7), (7, .iload_n 1, 1, 8), (8, .iconst 0, 1, 9), (9, .iconst 3, 1, 10), (10, .invokestatic 110, 3, 13), (13, .ifCond .eq 7, 3, 16), (16, .iconst 1, 1, 17), (17, .goto 4, 3, 20), (20, .iconst 0, 1, 21), (21, .ireturn, 1, 22)]
theorem ktX11_isPhase : TbOK mX11_isPhase tX11_isPhase := by
  unfold TbOK
  decide +kernel
theorem kdX11_isPhase (k : Nat) {pc : Nat} {i : Instr} {len nx : Nat} (hk : tX11_isPhase[k]? = some (pc, i, len, nx)) : Dc mX11_isPhase pc i len nx := dc_of ktX11_isPhase k hk
theorem iX11_isPhase : MiV mX11_isPhase := ⟨⟨gdw_of (i := 1161) (by decide +kernel) (by decide +kernel), gdw_of (i := 113) (by decide +kernel) (by decide +kernel), by decide, by decide, by decide⟩, gdw_of (i := 1160) (by decide +kernel) (by decide +kernel), gdw_of (i := 45) (by decide +kernel) (by decide +kernel)⟩
abbrev mX11_eye : hMt := (yX11_eye, cX11_eye, 3, some .int)
def tX11_eye : hTb := [(0, .aload_n 0, 1, 1), (1, .iload_n 1, 1, 2), (2, .invokevirtual 242, 3, 5), (5, .ifCond .eq 14, 3, 8), (8, .iload_n 2, 1, 9), (9, .bipush (-99), 2, 11), (11, .bipush 99, 2, 13), (13, .invokestatic 110, 3, 16), (16, .ifCond .ne 5, 3, 19), (19, .iconst (-1), 1, 20), (20, .ireturn, 1, 21), (21, .aload_n 0, 1, 22), (22, .getfield 58, 3, 25), (25, .aload_n 0, 1, 26), (26, .getfield 19, 3, 29), (29, .aload_n 0, 1, 30), (30, .getfield 32, 3, 33), (33, .iload_n 1, 1, 34), (34, .invokevirtual 245, 3, 37), (37, .aload_n 0, 1, 38), (38, .getfield 58, 3, 41), (41, .aload_n 0, 1, 42), (42, .getfield 19, 3, 45), (45, .bipush 64, 2, 47), (47, .iload_n 2, 1, 48), (48, .imul, 1, 49), (49, .invokevirtual 249, 3, 52), (52, .ireturn, 1, 53)]
theorem ktX11_eye : TbOK mX11_eye tX11_eye := by
  unfold TbOK
  decide +kernel
theorem kdX11_eye (k : Nat) {pc : Nat} {i : Instr} {len nx : Nat} (hk : tX11_eye[k]? = some (pc, i, len, nx)) : Dc mX11_eye pc i len nx := dc_of ktX11_eye k hk
theorem iX11_eye : MiV mX11_eye := ⟨⟨gdw_of (i := 1157) (by decide +kernel) (by decide +kernel), gdw_of (i := 113) (by decide +kernel) (by decide +kernel), by decide, by decide, by decide⟩, gdw_of (i := 1155) (by decide +kernel) (by decide +kernel), gdw_of (i := 1156) (by decide +kernel) (by decide +kernel)⟩
abbrev mX11_opening : hMt := (yX11_opening, cX11_opening, 5, some .int)
def tX11_opening : hTb := [(0, .aload_n 0, 1, 1), (1, .iload_n 1, 1, 2), (2, .invokevirtual 242, 3, 5), (5, .ifCond .ne 6, 3, 8), (8, .ldc 118, 2, 10), (10, .ireturn, 1, 11), (11, .aload_n 0, 1, 12), (12, .getfield 58, 3, 15), (15, .aload_n 0, 1, 16), (16, .getfield 19, 3, 19), (19, .aload_n 0, 1, 20), (20, .getfield 32, 3, 23), (23, .iload_n 1, 1, 24), (24, .invokevirtual 245, 3, 27), (27, .aload_n 0, 1, 28), (28, .getfield 58, 3, 31), (31, .aload_n 0, 1, 32), (32, .getfield 19, 3, 35), (35, .invokevirtual 253, 3, 38), (38, .istore_n 3, 1, 39), (39, .aload_n 0, 1, 40), (40, .getfield 58, 3, 43), (43, .aload_n 0, 1, 44), (44, .getfield 19, 3, 47), (47, .invokevirtual 257, 3, 50), (50, .istore 4, 2, 52), (52, .iload_n 2, 1, 53), (53, .tableswitch 50 0 3 #[31, 33, 36, 41], 31, 84), (84, .iload_n 3, 1, 85), (85, .ireturn, 1, 86), (86, .iload 4, 2, 88), (88, .ireturn, 1, 89), (89, .iload_n 3, 1, 90), (90, .iload 4, 2, 92), (92, .isub, 1, 93), (93, .ireturn, 1, 94), (94, .iload_n 3, 1, 95), (95, .iload 4, 2, 97), (97, .iadd, 1, 98), (98, .iconst 2, 1, 99), (99, .invokestatic 260, 3, 102), (102, .ireturn, 1, 103), (103, .ldc 118, 2, 105), (105, .ireturn, 1, 106)]
theorem ktX11_opening : TbOK mX11_opening tX11_opening := by
  unfold TbOK
  decide +kernel
theorem kdX11_opening (k : Nat) {pc : Nat} {i : Instr} {len nx : Nat} (hk : tX11_opening[k]? = some (pc, i, len, nx)) : Dc mX11_opening pc i len nx := dc_of ktX11_opening k hk
theorem iX11_opening : MiV mX11_opening := ⟨⟨gdw_of (i := 1170) (by decide +kernel) (by decide +kernel), gdw_of (i := 113) (by decide +kernel) (by decide +kernel), by decide, by decide, by decide⟩, gdw_of (i := 1168) (by decide +kernel) (by decide +kernel), gdw_of (i := 1169) (by decide +kernel) (by decide +kernel)⟩
abbrev mX11_weigh : hMt := (yX11_weigh, cX11_weigh, 4, some .int)
def tX11_weigh : hTb := [(0, .aload_n 0, 1, 1), (1, .iload_n 2, 1, 2), (2, .invokevirtual 242, 3, 5), (5, .ifCond .eq 22, 3, 8), (8, .iload_n 1, 1, 9), (9, .iconst 0, 1, 10), (10, .bipush 63, 2, 12), (12, .invokestatic 110, 3, 15), (15, .ifCond .eq 12, 3, 18), (18, .iload_n 3, 1, 19), (19, .iconst 0, 1, 20), (20, .iconst 1, 1, 21), (21, .invokestatic 110, 3, 24), (24, .ifCond .ne 6, 3, 27), (27, .ldc 118, 2, 29), (29, .ireturn, 1, 30), (30, .iload_n 3, 1, 31), (31, .ifCond .ne 23, 3, 34), (34, .aload_n 0, 1, 35), (35, .getfield 58, 3, 38), (38, .aload_n 0, 1, 39), (39, .getfield 19, 3, 42), (42, .aload_n 0, 1, 43), (43, .getfield 32, 3, 46), (46, .iload_n 1, 1, 47), (47, .iload_n 2, 1, 48), (48, .invokevirtual 265, 3, 51), (51, .goto 11, 3, 54), (54, .aload_n 0, 1, 55), (55, .getfield 19, 3, 58), (58, .iload_n 1, 1, 59), (59, .invokestatic 269, 3, 62), (62, .ireturn, 1, 63)]
theorem ktX11_weigh : TbOK mX11_weigh tX11_weigh := by
  unfold TbOK
  decide +kernel
theorem kdX11_weigh (k : Nat) {pc : Nat} {i : Instr} {len nx : Nat} (hk : tX11_weigh[k]? = some (pc, i, len, nx)) : Dc mX11_weigh pc i len nx := dc_of ktX11_weigh k hk
theorem iX11_weigh : MiV mX11_weigh := ⟨⟨gdw_of (i := 1179) (by decide +kernel) (by decide +kernel), gdw_of (i := 113) (by decide +kernel) (by decide +kernel), by decide, by decide, by decide⟩, gdw_of (i := 1177) (by decide +kernel) (by decide +kernel), gdw_of (i := 1178) (by decide +kernel) (by decide +kernel)⟩
abbrev mX11_map : hMt := (yX11_map, cX11_map, 7, some .int)
def tX11_map : hTb := [(0, .aload_n 0, 1, 1), (1, .getfield 106, 3, 4), (4, .ifCond .eq 12, 3, 7), (7, .iload_n 1, 1, 8), (8, .iconst 0, 1, 9), (9, .iconst 2, 1, 10), (10, .invokestatic 110, 3, 13), (13, .ifCond .ne 5, 3, 16), (16, .iconst (-1), 1, 17), (17, .ireturn, 1, 18), (18, .iconst 0, 1, 19), (19, .istore_n 2, 1, 20), (20, .iconst 0, 1, 21), (21, .istore_n 3, 1, 22), (22, .iconst 0, 1, 23), (23, .istore 4, 2, 25), (25, .iconst 0, 1, 26), (26, .istore 5, 2, 28), (28, .iload 5, 2, 30), (30, .iconst 4, 1, 31), (31, .if_icmp .ge 47, 3, 34), (34, .aload_n 0, 1, 35), (35, .getfield 58, 3, 38), (38, .aload_n 0, 1, 39), (39, .getfield 19, 3, 42), (42, .aload_n 0, 1, 43), (43, .getfield 32, 3, 46), (46, .iload 5, 2, 48), (48, .invokevirtual 272, 3, 51), (51, .istore 6, 2, 53), (53, .iload_n 2, 1, 54), (54, .iload 6, 2, 56), (56, .iadd, 1, 57), (57, .istore_n 2, 1, 58), (58, .iload 6, 2, 60), (60, .iload 4, 2, 62), (62, .if_icmp .le 10, 3, 65), (65, .iload 6, 2, 67), (67, .istore 4, 2, 69), (69, .iload 5, 2, 71), (71, .istore_n 3, 1, 72), (72, .iinc 5 1, 3, 75), (75, .goto (-47), 3, 78), (78, .iload_n 1, 1, 79), (79, .ifCond .ne 7, 3, 82), (82, .iload_n 2, 1, 83), (83, .goto 14, 3, 86), (86, .iload_n 1, 1, 87), (87, .iconst 1, 1, 88), (88, .if_icmp .ne 7, 3, 91), (91, .iload_n 3, 1, 92), (92, .goto 5, 3, 95), (95, .iload 4, 2, 97), (97, .ireturn, 1, 98)]
theorem ktX11_map : TbOK mX11_map tX11_map := by
  unfold TbOK
  decide +kernel
theorem kdX11_map (k : Nat) {pc : Nat} {i : Instr} {len nx : Nat} (hk : tX11_map[k]? = some (pc, i, len, nx)) : Dc mX11_map pc i len nx := dc_of ktX11_map k hk
theorem iX11_map : MiV mX11_map := ⟨⟨gdw_of (i := 1185) (by decide +kernel) (by decide +kernel), gdw_of (i := 113) (by decide +kernel) (by decide +kernel), by decide, by decide, by decide⟩, gdw_of (i := 1183) (by decide +kernel) (by decide +kernel), gdw_of (i := 1184) (by decide +kernel) (by decide +kernel)⟩
abbrev mX11_bears : hMt := (yX11_bears, cX11_bears, 2, some .int)
def tX11_bears : hTb := [(0, .aload_n 0, 1, 1), (1, .iload_n 1, 1, 2), (2, .invokevirtual 242, 3, 5), (5, .ifCond .eq 22, 3, 8), (8, .aload_n 0, 1, 9), (9, .getfield 58, 3, 12), (12, .aload_n 0, 1, 13), (13, .getfield 19, 3, 16), (16, .aload_n 0, 1, 17), (17, .getfield 32, 3, 20), (20, .iload_n 1, 1, 21), (21, .invokevirtual 276, 3, 24), (24, .goto 5, 3, 27), (27, .ldc 118, 2, 29), (29, .ireturn, 1, 30)]
theorem ktX11_bears : TbOK mX11_bears tX11_bears := by
  unfold TbOK
  decide +kernel
theorem kdX11_bears (k : Nat) {pc : Nat} {i : Instr} {len nx : Nat} (hk : tX11_bears[k]? = some (pc, i, len, nx)) : Dc mX11_bears pc i len nx := dc_of ktX11_bears k hk
theorem iX11_bears : MiV mX11_bears := ⟨⟨gdw_of (i := 1194) (by decide +kernel) (by decide +kernel), gdw_of (i := 113) (by decide +kernel) (by decide +kernel), by decide, by decide, by decide⟩, gdw_of (i := 1192) (by decide +kernel) (by decide +kernel), gdw_of (i := 1193) (by decide +kernel) (by decide +kernel)⟩
abbrev mX11_burst : hMt := (yX11_burst, cX11_burst, 3, some .int)
def tX11_burst : hTb := [(0, .aload_n 0, 1, 1), (1, .getfield 106, 3, 4), (4, .ifCond .eq 22, 3, 7), (7, .iload_n 1, 1, 8), (8, .iconst 0, 1, 9), (9, .bipush 63, 2, 11), (11, .invokestatic 110, 3, 14), (14, .ifCond .eq 12, 3, 17), (17, .iload_n 2, 1, 18), (18, .iconst 0, 1, 19), (19, .iconst 1, 1, 20), (20, .invokestatic 110, 3, 23), (23, .ifCond .ne 5, 3, 26), (26, .iconst (-1), 1, 27), (27, .ireturn, 1, 28), (28, .aload_n 0, 1, 29), (29, .getfield 65, 3, 32), (32, .aload_n 0, 1, 33), (33, .getfield 19, 3, 36), (36, .aload_n 0, 1, 37), (37, .getfield 32, 3, 40), (40, .invokevirtual 279, 3, 43), (43, .iload_n 2, 1, 44), (44, .ifCond .ne 14, 3, 47), (47, .aload_n 0, 1, 48), (48, .getfield 65, 3, 51), (51, .iload_n 1, 1, 52), (52, .invokevirtual 283, 3, 55), (55, .goto 11, 3, 58), (58, .aload_n 0, 1, 59), (59, .getfield 65, 3, 62), (62, .iload_n 1, 1, 63), (63, .invokevirtual 286, 3, 66), (66, .ireturn, 1, 67)]
theorem ktX11_burst : TbOK mX11_burst tX11_burst := by
  unfold TbOK
  decide +kernel
theorem kdX11_burst (k : Nat) {pc : Nat} {i : Instr} {len nx : Nat} (hk : tX11_burst[k]? = some (pc, i, len, nx)) : Dc mX11_burst pc i len nx := dc_of ktX11_burst k hk
theorem iX11_burst : MiV mX11_burst := ⟨⟨gdw_of (i := 1203) (by decide +kernel) (by decide +kernel), gdw_of (i := 113) (by decide +kernel) (by decide +kernel), by decide, by decide, by decide⟩, gdw_of (i := 1201) (by decide +kernel) (by decide +kernel), gdw_of (i := 1202) (by decide +kernel) (by decide +kernel)⟩
abbrev mX11_bursts : hMt := (yX11_bursts, cX11_bursts, 1, some .int)
def tX11_bursts : hTb := [(0, .aload_n 0, 1, 1), (1, .getfield 106, 3, 4), (4, .ifCond .ne 5, 3, 7), (7, .iconst (-1), 1, 8), (8, .ireturn, 1, 9), (9, .aload_n 0, 1, 10), (10, .getfield 65, 3, 13), (13, .aload_n 0, 1, 14), (14, .getfield 19, 3, 17), (17, .aload_n 0, 1, 18), (18, .getfield 32, 3, 21), (21, .invokevirtual 279, 3, 24), (24, .aload_n 0, 1, 25), (25, .getfield 65, 3, 28), (28, .invokevirtual 289, 3, 31), (31, .ireturn, 1, 32)]
theorem ktX11_bursts : TbOK mX11_bursts tX11_bursts := by
  unfold TbOK
  decide +kernel
theorem kdX11_bursts (k : Nat) {pc : Nat} {i : Instr} {len nx : Nat} (hk : tX11_bursts[k]? = some (pc, i, len, nx)) : Dc mX11_bursts pc i len nx := dc_of ktX11_bursts k hk
theorem iX11_bursts : MiV mX11_bursts := ⟨⟨gdw_of (i := 1248) (by decide +kernel) (by decide +kernel), gdw_of (i := 113) (by decide +kernel) (by decide +kernel), by decide, by decide, by decide⟩, gdw_of (i := 1246) (by decide +kernel) (by decide +kernel), gdw_of (i := 1247) (by decide +kernel) (by decide +kernel)⟩
abbrev mX11_unrolled : hMt := (yX11_unrolled, cX11_unrolled, 2, some .int)
def tX11_unrolled : hTb := [(0, .aload_n 0, 1, 1), (1, .getfield 106, 3, 4), (4, .ifCond .eq 32, 3, 7), (7, .aload_n 0, 1, 8), (8, .getfield 32, 3, 11), (11, .getfield 153, 3, 14), (14, .ifCond .eq 22, 3, 17), (17, .iload_n 1, 1, 18), (18, .iconst 0, 1, 19), (19, .iconst 1, 1, 20), (20, .aload_n 0, 1, 21), (21, .getfield 19, 3, 24), (24, .invokevirtual 292, 3, 27), (27, .ishl, 1, 28), (28, .iconst 1, 1, 29), (29, .isub, 1, 30), (30, .invokestatic 110, 3, 33), (33, .ifCond .ne 6, 3, 36), (36, .ldc 118, 2, 38), (38, .ireturn, 1, 39), (39, .aload_n 0, 1, 40), (40, .getfield 32, 3, 43), (43, .getfield 213, 3, 46), (46, .iload_n 1, 1, 47), (47, .aload_n 0, 1, 48), (48, .getfield 19, 3, 51), (51, .invokevirtual 292, 3, 54), (54, .invokevirtual 295, 3, 57), (57, .ireturn, 1, 58)]
theorem ktX11_unrolled : TbOK mX11_unrolled tX11_unrolled := by
  unfold TbOK
  decide +kernel
theorem kdX11_unrolled (k : Nat) {pc : Nat} {i : Instr} {len nx : Nat} (hk : tX11_unrolled[k]? = some (pc, i, len, nx)) : Dc mX11_unrolled pc i len nx := dc_of ktX11_unrolled k hk
theorem iX11_unrolled : MiV mX11_unrolled := ⟨⟨gdw_of (i := 1257) (by decide +kernel) (by decide +kernel), gdw_of (i := 113) (by decide +kernel) (by decide +kernel), by decide, by decide, by decide⟩, gdw_of (i := 1255) (by decide +kernel) (by decide +kernel), gdw_of (i := 1256) (by decide +kernel) (by decide +kernel)⟩
abbrev mX11_improved : hMt := (yX11_improved, cX11_improved, 3, some .int)
def tX11_improved : hTb := [(0, .aload_n 0, 1, 1), (1, .iload_n 1, 1, 2), (2, .invokevirtual 131, 3, 5), (5, .ifCond .eq 12, 3, 8), (8, .iload_n 2, 1, 9), (9, .iconst 0, 1, 10), (10, .iconst 1, 1, 11), (11, .invokestatic 110, 3, 14), (14, .ifCond .ne 6, 3, 17), (17, .ldc 118, 2, 19), (19, .ireturn, 1, 20), (20, .aload_n 0, 1, 21), (21, .getfield 58, 3, 24), (24, .aload_n 0, 1, 25), (25, .getfield 19, 3, 28), (28, .aload_n 0, 1, 29), (29, .getfield 32, 3, 32), (32, .iload_n 1, 1, 33), (33, .invokevirtual 298, 3, 36), (36, .iload_n 2, 1, 37), (37, .ifCond .ne 13, 3, 40), (40, .aload_n 0, 1, 41), (41, .getfield 58, 3, 44), (44, .getfield 301, 3, 47), (47, .goto 10, 3, 50), (50, .aload_n 0, 1, 51), (51, .getfield 58, 3, 54), (54, .getfield 304, 3, 57), (57, .ireturn, 1, 58)]
theorem ktX11_improved : TbOK mX11_improved tX11_improved := by
  unfold TbOK
  decide +kernel
theorem kdX11_improved (k : Nat) {pc : Nat} {i : Instr} {len nx : Nat} (hk : tX11_improved[k]? = some (pc, i, len, nx)) : Dc mX11_improved pc i len nx := dc_of ktX11_improved k hk
theorem iX11_improved : MiV mX11_improved := ⟨⟨gdw_of (i := 1267) (by decide +kernel) (by decide +kernel), gdw_of (i := 113) (by decide +kernel) (by decide +kernel), by decide, by decide, by decide⟩, gdw_of (i := 1265) (by decide +kernel) (by decide +kernel), gdw_of (i := 1266) (by decide +kernel) (by decide +kernel)⟩
abbrev mX11_settled : hMt := (yX11_settled, cX11_settled, 2, some .int)
def tX11_settled : hTb := [(0, .aload_n 0, 1, 1), (1, .getfield 106, 3, 4), (4, .ifCond .eq 32, 3, 7), (7, .iload_n 1, 1, 8), (8, .iconst 0, 1, 9), (9, .bipush 20, 2, 11), (11, .invokestatic 110, 3, 14), (14, .ifCond .eq 22, 3, 17), (17, .aload_n 0, 1, 18), (18, .getfield 72, 3, 21), (21, .aload_n 0, 1, 22), (22, .getfield 19, 3, 25), (25, .aload_n 0, 1, 26), (26, .getfield 32, 3, 29), (29, .iload_n 1, 1, 30), (30, .invokevirtual 307, 3, 33), (33, .goto 4, 3, 36), (36, .iconst (-1), 1, 37), (37, .ireturn, 1, 38)]
theorem ktX11_settled : TbOK mX11_settled tX11_settled := by
  unfold TbOK
  decide +kernel
theorem kdX11_settled (k : Nat) {pc : Nat} {i : Instr} {len nx : Nat} (hk : tX11_settled[k]? = some (pc, i, len, nx)) : Dc mX11_settled pc i len nx := dc_of ktX11_settled k hk
theorem iX11_settled : MiV mX11_settled := ⟨⟨gdw_of (i := 1275) (by decide +kernel) (by decide +kernel), gdw_of (i := 113) (by decide +kernel) (by decide +kernel), by decide, by decide, by decide⟩, gdw_of (i := 1273) (by decide +kernel) (by decide +kernel), gdw_of (i := 1274) (by decide +kernel) (by decide +kernel)⟩
abbrev mX11_quickest : hMt := (yX11_quickest, cX11_quickest, 2, some .int)
def tX11_quickest : hTb := [(0, .aload_n 0, 1, 1), (1, .getfield 106, 3, 4), (4, .ifCond .eq 32, 3, 7), (7, .iload_n 1, 1, 8), (8, .iconst 0, 1, 9), (9, .bipush 20, 2, 11), (11, .invokestatic 110, 3, 14), (14, .ifCond .eq 22, 3, 17), (17, .aload_n 0, 1, 18), (18, .getfield 72, 3, 21), (21, .aload_n 0, 1, 22), (22, .getfield 19, 3, 25), (25, .aload_n 0, 1, 26), (26, .getfield 32, 3, 29), (29, .iload_n 1, 1, 30), (30, .invokevirtual 310, 3, 33), (33, .goto 4, 3, 36), (36, .iconst (-1), 1, 37), (37, .ireturn, 1, 38)]
theorem ktX11_quickest : TbOK mX11_quickest tX11_quickest := by
  unfold TbOK
  decide +kernel
theorem kdX11_quickest (k : Nat) {pc : Nat} {i : Instr} {len nx : Nat} (hk : tX11_quickest[k]? = some (pc, i, len, nx)) : Dc mX11_quickest pc i len nx := dc_of ktX11_quickest k hk
theorem iX11_quickest : MiV mX11_quickest := ⟨⟨gdw_of (i := 1300) (by decide +kernel) (by decide +kernel), gdw_of (i := 113) (by decide +kernel) (by decide +kernel), by decide, by decide, by decide⟩, gdw_of (i := 1298) (by decide +kernel) (by decide +kernel), gdw_of (i := 1299) (by decide +kernel) (by decide +kernel)⟩
abbrev mX11_coming : hMt := (yX11_coming, cX11_coming, 5, some .int)
def tX11_coming : hTb := [(0, .aload_n 0, 1, 1), (1, .getfield 106, 3, 4), (4, .ifCond .eq 23, 3, 7), (7, .iload_n 1, 1, 8), (8, .iconst 0, 1, 9), (9, .bipush 60, 2, 11), (11, .invokestatic 110, 3, 14), (14, .ifCond .eq 13, 3, 17), (17, .iload_n 2, 1, 18), (18, .iconst 0, 1, 19), (19, .bipush 12, 2, 21), (21, .invokestatic 110, 3, 24), (24, .ifCond .ne 6, 3, 27), (27, .ldc 118, 2, 29), (29, .ireturn, 1, 30), (30, .iload_n 2, 1, 31), (31, .bipush 6, 2, 33), (33, .if_icmp .ge 14, 3, 36), (36, .aload_n 0, 1, 37), (37, .iload_n 2, 1, 38), (38, .invokevirtual 131, 3, 41), (41, .ifCond .ne 6, 3, 44), (44, .ldc 118, 2, 46), (46, .ireturn, 1, 47), (47, .aload_n 0, 1, 48), (48, .getfield 72, 3, 51), (51, .aload_n 0, 1, 52), (52, .getfield 32, 3, 55), (55, .invokevirtual 209, 3, 58), (58, .astore_n 3, 1, 59), (59, .aload_n 3, 1, 60), (60, .aload_n 0, 1, 61), (61, .getfield 19, 3, 64), (64, .iload_n 1, 1, 65), (65, .invokevirtual 313, 3, 68), (68, .istore 4, 2, 70), (70, .iload_n 2, 1, 71), (71, .bipush 6, 2, 73), (73, .if_icmp .ge 10, 3, 76), (76, .aload_n 3, 1, 77), (77, .getfield 137, 3, 80), (80, .iload_n 2, 1, 81), (81, .iaload, 1, 82), (82, .ireturn, 1, 83), (83, .iload_n 2, 1, 84), (84, .tableswitch 88 6 11 #[40, 43, 54, 59, 67, 83], 40, 124), (124, .iload 4, 2, 126), (126, .ireturn, 1, 127), (127, .aload_n 3, 1, 128), (128, .getfield 213, 3, 131), (131, .getfield 316, 3, 134), (134, .invokestatic 319, 3, 137), (137, .ireturn, 1, 138), (138, .aload_n 3, 1, 139), (139, .getfield 153, 3, 142), (142, .ireturn, 1, 143), (143, .aload_n 3, 1, 144), (144, .getfield 213, 3, 147), (147, .getfield 322, 3, 150), (150, .ireturn, 1, 151), (151, .aload_n 3, 1, 152), (152, .getfield 213, 3, 155), (155, .getfield 325, 3, 158), (158, .ifCond .eq 7, 3, 161), (161, .iconst 1, 1, 162), (162, .goto 4, 3, 165), (165, .iconst 0, 1, 166), (166, .ireturn, 1, 167), (167, .aload_n 3, 1, 168), (168, .getfield 328, 3, 171), (171, .ireturn, 1, 172), (172, .aload_n 3, 1, 173), (173, .getfield 331, 3, 176), (176, .ireturn, 1, 177)]
theorem ktX11_coming : TbOK mX11_coming tX11_coming := by
  unfold TbOK
  decide +kernel
theorem kdX11_coming (k : Nat) {pc : Nat} {i : Instr} {len nx : Nat} (hk : tX11_coming[k]? = some (pc, i, len, nx)) : Dc mX11_coming pc i len nx := dc_of ktX11_coming k hk
theorem iX11_coming : MiV mX11_coming := ⟨⟨gdw_of (i := 1308) (by decide +kernel) (by decide +kernel), gdw_of (i := 113) (by decide +kernel) (by decide +kernel), by decide, by decide, by decide⟩, gdw_of (i := 1306) (by decide +kernel) (by decide +kernel), gdw_of (i := 1307) (by decide +kernel) (by decide +kernel)⟩
abbrev mX11_gain : hMt := (yX11_gain, cX11_gain, 2, some .int)
def tX11_gain : hTb := [(0, .aload_n 0, 1, 1), (1, .getfield 106, 3, 4), (4, .ifCond .eq 13, 3, 7), (7, .iload_n 1, 1, 8), (8, .iconst 1, 1, 9), (9, .bipush 60, 2, 11), (11, .invokestatic 110, 3, 14), (14, .ifCond .ne 6, 3, 17), (17, .ldc 118, 2, 19), (19, .ireturn, 1, 20), (20, .aload_n 0, 1, 21), (21, .getfield 72, 3, 24), (24, .aload_n 0, 1, 25), (25, .getfield 19, 3, 28), (28, .aload_n 0, 1, 29), (29, .getfield 32, 3, 32), (32, .iload_n 1, 1, 33), (33, .iconst 1, 1, 34), (34, .invokevirtual 334, 3, 37), (37, .aload_n 0, 1, 38), (38, .getfield 72, 3, 41), (41, .aload_n 0, 1, 42), (42, .getfield 19, 3, 45), (45, .aload_n 0, 1, 46), (46, .getfield 32, 3, 49), (49, .iload_n 1, 1, 50), (50, .iconst 0, 1, 51), (51, .invokevirtual 334, 3, 54), (54, .isub, 1, 55), (55, .ireturn, 1, 56)]
theorem ktX11_gain : TbOK mX11_gain tX11_gain := by
  unfold TbOK
  decide +kernel
theorem kdX11_gain (k : Nat) {pc : Nat} {i : Instr} {len nx : Nat} (hk : tX11_gain[k]? = some (pc, i, len, nx)) : Dc mX11_gain pc i len nx := dc_of ktX11_gain k hk
theorem iX11_gain : MiV mX11_gain := ⟨⟨gdw_of (i := 1313) (by decide +kernel) (by decide +kernel), gdw_of (i := 113) (by decide +kernel) (by decide +kernel), by decide, by decide, by decide⟩, gdw_of (i := 1311) (by decide +kernel) (by decide +kernel), gdw_of (i := 1312) (by decide +kernel) (by decide +kernel)⟩
abbrev mX11_worst : hMt := (yX11_worst, cX11_worst, 7, some .int)
def tX11_worst : hTb := [(0, .aload_n 0, 1, 1), (1, .getfield 106, 3, 4), (4, .ifCond .eq 22, 3, 7), (7, .iload_n 1, 1, 8), (8, .iconst 1, 1, 9), (9, .bipush 6, 2, 11), (11, .invokestatic 110, 3, 14), (14, .ifCond .eq 12, 3, 17), (17, .iload_n 2, 1, 18), (18, .iconst 0, 1, 19), (19, .iconst 1, 1, 20), (20, .invokestatic 110, 3, 23), (23, .ifCond .ne 5, 3, 26), (26, .iconst (-1), 1, 27), (27, .ireturn, 1, 28), (28, .iconst 0, 1, 29), (29, .istore_n 3, 1, 30), (30, .iconst (-1), 1, 31), (31, .istore 4, 2, 33), (33, .iconst 0, 1, 34), (34, .istore 5, 2, 36), (36, .iload 5, 2, 38), (38, .iload_n 1, 1, 39), (39, .if_icmp .ge 42, 3, 42), (42, .aload_n 0, 1, 43), (43, .getfield 72, 3, 46), (46, .aload_n 0, 1, 47), (47, .getfield 19, 3, 50), (50, .aload_n 0, 1, 51), (51, .getfield 32, 3, 54), (54, .iload 5, 2, 56), (56, .invokevirtual 338, 3, 59), (59, .istore 6, 2, 61), (61, .iload 6, 2, 63), (63, .iload 4, 2, 65), (65, .if_icmp .le 10, 3, 68), (68, .iload 6, 2, 70), (70, .istore 4, 2, 72), (72, .iload 5, 2, 74), (74, .istore_n 3, 1, 75), (75, .iinc 5 1, 3, 78), (78, .goto (-42), 3, 81), (81, .iload_n 2, 1, 82), (82, .ifCond .ne 7, 3, 85), (85, .iload_n 3, 1, 86), (86, .goto 5, 3, 89), (89, .iload 4, 2, 91), (91, .ireturn, 1, 92)]
theorem ktX11_worst : TbOK mX11_worst tX11_worst := by
  unfold TbOK
  decide +kernel
theorem kdX11_worst (k : Nat) {pc : Nat} {i : Instr} {len nx : Nat} (hk : tX11_worst[k]? = some (pc, i, len, nx)) : Dc mX11_worst pc i len nx := dc_of ktX11_worst k hk
theorem iX11_worst : MiV mX11_worst := ⟨⟨gdw_of (i := 1322) (by decide +kernel) (by decide +kernel), gdw_of (i := 113) (by decide +kernel) (by decide +kernel), by decide, by decide, by decide⟩, gdw_of (i := 1320) (by decide +kernel) (by decide +kernel), gdw_of (i := 1321) (by decide +kernel) (by decide +kernel)⟩
abbrev mX11_odds : hMt := (yX11_odds, cX11_odds, 2, some .int)
def tX11_odds : hTb := [(0, .aload_n 0, 1, 1), (1, .getfield 106, 3, 4), (4, .ifCond .eq 31, 3, 7), (7, .iload_n 1, 1, 8), (8, .iconst 1, 1, 9), (9, .iconst 4, 1, 10), (10, .invokestatic 110, 3, 13), (13, .ifCond .eq 22, 3, 16), (16, .aload_n 0, 1, 17), (17, .getfield 72, 3, 20), (20, .aload_n 0, 1, 21), (21, .getfield 19, 3, 24), (24, .aload_n 0, 1, 25), (25, .getfield 32, 3, 28), (28, .iload_n 1, 1, 29), (29, .invokevirtual 341, 3, 32), (32, .goto 4, 3, 35), (35, .iconst (-1), 1, 36), (36, .ireturn, 1, 37)]
theorem ktX11_odds : TbOK mX11_odds tX11_odds := by
  unfold TbOK
  decide +kernel
theorem kdX11_odds (k : Nat) {pc : Nat} {i : Instr} {len nx : Nat} (hk : tX11_odds[k]? = some (pc, i, len, nx)) : Dc mX11_odds pc i len nx := dc_of ktX11_odds k hk
theorem iX11_odds : MiV mX11_odds := ⟨⟨gdw_of (i := 1330) (by decide +kernel) (by decide +kernel), gdw_of (i := 113) (by decide +kernel) (by decide +kernel), by decide, by decide, by decide⟩, gdw_of (i := 1328) (by decide +kernel) (by decide +kernel), gdw_of (i := 1329) (by decide +kernel) (by decide +kernel)⟩
theorem lX11_203 : Lk RX11 203 mX11_isScript := Or.inl (gdw_of (i := 1119) (by decide +kernel) (by decide +kernel))
theorem lX11_225 : Lk RX11 225 mX11_canStep := Or.inl (gdw_of (i := 1136) (by decide +kernel) (by decide +kernel))
theorem lX11_229 : Lk RX11 229 mX11_tryStep := Or.inl (gdw_of (i := 1141) (by decide +kernel) (by decide +kernel))
theorem lX11_242 : Lk RX11 242 mX11_isPhase := Or.inl (gdw_of (i := 1158) (by decide +kernel) (by decide +kernel))
def JX11_undo  (m : hM) : hR :=
  if 0 < (m.1 0 0 16) then (stI m 0 0 16 ((m.1 0 0 16) - 1) fun m1 =>
  calI (JX11_pastPlace (m1.1 0 0 16) m1) fun x3 m2 =>
  aal 39 x3 fun j4 =>
  calV (JX8_copy 40 j4 m2) fun m5 =>
  some (some (.inl (m5.1 0 0 16)), m5)) else (some (some (.inl (-1)), m))
set_option maxRecDepth 20000 in
theorem CX11_undo  (m : hM) : Cn mX11_undo 3 [.inr (.inr (0, 0))] m (JX11_undo  m) := by
  refine cn_of (by decide +kernel) (by simp only [List.map, vcat, List.sum_cons, List.sum_nil]; decide) ?_
  unfold JX11_undo
  show G mX11_undo 3 0 [(0, .inr (.inr (0, 0)))] [] m _
  refine g_aload_n 0 (kdX11_undo 0 rfl) rfl ?_
  refine g_get (v := .inl (m.1 0 0 16)) (kdX11_undo 1 rfl) fX11_168 rfl ?_
  refine g_if_gt (tgt := 9) (kdX11_undo 2 rfl) (by decide) (fun _ => ?_) (fun _ => ?_)
  · refine g_aload_n 0 (kdX11_undo 5 rfl) rfl ?_
    refine g_dup (kdX11_undo 6 rfl) rfl ?_
    refine g_get (v := .inl (m.1 0 0 16)) (kdX11_undo 7 rfl) fX11_168 rfl ?_
    refine g_iconst (v := 1) (kdX11_undo 8 rfl) (by decide) ?_
    refine g_isub (kdX11_undo 9 rfl) ?_
    refine g_putI (kdX11_undo 10 rfl) fX11_168 rfl (fun m1 => ?_)
    refine g_aload_n 0 (kdX11_undo 11 rfl) rfl ?_
    refine g_get (v := .inr (.inr (12, 40))) (kdX11_undo 12 rfl) fX11_32 rfl ?_
    refine g_aload_n 0 (kdX11_undo 13 rfl) rfl ?_
    refine g_get (v := .inr (.inr (39, 0))) (kdX11_undo 14 rfl) fX11_36 rfl ?_
    refine g_aload_n 0 (kdX11_undo 15 rfl) rfl ?_
    refine g_aload_n 0 (kdX11_undo 16 rfl) rfl ?_
    refine g_get (v := .inl (m1.1 0 0 16)) (kdX11_undo 17 rfl) fX11_168 rfl ?_
    refine g_calI (ck_V (As := [.inl (m1.1 0 0 16)]) (S := [.inr (.inr (39, 0)), .inr (.inr (12, 40))]) (t := 0) (o := 0) (kdX11_undo 18 rfl) iX11_pastPlace lX11_189 rc_0 rfl rfl rfl (by decide) (by simp only [List.map, vcat, List.sum_cons, List.sum_nil]; decide)) (CX11_pastPlace (m1.1 0 0 16) m1) (fun x3 m2 => ?_)
    refine g_aald (fun j4 => (12, j4)) (fun _ => rfl) (kdX11_undo 19 rfl) (fun j4 => ?_)
    refine g_calV (ck_V (As := [.inr (.inr (12, j4))]) (S := []) (t := 12) (o := 40) (kdX11_undo 20 rfl) iX8_copy lX11_192 rc_12 rfl rfl rfl (by decide) (by simp only [List.map, vcat, List.sum_cons, List.sum_nil]; decide)) (CX8_copy 40 j4 m2) (fun m5 => ?_)
    refine g_aload_n 0 (kdX11_undo 21 rfl) rfl ?_
    refine g_get (v := .inl (m5.1 0 0 16)) (kdX11_undo 22 rfl) fX11_168 rfl ?_
    exact g_iret rfl (kdX11_undo 23 rfl)
  · refine g_iconst (v := (-1)) (kdX11_undo 3 rfl) (by decide) ?_
    exact g_iret rfl (kdX11_undo 4 rfl)
def JX11_image  (m : hM) : hR :=
  if (m.1 0 0 12) = 0 then (some (some (.inl (-1)), m)) else (calV (JX8_copy 41 40 m) fun m1 =>
  calV (JX5_copyLatest 1 0 (m1.1 12 40 6) m1) fun m2 =>
  stZ m2 0 0 13 1 fun m3 =>
  some (some (.inl (m3.1 12 40 6)), m3))
set_option maxRecDepth 20000 in
theorem CX11_image  (m : hM) : Cn mX11_image 3 [.inr (.inr (0, 0))] m (JX11_image  m) := by
  refine cn_of (by decide +kernel) (by simp only [List.map, vcat, List.sum_cons, List.sum_nil]; decide) ?_
  unfold JX11_image
  show G mX11_image 3 0 [(0, .inr (.inr (0, 0)))] [] m _
  refine g_aload_n 0 (kdX11_image 0 rfl) rfl ?_
  refine g_get (v := .inl (m.1 0 0 12)) (kdX11_image 1 rfl) fX11_106 rfl ?_
  refine g_if_ne (tgt := 9) (kdX11_image 2 rfl) (by decide) (fun _ => ?_) (fun _ => ?_)
  · refine g_aload_n 0 (kdX11_image 5 rfl) rfl ?_
    refine g_get (v := .inr (.inr (12, 41))) (kdX11_image 6 rfl) fX11_49 rfl ?_
    refine g_aload_n 0 (kdX11_image 7 rfl) rfl ?_
    refine g_get (v := .inr (.inr (12, 40))) (kdX11_image 8 rfl) fX11_32 rfl ?_
    refine g_calV (ck_V (As := [.inr (.inr (12, 40))]) (S := []) (t := 12) (o := 41) (kdX11_image 9 rfl) iX8_copy lX11_192 rc_12 rfl rfl rfl (by decide) (by simp only [List.map, vcat, List.sum_cons, List.sum_nil]; decide)) (CX8_copy 41 40 m) (fun m1 => ?_)
    refine g_aload_n 0 (kdX11_image 10 rfl) rfl ?_
    refine g_get (v := .inr (.inr (20, 1))) (kdX11_image 11 rfl) fX11_52 rfl ?_
    refine g_aload_n 0 (kdX11_image 12 rfl) rfl ?_
    refine g_get (v := .inr (.inr (20, 0))) (kdX11_image 13 rfl) fX11_45 rfl ?_
    refine g_aload_n 0 (kdX11_image 14 rfl) rfl ?_
    refine g_get (v := .inr (.inr (12, 40))) (kdX11_image 15 rfl) fX11_32 rfl ?_
    refine g_get (v := .inl (m1.1 12 40 6)) (kdX11_image 16 rfl) fX11_153 rfl ?_
    refine g_calV (ck_V (As := [.inr (.inr (20, 0)), .inl (m1.1 12 40 6)]) (S := []) (t := 20) (o := 1) (kdX11_image 17 rfl) iX5_copyLatest lX11_196 rc_20 rfl rfl rfl (by decide) (by simp only [List.map, vcat, List.sum_cons, List.sum_nil]; decide)) (CX5_copyLatest 1 0 (m1.1 12 40 6) m1) (fun m2 => ?_)
    refine g_aload_n 0 (kdX11_image 18 rfl) rfl ?_
    refine g_iconst (v := 1) (kdX11_image 19 rfl) (by decide) ?_
    refine g_putZ (kdX11_image 20 rfl) fX11_200 rfl (fun m3 => ?_)
    refine g_aload_n 0 (kdX11_image 21 rfl) rfl ?_
    refine g_get (v := .inr (.inr (12, 40))) (kdX11_image 22 rfl) fX11_32 rfl ?_
    refine g_get (v := .inl (m3.1 12 40 6)) (kdX11_image 23 rfl) fX11_153 rfl ?_
    exact g_iret rfl (kdX11_image 24 rfl)
  · refine g_iconst (v := (-1)) (kdX11_image 3 rfl) (by decide) ?_
    exact g_iret rfl (kdX11_image 4 rfl)
def JX11_back  (m : hM) : hR :=
  if (m.1 0 0 13) = 0 then (some (some (.inl (-1)), m)) else (calV (JX8_copy 40 41 m) fun m1 =>
  calV (JX5_copyLatest 0 1 (m1.1 12 40 6) m1) fun m2 =>
  stI m2 0 0 16 0 fun m3 =>
  some (some (.inl (m3.1 12 40 6)), m3))
set_option maxRecDepth 20000 in
theorem CX11_back  (m : hM) : Cn mX11_back 3 [.inr (.inr (0, 0))] m (JX11_back  m) := by
  refine cn_of (by decide +kernel) (by simp only [List.map, vcat, List.sum_cons, List.sum_nil]; decide) ?_
  unfold JX11_back
  show G mX11_back 3 0 [(0, .inr (.inr (0, 0)))] [] m _
  refine g_aload_n 0 (kdX11_back 0 rfl) rfl ?_
  refine g_get (v := .inl (m.1 0 0 13)) (kdX11_back 1 rfl) fX11_200 rfl ?_
  refine g_if_ne (tgt := 9) (kdX11_back 2 rfl) (by decide) (fun _ => ?_) (fun _ => ?_)
  · refine g_aload_n 0 (kdX11_back 5 rfl) rfl ?_
    refine g_get (v := .inr (.inr (12, 40))) (kdX11_back 6 rfl) fX11_32 rfl ?_
    refine g_aload_n 0 (kdX11_back 7 rfl) rfl ?_
    refine g_get (v := .inr (.inr (12, 41))) (kdX11_back 8 rfl) fX11_49 rfl ?_
    refine g_calV (ck_V (As := [.inr (.inr (12, 41))]) (S := []) (t := 12) (o := 40) (kdX11_back 9 rfl) iX8_copy lX11_192 rc_12 rfl rfl rfl (by decide) (by simp only [List.map, vcat, List.sum_cons, List.sum_nil]; decide)) (CX8_copy 40 41 m) (fun m1 => ?_)
    refine g_aload_n 0 (kdX11_back 10 rfl) rfl ?_
    refine g_get (v := .inr (.inr (20, 0))) (kdX11_back 11 rfl) fX11_45 rfl ?_
    refine g_aload_n 0 (kdX11_back 12 rfl) rfl ?_
    refine g_get (v := .inr (.inr (20, 1))) (kdX11_back 13 rfl) fX11_52 rfl ?_
    refine g_aload_n 0 (kdX11_back 14 rfl) rfl ?_
    refine g_get (v := .inr (.inr (12, 40))) (kdX11_back 15 rfl) fX11_32 rfl ?_
    refine g_get (v := .inl (m1.1 12 40 6)) (kdX11_back 16 rfl) fX11_153 rfl ?_
    refine g_calV (ck_V (As := [.inr (.inr (20, 1)), .inl (m1.1 12 40 6)]) (S := []) (t := 20) (o := 0) (kdX11_back 17 rfl) iX5_copyLatest lX11_196 rc_20 rfl rfl rfl (by decide) (by simp only [List.map, vcat, List.sum_cons, List.sum_nil]; decide)) (CX5_copyLatest 0 1 (m1.1 12 40 6) m1) (fun m2 => ?_)
    refine g_aload_n 0 (kdX11_back 18 rfl) rfl ?_
    refine g_iconst (v := 0) (kdX11_back 19 rfl) (by decide) ?_
    refine g_putI (kdX11_back 20 rfl) fX11_168 rfl (fun m3 => ?_)
    refine g_aload_n 0 (kdX11_back 21 rfl) rfl ?_
    refine g_get (v := .inr (.inr (12, 40))) (kdX11_back 22 rfl) fX11_32 rfl ?_
    refine g_get (v := .inl (m3.1 12 40 6)) (kdX11_back 23 rfl) fX11_153 rfl ?_
    exact g_iret rfl (kdX11_back 24 rfl)
  · refine g_iconst (v := (-1)) (kdX11_back 3 rfl) (by decide) ?_
    exact g_iret rfl (kdX11_back 4 rfl)
def JX11_isScript (a1 : Int32) (m : hM) : hR :=
  calI (JJ9_min_7cf53 (m.1 0 0 14) 4 m) fun x2 m1 =>
  calI (JX11_within a1 0 (x2 - 1) m1) fun x4 m3 =>
  jretZ x4 m3
set_option maxRecDepth 20000 in
theorem CX11_isScript (a1 : Int32) (m : hM) : Cn mX11_isScript 1 [.inr (.inr (0, 0)), .inl a1] m (JX11_isScript a1 m) := by
  refine cn_of (by decide +kernel) (by simp only [List.map, vcat, List.sum_cons, List.sum_nil]; decide) ?_
  unfold JX11_isScript
  show G mX11_isScript 1 0 [(0, .inr (.inr (0, 0))), (1, .inl a1)] [] m _
  refine g_iload_n 1 (kdX11_isScript 0 rfl) rfl ?_
  refine g_iconst (v := 0) (kdX11_isScript 1 rfl) (by decide) ?_
  refine g_aload_n 0 (kdX11_isScript 2 rfl) rfl ?_
  refine g_get (v := .inl (m.1 0 0 14)) (kdX11_isScript 3 rfl) fX11_162 rfl ?_
  refine g_iconst (v := 4) (kdX11_isScript 4 rfl) (by decide) ?_
  refine g_calI (ck_S (As := [.inl (m.1 0 0 14), .inl 4]) (S := [.inl 0, .inl a1]) (kdX11_isScript 5 rfl) iJ9_min_7cf53 lX11_361 rfl rfl rfl (by decide) (by simp only [List.map, vcat, List.sum_cons, List.sum_nil]; decide)) (CJ9_min_7cf53 (m.1 0 0 14) 4 m) (fun x2 m1 => ?_)
  refine g_iconst (v := 1) (kdX11_isScript 6 rfl) (by decide) ?_
  refine g_isub (kdX11_isScript 7 rfl) ?_
  refine g_calI (ck_S (As := [.inl a1, .inl 0, .inl (x2 - 1)]) (S := []) (kdX11_isScript 8 rfl) iX11_within lX11_110 rfl rfl rfl (by decide) (by simp only [List.map, vcat, List.sum_cons, List.sum_nil]; decide)) (CX11_within a1 0 (x2 - 1) m1) (fun x4 m3 => ?_)
  exact g_zret rfl (kdX11_isScript 9 rfl)
def JX11_step (a1 : Int32) (a2 : Int32) (a3 : Int32) (m : hM) : hR :=
  calI (JX11_isScript a1 m) fun x2 m1 =>
  if x2 = 0 then (some (some (.inl (-1000000000)), m1)) else (aal 38 a1 fun j3 =>
  calI (JX7_part j3 a2 a3 m1) fun x5 m4 =>
  some (some (.inl x5), m4))
set_option maxRecDepth 20000 in
theorem CX11_step (a1 : Int32) (a2 : Int32) (a3 : Int32) (m : hM) : Cn mX11_step 2 [.inr (.inr (0, 0)), .inl a1, .inl a2, .inl a3] m (JX11_step a1 a2 a3 m) := by
  refine cn_of (by decide +kernel) (by simp only [List.map, vcat, List.sum_cons, List.sum_nil]; decide) ?_
  unfold JX11_step
  show G mX11_step 2 0 [(0, .inr (.inr (0, 0))), (1, .inl a1), (2, .inl a2), (3, .inl a3)] [] m _
  refine g_aload_n 0 (kdX11_step 0 rfl) rfl ?_
  refine g_iload_n 1 (kdX11_step 1 rfl) rfl ?_
  refine g_calI (ck_V (As := [.inl a1]) (S := []) (t := 0) (o := 0) (kdX11_step 2 rfl) iX11_isScript lX11_203 rc_0 rfl rfl rfl (by decide) (by simp only [List.map, vcat, List.sum_cons, List.sum_nil]; decide)) (CX11_isScript a1 m) (fun x2 m1 => ?_)
  refine g_if_eq (tgt := 22) (kdX11_step 3 rfl) (by decide) (fun _ => ?_) (fun _ => ?_)
  · refine g_ldc (kdX11_step 12 rfl) cX11_118 ?_
    exact g_iret rfl (kdX11_step 13 rfl)
  · refine g_aload_n 0 (kdX11_step 4 rfl) rfl ?_
    refine g_get (v := .inr (.inr (38, 0))) (kdX11_step 5 rfl) fX11_25 rfl ?_
    refine g_iload_n 1 (kdX11_step 6 rfl) rfl ?_
    refine g_aald (fun j3 => (8, j3)) (fun _ => rfl) (kdX11_step 7 rfl) (fun j3 => ?_)
    refine g_iload_n 2 (kdX11_step 8 rfl) rfl ?_
    refine g_iload_n 3 (kdX11_step 9 rfl) rfl ?_
    refine g_calI (ck_V (As := [.inl a2, .inl a3]) (S := []) (t := 8) (o := j3) (kdX11_step 10 rfl) iX7_part lX11_206 rc_8 rfl rfl rfl (by decide) (by simp only [List.map, vcat, List.sum_cons, List.sum_nil]; decide)) (CX7_part j3 a2 a3 m1) (fun x5 m4 => ?_)
    refine g_goto (tgt := 24) (kdX11_step 11 rfl) (by decide) ?_
    exact g_iret rfl (kdX11_step 13 rfl)
def JX11_canStep (n1 : Nat) (n2 : Nat) (a3 : Int32) (m : hM) : hR :=
  calI (JX7_has n2 a3 m) fun x2 m1 =>
  if x2 = 0 then (jretZ 0 m1) else (ald m1 9 n2 a3 fun x3 =>
  ald m1 10 n2 a3 fun x4 =>
  ald m1 11 n2 a3 fun x5 =>
  calI (JX11_refusal n1 x3 x4 x5 m1) fun x7 m6 =>
  if x7 = (-1) then (jretZ 1 m6) else (jretZ 0 m6))
set_option maxRecDepth 20000 in
theorem CX11_canStep (n1 : Nat) (n2 : Nat) (a3 : Int32) (m : hM) : Cn mX11_canStep 6 [.inr (.inr (0, 0)), .inr (.inr (12, n1)), .inr (.inr (8, n2)), .inl a3] m (JX11_canStep n1 n2 a3 m) := by
  refine cn_of (by decide +kernel) (by simp only [List.map, vcat, List.sum_cons, List.sum_nil]; decide) ?_
  unfold JX11_canStep
  show G mX11_canStep 6 0 [(0, .inr (.inr (0, 0))), (1, .inr (.inr (12, n1))), (2, .inr (.inr (8, n2))), (3, .inl a3)] [] m _
  refine g_aload_n 2 (kdX11_canStep 0 rfl) rfl ?_
  refine g_iload_n 3 (kdX11_canStep 1 rfl) rfl ?_
  refine g_calI (ck_V (As := [.inl a3]) (S := []) (t := 8) (o := n2) (kdX11_canStep 2 rfl) iX7_has lX11_388 rc_8 rfl rfl rfl (by decide) (by simp only [List.map, vcat, List.sum_cons, List.sum_nil]; decide)) (CX7_has n2 a3 m) (fun x2 m1 => ?_)
  refine g_if_eq (tgt := 39) (kdX11_canStep 3 rfl) (by decide) (fun _ => ?_) (fun _ => ?_)
  · refine g_iconst (v := 0) (kdX11_canStep 23 rfl) (by decide) ?_
    exact g_zret rfl (kdX11_canStep 24 rfl)
  · refine g_aload_n 0 (kdX11_canStep 4 rfl) rfl ?_
    refine g_aload_n 1 (kdX11_canStep 5 rfl) rfl ?_
    refine g_aload_n 2 (kdX11_canStep 6 rfl) rfl ?_
    refine g_get (v := .inr (.inr (9, n2))) (kdX11_canStep 7 rfl) fX11_233 rfl ?_
    refine g_iload_n 3 (kdX11_canStep 8 rfl) rfl ?_
    refine g_iald (kdX11_canStep 9 rfl) (fun x3 => ?_)
    refine g_aload_n 2 (kdX11_canStep 10 rfl) rfl ?_
    refine g_get (v := .inr (.inr (10, n2))) (kdX11_canStep 11 rfl) fX11_236 rfl ?_
    refine g_iload_n 3 (kdX11_canStep 12 rfl) rfl ?_
    refine g_iald (kdX11_canStep 13 rfl) (fun x4 => ?_)
    refine g_aload_n 2 (kdX11_canStep 14 rfl) rfl ?_
    refine g_get (v := .inr (.inr (11, n2))) (kdX11_canStep 15 rfl) fX11_239 rfl ?_
    refine g_iload_n 3 (kdX11_canStep 16 rfl) rfl ?_
    refine g_iald (kdX11_canStep 17 rfl) (fun x5 => ?_)
    refine g_calI (ck_V (As := [.inr (.inr (12, n1)), .inl x3, .inl x4, .inl x5]) (S := []) (t := 0) (o := 0) (kdX11_canStep 18 rfl) iX11_refusal lX11_364 rc_0 rfl rfl rfl (by decide) (by simp only [List.map, vcat, List.sum_cons, List.sum_nil]; decide)) (CX11_refusal n1 x3 x4 x5 m1) (fun x7 m6 => ?_)
    refine g_iconst (v := (-1)) (kdX11_canStep 19 rfl) (by decide) ?_
    refine g_icmp_ne (tgt := 39) (kdX11_canStep 20 rfl) (by decide) (fun _ => ?_) (fun _ => ?_)
    · refine g_iconst (v := 0) (kdX11_canStep 23 rfl) (by decide) ?_
      exact g_zret rfl (kdX11_canStep 24 rfl)
    · refine g_iconst (v := 1) (kdX11_canStep 21 rfl) (by decide) ?_
      refine g_goto (tgt := 40) (kdX11_canStep 22 rfl) (by decide) ?_
      exact g_zret rfl (kdX11_canStep 24 rfl)
def JX11_tryStep (n1 : Nat) (n2 : Nat) (a3 : Int32) (m : hM) : hR :=
  calI (JX7_has n2 a3 m) fun x2 m1 =>
  if x2 = 0 then (some (none, m1)) else (ald m1 9 n2 a3 fun x3 =>
  if x3 = 0 then (ald m1 10 n2 a3 fun x9 =>
  calI (JX8_wrongIn n1 0 x9 m1) fun x11 m10 =>
  some (none, m10)) else (ald m1 9 n2 a3 fun x4 =>
  ald m1 10 n2 a3 fun x5 =>
  ald m1 11 n2 a3 fun x6 =>
  calI (JX11_carryOut n1 x4 x5 x6 m1) fun x8 m7 =>
  some (none, m7)))
set_option maxRecDepth 20000 in
theorem CX11_tryStep (n1 : Nat) (n2 : Nat) (a3 : Int32) (m : hM) : Cn mX11_tryStep 6 [.inr (.inr (0, 0)), .inr (.inr (12, n1)), .inr (.inr (8, n2)), .inl a3] m (JX11_tryStep n1 n2 a3 m) := by
  refine cn_of (by decide +kernel) (by simp only [List.map, vcat, List.sum_cons, List.sum_nil]; decide) ?_
  unfold JX11_tryStep
  show G mX11_tryStep 6 0 [(0, .inr (.inr (0, 0))), (1, .inr (.inr (12, n1))), (2, .inr (.inr (8, n2))), (3, .inl a3)] [] m _
  refine g_aload_n 2 (kdX11_tryStep 0 rfl) rfl ?_
  refine g_iload_n 3 (kdX11_tryStep 1 rfl) rfl ?_
  refine g_calI (ck_V (As := [.inl a3]) (S := []) (t := 8) (o := n2) (kdX11_tryStep 2 rfl) iX7_has lX11_388 rc_8 rfl rfl rfl (by decide) (by simp only [List.map, vcat, List.sum_cons, List.sum_nil]; decide)) (CX7_has n2 a3 m) (fun x2 m1 => ?_)
  refine g_if_ne (tgt := 9) (kdX11_tryStep 3 rfl) (by decide) (fun _ => ?_) (fun _ => ?_)
  · refine g_aload_n 2 (kdX11_tryStep 5 rfl) rfl ?_
    refine g_get (v := .inr (.inr (9, n2))) (kdX11_tryStep 6 rfl) fX11_233 rfl ?_
    refine g_iload_n 3 (kdX11_tryStep 7 rfl) rfl ?_
    refine g_iald (kdX11_tryStep 8 rfl) (fun x3 => ?_)
    refine g_if_ne (tgt := 36) (kdX11_tryStep 9 rfl) (by decide) (fun _ => ?_) (fun _ => ?_)
    · refine g_aload_n 0 (kdX11_tryStep 20 rfl) rfl ?_
      refine g_aload_n 1 (kdX11_tryStep 21 rfl) rfl ?_
      refine g_aload_n 2 (kdX11_tryStep 22 rfl) rfl ?_
      refine g_get (v := .inr (.inr (9, n2))) (kdX11_tryStep 23 rfl) fX11_233 rfl ?_
      refine g_iload_n 3 (kdX11_tryStep 24 rfl) rfl ?_
      refine g_iald (kdX11_tryStep 25 rfl) (fun x4 => ?_)
      refine g_aload_n 2 (kdX11_tryStep 26 rfl) rfl ?_
      refine g_get (v := .inr (.inr (10, n2))) (kdX11_tryStep 27 rfl) fX11_236 rfl ?_
      refine g_iload_n 3 (kdX11_tryStep 28 rfl) rfl ?_
      refine g_iald (kdX11_tryStep 29 rfl) (fun x5 => ?_)
      refine g_aload_n 2 (kdX11_tryStep 30 rfl) rfl ?_
      refine g_get (v := .inr (.inr (11, n2))) (kdX11_tryStep 31 rfl) fX11_239 rfl ?_
      refine g_iload_n 3 (kdX11_tryStep 32 rfl) rfl ?_
      refine g_iald (kdX11_tryStep 33 rfl) (fun x6 => ?_)
      refine g_calI (ck_V (As := [.inr (.inr (12, n1)), .inl x4, .inl x5, .inl x6]) (S := []) (t := 0) (o := 0) (kdX11_tryStep 34 rfl) iX11_carryOut lX11_391 rc_0 rfl rfl rfl (by decide) (by simp only [List.map, vcat, List.sum_cons, List.sum_nil]; decide)) (CX11_carryOut n1 x4 x5 x6 m1) (fun x8 m7 => ?_)
      refine g_pop (kdX11_tryStep 35 rfl) rfl ?_
      exact g_vret rfl (kdX11_tryStep 36 rfl)
    · refine g_aload_n 1 (kdX11_tryStep 10 rfl) rfl ?_
      refine g_aload_n 0 (kdX11_tryStep 11 rfl) rfl ?_
      refine g_get (v := .inr (.inr (4, 0))) (kdX11_tryStep 12 rfl) fX11_19 rfl ?_
      refine g_aload_n 2 (kdX11_tryStep 13 rfl) rfl ?_
      refine g_get (v := .inr (.inr (10, n2))) (kdX11_tryStep 14 rfl) fX11_236 rfl ?_
      refine g_iload_n 3 (kdX11_tryStep 15 rfl) rfl ?_
      refine g_iald (kdX11_tryStep 16 rfl) (fun x9 => ?_)
      refine g_calI (ck_V (As := [.inr (.inr (4, 0)), .inl x9]) (S := []) (t := 12) (o := n1) (kdX11_tryStep 17 rfl) iX8_wrongIn lX11_313 rc_12 rfl rfl rfl (by decide) (by simp only [List.map, vcat, List.sum_cons, List.sum_nil]; decide)) (CX8_wrongIn n1 0 x9 m1) (fun x11 m10 => ?_)
      refine g_pop (kdX11_tryStep 18 rfl) rfl ?_
      refine g_goto (tgt := 60) (kdX11_tryStep 19 rfl) (by decide) ?_
      exact g_vret rfl (kdX11_tryStep 36 rfl)
  · exact g_vret rfl (kdX11_tryStep 4 rfl)
def bJX11_run_63 (K63 : Int32 → Int32 → hM → hR) (K102 : Int32 → hM → hR) (v2 : Int32) (w3 : Nat) (w4 : Nat) (v5 : Int32) (v6 : Int32) (v7 : Int32) (m : hM) : hR :=
  if (m.1 8 w3 3) ≤ v7 then (K102 v6 m) else (calI (JX11_canStep w4 w3 v7 m) fun x10 m9 =>
  if x10 = 0 then (K102 v6 m9) else (calV (JX11_tryStep w4 w3 v7 m9) fun m11 =>
  K63 (v6 + 1) (v7 + 1) m11))
set_option maxRecDepth 20000 in
theorem BbJX11_run_63 (K63 : Int32 → Int32 → hM → hR) (K102 : Int32 → hM → hR) (v2 : Int32) (w3 : Nat) (w4 : Nat) (v5 : Int32) (h63 : ∀ (v6 : Int32) (v7 : Int32) (m : hM), G mX11_run 7 63 [(0, .inr (.inr (0, 0))), (2, .inl v2), (3, .inr (.inr (8, w3))), (4, .inr (.inr (12, w4))), (5, .inl v5), (6, .inl v6), (7, .inl v7)] [] m (K63 v6 v7 m)) (h102 : ∀ (v6 : Int32) (m : hM), G mX11_run 7 102 [(2, .inl v2), (3, .inr (.inr (8, w3))), (4, .inr (.inr (12, w4))), (5, .inl v5), (6, .inl v6)] [] m (K102 v6 m)) (v6 : Int32) (v7 : Int32) (m : hM) : G mX11_run 7 63 [(0, .inr (.inr (0, 0))), (2, .inl v2), (3, .inr (.inr (8, w3))), (4, .inr (.inr (12, w4))), (5, .inl v5), (6, .inl v6), (7, .inl v7)] [] m (bJX11_run_63 K63 K102 v2 w3 w4 v5 v6 v7 m) := by
  unfold bJX11_run_63
  refine g_iload 6 (kdX11_run 33 rfl) rfl ?_
  refine g_aload_n 2 (kdX11_run 34 rfl) rfl ?_
  refine g_get (v := .inl (m.1 8 w3 3)) (kdX11_run 35 rfl) fX11_222 rfl ?_
  refine g_icmp_ge (tgt := 102) (kdX11_run 36 rfl) (by decide) (fun _ => ?_) (fun _ => ?_)
  · exact g_fgt [1, 2, 3, 4, 5] rfl (h102 v6 m)
  · refine g_aload_n 0 (kdX11_run 37 rfl) rfl ?_
    refine g_aload 3 (kdX11_run 38 rfl) rfl ?_
    refine g_aload_n 2 (kdX11_run 39 rfl) rfl ?_
    refine g_iload 6 (kdX11_run 40 rfl) rfl ?_
    refine g_calI (ck_V (As := [.inr (.inr (12, w4)), .inr (.inr (8, w3)), .inl v7]) (S := []) (t := 0) (o := 0) (kdX11_run 41 rfl) iX11_canStep lX11_225 rc_0 rfl rfl rfl (by decide) (by simp only [List.map, vcat, List.sum_cons, List.sum_nil]; decide)) (CX11_canStep w4 w3 v7 m) (fun x10 m9 => ?_)
    refine g_if_eq (tgt := 102) (kdX11_run 42 rfl) (by decide) (fun _ => ?_) (fun _ => ?_)
    · exact g_fgt [1, 2, 3, 4, 5] rfl (h102 v6 m9)
    · refine g_aload_n 0 (kdX11_run 43 rfl) rfl ?_
      refine g_aload 3 (kdX11_run 44 rfl) rfl ?_
      refine g_aload_n 2 (kdX11_run 45 rfl) rfl ?_
      refine g_iload 6 (kdX11_run 46 rfl) rfl ?_
      refine g_calV (ck_V (As := [.inr (.inr (12, w4)), .inr (.inr (8, w3)), .inl v7]) (S := []) (t := 0) (o := 0) (kdX11_run 47 rfl) iX11_tryStep lX11_229 rc_0 rfl rfl rfl (by decide) (by simp only [List.map, vcat, List.sum_cons, List.sum_nil]; decide)) (CX11_tryStep w4 w3 v7 m9) (fun m11 => ?_)
      refine g_iinc (v := v6 + 1) (L2 := [(6, .inl (v6 + 1)), (0, .inr (.inr (0, 0))), (2, .inl v2), (3, .inr (.inr (8, w3))), (4, .inr (.inr (12, w4))), (5, .inl v5), (7, .inl v7)]) 5 (kdX11_run 48 rfl) rfl rfl rfl (by decide) ?_
      refine g_iinc (v := v7 + 1) (L2 := [(7, .inl (v7 + 1)), (6, .inl (v6 + 1)), (0, .inr (.inr (0, 0))), (2, .inl v2), (3, .inr (.inr (8, w3))), (4, .inr (.inr (12, w4))), (5, .inl v5)]) 6 (kdX11_run 49 rfl) rfl rfl rfl (by decide) ?_
      refine g_goto (tgt := 63) (kdX11_run 50 rfl) (by decide) ?_
      exact g_fgt [2, 3, 4, 5, 6, 1, 0] rfl (h63 (v6 + 1) (v7 + 1) m11)
def JX11_run_63 (K102 : Int32 → hM → hR) (v2 : Int32) (w3 : Nat) (w4 : Nat) (v5 : Int32) : Nat → Int32 → Int32 → hM → hR
  | 0, _, _, _ => none
  | f + 1, v6, v7, m => bJX11_run_63 (fun v6 v7 m => JX11_run_63 K102 v2 w3 w4 v5 f v6 v7 m) K102 v2 w3 w4 v5 v6 v7 m
theorem BJX11_run_63 (K102 : Int32 → hM → hR) (v2 : Int32) (w3 : Nat) (w4 : Nat) (v5 : Int32) (h102 : ∀ (v6 : Int32) (m : hM), G mX11_run 7 102 [(2, .inl v2), (3, .inr (.inr (8, w3))), (4, .inr (.inr (12, w4))), (5, .inl v5), (6, .inl v6)] [] m (K102 v6 m)) : ∀ (f : Nat) (v6 : Int32) (v7 : Int32) (m : hM), G mX11_run 7 63 [(0, .inr (.inr (0, 0))), (2, .inl v2), (3, .inr (.inr (8, w3))), (4, .inr (.inr (12, w4))), (5, .inl v5), (6, .inl v6), (7, .inl v7)] [] m (JX11_run_63 K102 v2 w3 w4 v5 f v6 v7 m)
  | 0, _, _, _ => g_none
  | f + 1, v6, v7, m => BbJX11_run_63  _ K102 v2 w3 w4 v5 (fun v6 v7 m => BJX11_run_63  K102 v2 w3 w4 v5 h102 f v6 v7 m) h102 v6 v7 m
def JX11_run_102 (v2 : Int32) (w3 : Nat) (w4 : Nat) (v5 : Int32) (v6 : Int32) (m : hM) : hR :=
  if v2 = 1 then (some (some (.inl ((m.1 18 w4 3) - v5)), m)) else (if v6 = (m.1 8 w3 3) then (some (some (.inl (-1)), m)) else (some (some (.inl v6), m)))
set_option maxRecDepth 20000 in
theorem BX11_run_102 (v2 : Int32) (w3 : Nat) (w4 : Nat) (v5 : Int32) (v6 : Int32) (m : hM) : G mX11_run 7 102 [(2, .inl v2), (3, .inr (.inr (8, w3))), (4, .inr (.inr (12, w4))), (5, .inl v5), (6, .inl v6)] [] m (JX11_run_102 v2 w3 w4 v5 v6 m) := by
  unfold JX11_run_102
  refine g_iload_n 0 (kdX11_run 51 rfl) rfl ?_
  refine g_iconst (v := 1) (kdX11_run 52 rfl) (by decide) ?_
  refine g_icmp_ne (tgt := 119) (kdX11_run 53 rfl) (by decide) (fun _ => ?_) (fun _ => ?_)
  · refine g_iload 4 (kdX11_run 60 rfl) rfl ?_
    refine g_aload_n 1 (kdX11_run 61 rfl) rfl ?_
    refine g_get (v := .inl (m.1 8 w3 3)) (kdX11_run 62 rfl) fX11_222 rfl ?_
    refine g_icmp_ne (tgt := 132) (kdX11_run 63 rfl) (by decide) (fun _ => ?_) (fun _ => ?_)
    · refine g_iload 4 (kdX11_run 66 rfl) rfl ?_
      exact g_iret rfl (kdX11_run 67 rfl)
    · refine g_iconst (v := (-1)) (kdX11_run 64 rfl) (by decide) ?_
      refine g_goto (tgt := 134) (kdX11_run 65 rfl) (by decide) ?_
      exact g_iret rfl (kdX11_run 67 rfl)
  · refine g_aload 2 (kdX11_run 54 rfl) rfl ?_
    refine g_get (v := .inr (.inr (18, w4))) (kdX11_run 55 rfl) fX11_213 rfl ?_
    refine g_get (v := .inl (m.1 18 w4 3)) (kdX11_run 56 rfl) fX11_217 rfl ?_
    refine g_iload 3 (kdX11_run 57 rfl) rfl ?_
    refine g_isub (kdX11_run 58 rfl) ?_
    exact g_iret rfl (kdX11_run 59 rfl)
def JX11_run (a1 : Int32) (a2 : Int32) (m : hM) : hR :=
  if (m.1 0 0 12) = 0 then (some (some (.inl (-1000000000)), m)) else (calI (JX11_isScript a1 m) fun x2 m1 =>
  if x2 = 0 then (some (some (.inl (-1000000000)), m1)) else (calI (JX11_within a2 0 1 m1) fun x4 m3 =>
  if x4 = 0 then (some (some (.inl (-1000000000)), m3)) else (aal 38 a1 fun j5 =>
  calA 12 (JX0_copyOf 40 m3) fun x7 m6 =>
  lt (m6.1 18 x7 3) fun x8 =>
  JX11_run_63 (fun v6 m12 => JX11_run_102 a2 j5 x7 x8 v6 m12) a2 j5 x7 x8 FU 0 0 m6)))
set_option maxRecDepth 20000 in
theorem CX11_run (a1 : Int32) (a2 : Int32) (m : hM) : Cn mX11_run 7 [.inr (.inr (0, 0)), .inl a1, .inl a2] m (JX11_run a1 a2 m) := by
  refine cn_of (by decide +kernel) (by simp only [List.map, vcat, List.sum_cons, List.sum_nil]; decide) ?_
  unfold JX11_run
  show G mX11_run 7 0 [(0, .inr (.inr (0, 0))), (1, .inl a1), (2, .inl a2)] [] m _
  refine g_aload_n 0 (kdX11_run 0 rfl) rfl ?_
  refine g_get (v := .inl (m.1 0 0 12)) (kdX11_run 1 rfl) fX11_106 rfl ?_
  refine g_if_eq (tgt := 24) (kdX11_run 2 rfl) (by decide) (fun _ => ?_) (fun _ => ?_)
  · refine g_ldc (kdX11_run 12 rfl) cX11_118 ?_
    exact g_iret rfl (kdX11_run 13 rfl)
  · refine g_aload_n 0 (kdX11_run 3 rfl) rfl ?_
    refine g_iload_n 1 (kdX11_run 4 rfl) rfl ?_
    refine g_calI (ck_V (As := [.inl a1]) (S := []) (t := 0) (o := 0) (kdX11_run 5 rfl) iX11_isScript lX11_203 rc_0 rfl rfl rfl (by decide) (by simp only [List.map, vcat, List.sum_cons, List.sum_nil]; decide)) (CX11_isScript a1 m) (fun x2 m1 => ?_)
    refine g_if_eq (tgt := 24) (kdX11_run 6 rfl) (by decide) (fun _ => ?_) (fun _ => ?_)
    · refine g_ldc (kdX11_run 12 rfl) cX11_118 ?_
      exact g_iret rfl (kdX11_run 13 rfl)
    · refine g_iload_n 2 (kdX11_run 7 rfl) rfl ?_
      refine g_iconst (v := 0) (kdX11_run 8 rfl) (by decide) ?_
      refine g_iconst (v := 1) (kdX11_run 9 rfl) (by decide) ?_
      refine g_calI (ck_S (As := [.inl a2, .inl 0, .inl 1]) (S := []) (kdX11_run 10 rfl) iX11_within lX11_110 rfl rfl rfl (by decide) (by simp only [List.map, vcat, List.sum_cons, List.sum_nil]; decide)) (CX11_within a2 0 1 m1) (fun x4 m3 => ?_)
      refine g_if_ne (tgt := 27) (kdX11_run 11 rfl) (by decide) (fun _ => ?_) (fun _ => ?_)
      · refine g_aload_n 0 (kdX11_run 14 rfl) rfl ?_
        refine g_get (v := .inr (.inr (38, 0))) (kdX11_run 15 rfl) fX11_25 rfl ?_
        refine g_iload_n 1 (kdX11_run 16 rfl) rfl ?_
        refine g_aald (fun j5 => (8, j5)) (fun _ => rfl) (kdX11_run 17 rfl) (fun j5 => ?_)
        refine g_astore_n (L2 := [(3, .inr (.inr (8, j5))), (0, .inr (.inr (0, 0))), (1, .inl a1), (2, .inl a2)]) (kdX11_run 18 rfl) rfl (by decide) ?_
        refine g_aload_n 1 (kdX11_run 19 rfl) rfl ?_
        refine g_get (v := .inr (.inr (34, 0))) (kdX11_run 20 rfl) fX11_72 rfl ?_
        refine g_aload_n 1 (kdX11_run 21 rfl) rfl ?_
        refine g_get (v := .inr (.inr (12, 40))) (kdX11_run 22 rfl) fX11_32 rfl ?_
        refine g_calA (ck_V (As := [.inr (.inr (12, 40))]) (S := []) (t := 34) (o := 0) (kdX11_run 23 rfl) iX0_copyOf lX11_209 rc_34 rfl rfl rfl (by decide) (by simp only [List.map, vcat, List.sum_cons, List.sum_nil]; decide)) (CX0_copyOf 40 m3) (fun x7 m6 => ?_)
        refine g_astore (L2 := [(4, .inr (.inr (12, x7))), (3, .inr (.inr (8, j5))), (0, .inr (.inr (0, 0))), (1, .inl a1), (2, .inl a2)]) (kdX11_run 24 rfl) rfl (by decide) ?_
        refine g_aload 0 (kdX11_run 25 rfl) rfl ?_
        refine g_get (v := .inr (.inr (18, x7))) (kdX11_run 26 rfl) fX11_213 rfl ?_
        refine g_get (v := .inl (m6.1 18 x7 3)) (kdX11_run 27 rfl) fX11_217 rfl ?_
        refine g_lt (fun x8 => ?_)
        refine g_istore (L2 := [(5, .inl x8), (4, .inr (.inr (12, x7))), (3, .inr (.inr (8, j5))), (0, .inr (.inr (0, 0))), (1, .inl a1), (2, .inl a2)]) (kdX11_run 28 rfl) rfl (by decide) ?_
        refine g_iconst (v := 0) (kdX11_run 29 rfl) (by decide) ?_
        refine g_istore (L2 := [(6, .inl 0), (5, .inl x8), (4, .inr (.inr (12, x7))), (3, .inr (.inr (8, j5))), (0, .inr (.inr (0, 0))), (1, .inl a1), (2, .inl a2)]) (kdX11_run 30 rfl) rfl (by decide) ?_
        refine g_iconst (v := 0) (kdX11_run 31 rfl) (by decide) ?_
        refine g_istore (L2 := [(7, .inl 0), (6, .inl 0), (5, .inl x8), (4, .inr (.inr (12, x7))), (3, .inr (.inr (8, j5))), (0, .inr (.inr (0, 0))), (1, .inl a1), (2, .inl a2)]) (kdX11_run 32 rfl) rfl (by decide) ?_
        refine g_fgt [5, 7, 4, 3, 2, 1, 0] rfl (BJX11_run_63  _ a2 j5 x7 x8 ?_ FU 0 0 m6)
        · intro v6 m12
          exact g_fgt [0, 1, 2, 3, 4] rfl (BX11_run_102 a2 j5 x7 x8 v6 m12)
      · refine g_ldc (kdX11_run 12 rfl) cX11_118 ?_
        exact g_iret rfl (kdX11_run 13 rfl)
def bJX11_perform_29 (K29 : Int32 → Int32 → hM → hR) (K87 : Int32 → hM → hR) (w2 : Nat) (v3 : Int32) (v4 : Int32) (m : hM) : hR :=
  if (m.1 8 w2 3) ≤ v4 then (K87 v3 m) else (calI (JX11_canStep 40 w2 v4 m) fun x5 m4 =>
  if x5 = 0 then (K87 v3 m4) else (ald m4 9 w2 v4 fun x6 =>
  ald m4 10 w2 v4 fun x7 =>
  ald m4 11 w2 v4 fun x8 =>
  calI (JX11_act x6 x7 x8 m4) fun x10 m9 =>
  K29 (v3 + 1) (v4 + 1) m9))
set_option maxRecDepth 20000 in
theorem BbJX11_perform_29 (K29 : Int32 → Int32 → hM → hR) (K87 : Int32 → hM → hR) (w2 : Nat) (h29 : ∀ (v3 : Int32) (v4 : Int32) (m : hM), G mX11_perform 7 29 [(0, .inr (.inr (0, 0))), (2, .inr (.inr (8, w2))), (3, .inl v3), (4, .inl v4)] [] m (K29 v3 v4 m)) (h87 : ∀ (v3 : Int32) (m : hM), G mX11_perform 7 87 [(3, .inl v3)] [] m (K87 v3 m)) (v3 : Int32) (v4 : Int32) (m : hM) : G mX11_perform 7 29 [(0, .inr (.inr (0, 0))), (2, .inr (.inr (8, w2))), (3, .inl v3), (4, .inl v4)] [] m (bJX11_perform_29 K29 K87 w2 v3 v4 m) := by
  unfold bJX11_perform_29
  refine g_iload 3 (kdX11_perform 18 rfl) rfl ?_
  refine g_aload_n 1 (kdX11_perform 19 rfl) rfl ?_
  refine g_get (v := .inl (m.1 8 w2 3)) (kdX11_perform 20 rfl) fX11_222 rfl ?_
  refine g_icmp_ge (tgt := 87) (kdX11_perform 21 rfl) (by decide) (fun _ => ?_) (fun _ => ?_)
  · exact g_fgt [2] rfl (h87 v3 m)
  · refine g_aload_n 0 (kdX11_perform 22 rfl) rfl ?_
    refine g_aload_n 0 (kdX11_perform 23 rfl) rfl ?_
    refine g_get (v := .inr (.inr (12, 40))) (kdX11_perform 24 rfl) fX11_32 rfl ?_
    refine g_aload_n 1 (kdX11_perform 25 rfl) rfl ?_
    refine g_iload 3 (kdX11_perform 26 rfl) rfl ?_
    refine g_calI (ck_V (As := [.inr (.inr (12, 40)), .inr (.inr (8, w2)), .inl v4]) (S := []) (t := 0) (o := 0) (kdX11_perform 27 rfl) iX11_canStep lX11_225 rc_0 rfl rfl rfl (by decide) (by simp only [List.map, vcat, List.sum_cons, List.sum_nil]; decide)) (CX11_canStep 40 w2 v4 m) (fun x5 m4 => ?_)
    refine g_if_eq (tgt := 87) (kdX11_perform 28 rfl) (by decide) (fun _ => ?_) (fun _ => ?_)
    · exact g_fgt [2] rfl (h87 v3 m4)
    · refine g_aload_n 0 (kdX11_perform 29 rfl) rfl ?_
      refine g_aload_n 1 (kdX11_perform 30 rfl) rfl ?_
      refine g_get (v := .inr (.inr (9, w2))) (kdX11_perform 31 rfl) fX11_233 rfl ?_
      refine g_iload 3 (kdX11_perform 32 rfl) rfl ?_
      refine g_iald (kdX11_perform 33 rfl) (fun x6 => ?_)
      refine g_aload_n 1 (kdX11_perform 34 rfl) rfl ?_
      refine g_get (v := .inr (.inr (10, w2))) (kdX11_perform 35 rfl) fX11_236 rfl ?_
      refine g_iload 3 (kdX11_perform 36 rfl) rfl ?_
      refine g_iald (kdX11_perform 37 rfl) (fun x7 => ?_)
      refine g_aload_n 1 (kdX11_perform 38 rfl) rfl ?_
      refine g_get (v := .inr (.inr (11, w2))) (kdX11_perform 39 rfl) fX11_239 rfl ?_
      refine g_iload 3 (kdX11_perform 40 rfl) rfl ?_
      refine g_iald (kdX11_perform 41 rfl) (fun x8 => ?_)
      refine g_calI (ck_V (As := [.inl x6, .inl x7, .inl x8]) (S := []) (t := 0) (o := 0) (kdX11_perform 42 rfl) iX11_act lX11_174 rc_0 rfl rfl rfl (by decide) (by simp only [List.map, vcat, List.sum_cons, List.sum_nil]; decide)) (CX11_act x6 x7 x8 m4) (fun x10 m9 => ?_)
      refine g_pop (kdX11_perform 43 rfl) rfl ?_
      refine g_iinc (v := v3 + 1) (L2 := [(3, .inl (v3 + 1)), (0, .inr (.inr (0, 0))), (2, .inr (.inr (8, w2))), (4, .inl v4)]) 2 (kdX11_perform 44 rfl) rfl rfl rfl (by decide) ?_
      refine g_iinc (v := v4 + 1) (L2 := [(4, .inl (v4 + 1)), (3, .inl (v3 + 1)), (0, .inr (.inr (0, 0))), (2, .inr (.inr (8, w2)))]) 3 (kdX11_perform 45 rfl) rfl rfl rfl (by decide) ?_
      refine g_goto (tgt := 29) (kdX11_perform 46 rfl) (by decide) ?_
      exact g_fgt [2, 3, 1, 0] rfl (h29 (v3 + 1) (v4 + 1) m9)
def JX11_perform_29 (K87 : Int32 → hM → hR) (w2 : Nat) : Nat → Int32 → Int32 → hM → hR
  | 0, _, _, _ => none
  | f + 1, v3, v4, m => bJX11_perform_29 (fun v3 v4 m => JX11_perform_29 K87 w2 f v3 v4 m) K87 w2 v3 v4 m
theorem BJX11_perform_29 (K87 : Int32 → hM → hR) (w2 : Nat) (h87 : ∀ (v3 : Int32) (m : hM), G mX11_perform 7 87 [(3, .inl v3)] [] m (K87 v3 m)) : ∀ (f : Nat) (v3 : Int32) (v4 : Int32) (m : hM), G mX11_perform 7 29 [(0, .inr (.inr (0, 0))), (2, .inr (.inr (8, w2))), (3, .inl v3), (4, .inl v4)] [] m (JX11_perform_29 K87 w2 f v3 v4 m)
  | 0, _, _, _ => g_none
  | f + 1, v3, v4, m => BbJX11_perform_29  _ K87 w2 (fun v3 v4 m => BJX11_perform_29  K87 w2 h87 f v3 v4 m) h87 v3 v4 m
def JX11_perform (a1 : Int32) (m : hM) : hR :=
  if (m.1 0 0 12) = 0 then (some (some (.inl (-1)), m)) else (calI (JX11_isScript a1 m) fun x2 m1 =>
  if x2 = 0 then (some (some (.inl (-1)), m1)) else (aal 38 a1 fun j3 =>
  JX11_perform_29 (fun v3 m11 => some (some (.inl v3), m11)) j3 FU 0 0 m1))
set_option maxRecDepth 20000 in
theorem CX11_perform (a1 : Int32) (m : hM) : Cn mX11_perform 7 [.inr (.inr (0, 0)), .inl a1] m (JX11_perform a1 m) := by
  refine cn_of (by decide +kernel) (by simp only [List.map, vcat, List.sum_cons, List.sum_nil]; decide) ?_
  unfold JX11_perform
  show G mX11_perform 7 0 [(0, .inr (.inr (0, 0))), (1, .inl a1)] [] m _
  refine g_aload_n 0 (kdX11_perform 0 rfl) rfl ?_
  refine g_get (v := .inl (m.1 0 0 12)) (kdX11_perform 1 rfl) fX11_106 rfl ?_
  refine g_if_eq (tgt := 15) (kdX11_perform 2 rfl) (by decide) (fun _ => ?_) (fun _ => ?_)
  · refine g_iconst (v := (-1)) (kdX11_perform 7 rfl) (by decide) ?_
    exact g_iret rfl (kdX11_perform 8 rfl)
  · refine g_aload_n 0 (kdX11_perform 3 rfl) rfl ?_
    refine g_iload_n 1 (kdX11_perform 4 rfl) rfl ?_
    refine g_calI (ck_V (As := [.inl a1]) (S := []) (t := 0) (o := 0) (kdX11_perform 5 rfl) iX11_isScript lX11_203 rc_0 rfl rfl rfl (by decide) (by simp only [List.map, vcat, List.sum_cons, List.sum_nil]; decide)) (CX11_isScript a1 m) (fun x2 m1 => ?_)
    refine g_if_ne (tgt := 17) (kdX11_perform 6 rfl) (by decide) (fun _ => ?_) (fun _ => ?_)
    · refine g_aload_n 0 (kdX11_perform 9 rfl) rfl ?_
      refine g_get (v := .inr (.inr (38, 0))) (kdX11_perform 10 rfl) fX11_25 rfl ?_
      refine g_iload_n 1 (kdX11_perform 11 rfl) rfl ?_
      refine g_aald (fun j3 => (8, j3)) (fun _ => rfl) (kdX11_perform 12 rfl) (fun j3 => ?_)
      refine g_astore_n (L2 := [(2, .inr (.inr (8, j3))), (0, .inr (.inr (0, 0))), (1, .inl a1)]) (kdX11_perform 13 rfl) rfl (by decide) ?_
      refine g_iconst (v := 0) (kdX11_perform 14 rfl) (by decide) ?_
      refine g_istore_n (L2 := [(3, .inl 0), (2, .inr (.inr (8, j3))), (0, .inr (.inr (0, 0))), (1, .inl a1)]) (kdX11_perform 15 rfl) rfl (by decide) ?_
      refine g_iconst (v := 0) (kdX11_perform 16 rfl) (by decide) ?_
      refine g_istore (L2 := [(4, .inl 0), (3, .inl 0), (2, .inr (.inr (8, j3))), (0, .inr (.inr (0, 0))), (1, .inl a1)]) (kdX11_perform 17 rfl) rfl (by decide) ?_
      refine g_fgt [3, 2, 1, 0] rfl (BJX11_perform_29  _ j3 ?_ FU 0 0 m1)
      · intro v3 m11
        refine g_iload_n 0 (kdX11_perform 47 rfl) rfl ?_
        exact g_iret rfl (kdX11_perform 48 rfl)
    · refine g_iconst (v := (-1)) (kdX11_perform 7 rfl) (by decide) ?_
      exact g_iret rfl (kdX11_perform 8 rfl)
def JX11_isPhase (a1 : Int32) (m : hM) : hR :=
  if (m.1 0 0 12) = 0 then (jretZ 0 m) else (calI (JX11_within a1 0 3 m) fun x2 m1 =>
  if x2 = 0 then (jretZ 0 m1) else (jretZ 1 m1))
set_option maxRecDepth 20000 in
theorem CX11_isPhase (a1 : Int32) (m : hM) : Cn mX11_isPhase 1 [.inr (.inr (0, 0)), .inl a1] m (JX11_isPhase a1 m) := by
  refine cn_of (by decide +kernel) (by simp only [List.map, vcat, List.sum_cons, List.sum_nil]; decide) ?_
  unfold JX11_isPhase
  show G mX11_isPhase 1 0 [(0, .inr (.inr (0, 0))), (1, .inl a1)] [] m _
  refine g_aload_n 0 (kdX11_isPhase 0 rfl) rfl ?_
  refine g_get (v := .inl (m.1 0 0 12)) (kdX11_isPhase 1 rfl) fX11_106 rfl ?_
  refine g_if_eq (tgt := 20) (kdX11_isPhase 2 rfl) (by decide) (fun _ => ?_) (fun _ => ?_)
  · refine g_iconst (v := 0) (kdX11_isPhase 10 rfl) (by decide) ?_
    exact g_zret rfl (kdX11_isPhase 11 rfl)
  · refine g_iload_n 1 (kdX11_isPhase 3 rfl) rfl ?_
    refine g_iconst (v := 0) (kdX11_isPhase 4 rfl) (by decide) ?_
    refine g_iconst (v := 3) (kdX11_isPhase 5 rfl) (by decide) ?_
    refine g_calI (ck_S (As := [.inl a1, .inl 0, .inl 3]) (S := []) (kdX11_isPhase 6 rfl) iX11_within lX11_110 rfl rfl rfl (by decide) (by simp only [List.map, vcat, List.sum_cons, List.sum_nil]; decide)) (CX11_within a1 0 3 m) (fun x2 m1 => ?_)
    refine g_if_eq (tgt := 20) (kdX11_isPhase 7 rfl) (by decide) (fun _ => ?_) (fun _ => ?_)
    · refine g_iconst (v := 0) (kdX11_isPhase 10 rfl) (by decide) ?_
      exact g_zret rfl (kdX11_isPhase 11 rfl)
    · refine g_iconst (v := 1) (kdX11_isPhase 8 rfl) (by decide) ?_
      refine g_goto (tgt := 21) (kdX11_isPhase 9 rfl) (by decide) ?_
      exact g_zret rfl (kdX11_isPhase 11 rfl)
def JX11_eye (a1 : Int32) (a2 : Int32) (m : hM) : hR :=
  calI (JX11_isPhase a1 m) fun x2 m1 =>
  if x2 = 0 then (some (some (.inl (-1)), m1)) else (calI (JX11_within a2 (-99) 99 m1) fun x4 m3 =>
  if x4 = 0 then (some (some (.inl (-1)), m3)) else (calV (JX3_look 0 40 a1 m3) fun m5 =>
  calI (JX3_right 0 (64 * a2) m5) fun x7 m6 =>
  some (some (.inl x7), m6)))
set_option maxRecDepth 20000 in
theorem CX11_eye (a1 : Int32) (a2 : Int32) (m : hM) : Cn mX11_eye 4 [.inr (.inr (0, 0)), .inl a1, .inl a2] m (JX11_eye a1 a2 m) := by
  refine cn_of (by decide +kernel) (by simp only [List.map, vcat, List.sum_cons, List.sum_nil]; decide) ?_
  unfold JX11_eye
  show G mX11_eye 4 0 [(0, .inr (.inr (0, 0))), (1, .inl a1), (2, .inl a2)] [] m _
  refine g_aload_n 0 (kdX11_eye 0 rfl) rfl ?_
  refine g_iload_n 1 (kdX11_eye 1 rfl) rfl ?_
  refine g_calI (ck_V (As := [.inl a1]) (S := []) (t := 0) (o := 0) (kdX11_eye 2 rfl) iX11_isPhase lX11_242 rc_0 rfl rfl rfl (by decide) (by simp only [List.map, vcat, List.sum_cons, List.sum_nil]; decide)) (CX11_isPhase a1 m) (fun x2 m1 => ?_)
  refine g_if_eq (tgt := 19) (kdX11_eye 3 rfl) (by decide) (fun _ => ?_) (fun _ => ?_)
  · refine g_iconst (v := (-1)) (kdX11_eye 9 rfl) (by decide) ?_
    exact g_iret rfl (kdX11_eye 10 rfl)
  · refine g_iload_n 2 (kdX11_eye 4 rfl) rfl ?_
    refine g_bipush (v := (-99)) (kdX11_eye 5 rfl) (by decide) ?_
    refine g_bipush (v := 99) (kdX11_eye 6 rfl) (by decide) ?_
    refine g_calI (ck_S (As := [.inl a2, .inl (-99), .inl 99]) (S := []) (kdX11_eye 7 rfl) iX11_within lX11_110 rfl rfl rfl (by decide) (by simp only [List.map, vcat, List.sum_cons, List.sum_nil]; decide)) (CX11_within a2 (-99) 99 m1) (fun x4 m3 => ?_)
    refine g_if_ne (tgt := 21) (kdX11_eye 8 rfl) (by decide) (fun _ => ?_) (fun _ => ?_)
    · refine g_aload_n 0 (kdX11_eye 11 rfl) rfl ?_
      refine g_get (v := .inr (.inr (24, 0))) (kdX11_eye 12 rfl) fX11_58 rfl ?_
      refine g_aload_n 0 (kdX11_eye 13 rfl) rfl ?_
      refine g_get (v := .inr (.inr (4, 0))) (kdX11_eye 14 rfl) fX11_19 rfl ?_
      refine g_aload_n 0 (kdX11_eye 15 rfl) rfl ?_
      refine g_get (v := .inr (.inr (12, 40))) (kdX11_eye 16 rfl) fX11_32 rfl ?_
      refine g_iload_n 1 (kdX11_eye 17 rfl) rfl ?_
      refine g_calV (ck_V (As := [.inr (.inr (4, 0)), .inr (.inr (12, 40)), .inl a1]) (S := []) (t := 24) (o := 0) (kdX11_eye 18 rfl) iX3_look lX11_245 rc_24 rfl rfl rfl (by decide) (by simp only [List.map, vcat, List.sum_cons, List.sum_nil]; decide)) (CX3_look 0 40 a1 m3) (fun m5 => ?_)
      refine g_aload_n 0 (kdX11_eye 19 rfl) rfl ?_
      refine g_get (v := .inr (.inr (24, 0))) (kdX11_eye 20 rfl) fX11_58 rfl ?_
      refine g_aload_n 0 (kdX11_eye 21 rfl) rfl ?_
      refine g_get (v := .inr (.inr (4, 0))) (kdX11_eye 22 rfl) fX11_19 rfl ?_
      refine g_bipush (v := 64) (kdX11_eye 23 rfl) (by decide) ?_
      refine g_iload_n 2 (kdX11_eye 24 rfl) rfl ?_
      refine g_imul (kdX11_eye 25 rfl) ?_
      refine g_calI (ck_V (As := [.inr (.inr (4, 0)), .inl (64 * a2)]) (S := []) (t := 24) (o := 0) (kdX11_eye 26 rfl) iX3_right lX11_249 rc_24 rfl rfl rfl (by decide) (by simp only [List.map, vcat, List.sum_cons, List.sum_nil]; decide)) (CX3_right 0 (64 * a2) m5) (fun x7 m6 => ?_)
      exact g_iret rfl (kdX11_eye 27 rfl)
    · refine g_iconst (v := (-1)) (kdX11_eye 9 rfl) (by decide) ?_
      exact g_iret rfl (kdX11_eye 10 rfl)
def JX11_opening (a1 : Int32) (a2 : Int32) (m : hM) : hR :=
  calI (JX11_isPhase a1 m) fun x2 m1 =>
  if x2 = 0 then (some (some (.inl (-1000000000)), m1)) else (calV (JX3_look 0 40 a1 m1) fun m3 =>
  calI (JX3_high 0 m3) fun x5 m4 =>
  calI (JX3_low 0 m4) fun x7 m6 =>
  swL a2 [(0, some (some (.inl x5), m6)), (1, some (some (.inl x7), m6)), (2, some (some (.inl (x5 - x7)), m6)), (3, calI (JJ9_floorDiv_7cf53 (x5 + x7) 2 m6) fun x9 m8 =>
  some (some (.inl x9), m8))] (some (some (.inl (-1000000000)), m6)))
set_option maxRecDepth 20000 in
theorem CX11_opening (a1 : Int32) (a2 : Int32) (m : hM) : Cn mX11_opening 4 [.inr (.inr (0, 0)), .inl a1, .inl a2] m (JX11_opening a1 a2 m) := by
  refine cn_of (by decide +kernel) (by simp only [List.map, vcat, List.sum_cons, List.sum_nil]; decide) ?_
  unfold JX11_opening
  show G mX11_opening 4 0 [(0, .inr (.inr (0, 0))), (1, .inl a1), (2, .inl a2)] [] m _
  refine g_aload_n 0 (kdX11_opening 0 rfl) rfl ?_
  refine g_iload_n 1 (kdX11_opening 1 rfl) rfl ?_
  refine g_calI (ck_V (As := [.inl a1]) (S := []) (t := 0) (o := 0) (kdX11_opening 2 rfl) iX11_isPhase lX11_242 rc_0 rfl rfl rfl (by decide) (by simp only [List.map, vcat, List.sum_cons, List.sum_nil]; decide)) (CX11_isPhase a1 m) (fun x2 m1 => ?_)
  refine g_if_ne (tgt := 11) (kdX11_opening 3 rfl) (by decide) (fun _ => ?_) (fun _ => ?_)
  · refine g_aload_n 0 (kdX11_opening 6 rfl) rfl ?_
    refine g_get (v := .inr (.inr (24, 0))) (kdX11_opening 7 rfl) fX11_58 rfl ?_
    refine g_aload_n 0 (kdX11_opening 8 rfl) rfl ?_
    refine g_get (v := .inr (.inr (4, 0))) (kdX11_opening 9 rfl) fX11_19 rfl ?_
    refine g_aload_n 0 (kdX11_opening 10 rfl) rfl ?_
    refine g_get (v := .inr (.inr (12, 40))) (kdX11_opening 11 rfl) fX11_32 rfl ?_
    refine g_iload_n 1 (kdX11_opening 12 rfl) rfl ?_
    refine g_calV (ck_V (As := [.inr (.inr (4, 0)), .inr (.inr (12, 40)), .inl a1]) (S := []) (t := 24) (o := 0) (kdX11_opening 13 rfl) iX3_look lX11_245 rc_24 rfl rfl rfl (by decide) (by simp only [List.map, vcat, List.sum_cons, List.sum_nil]; decide)) (CX3_look 0 40 a1 m1) (fun m3 => ?_)
    refine g_aload_n 0 (kdX11_opening 14 rfl) rfl ?_
    refine g_get (v := .inr (.inr (24, 0))) (kdX11_opening 15 rfl) fX11_58 rfl ?_
    refine g_aload_n 0 (kdX11_opening 16 rfl) rfl ?_
    refine g_get (v := .inr (.inr (4, 0))) (kdX11_opening 17 rfl) fX11_19 rfl ?_
    refine g_calI (ck_V (As := [.inr (.inr (4, 0))]) (S := []) (t := 24) (o := 0) (kdX11_opening 18 rfl) iX3_high lX11_253 rc_24 rfl rfl rfl (by decide) (by simp only [List.map, vcat, List.sum_cons, List.sum_nil]; decide)) (CX3_high 0 m3) (fun x5 m4 => ?_)
    refine g_istore_n (L2 := [(3, .inl x5), (0, .inr (.inr (0, 0))), (1, .inl a1), (2, .inl a2)]) (kdX11_opening 19 rfl) rfl (by decide) ?_
    refine g_aload_n 1 (kdX11_opening 20 rfl) rfl ?_
    refine g_get (v := .inr (.inr (24, 0))) (kdX11_opening 21 rfl) fX11_58 rfl ?_
    refine g_aload_n 1 (kdX11_opening 22 rfl) rfl ?_
    refine g_get (v := .inr (.inr (4, 0))) (kdX11_opening 23 rfl) fX11_19 rfl ?_
    refine g_calI (ck_V (As := [.inr (.inr (4, 0))]) (S := []) (t := 24) (o := 0) (kdX11_opening 24 rfl) iX3_low lX11_257 rc_24 rfl rfl rfl (by decide) (by simp only [List.map, vcat, List.sum_cons, List.sum_nil]; decide)) (CX3_low 0 m4) (fun x7 m6 => ?_)
    refine g_istore (L2 := [(4, .inl x7), (3, .inl x5), (0, .inr (.inr (0, 0))), (1, .inl a1), (2, .inl a2)]) (kdX11_opening 25 rfl) rfl (by decide) ?_
    refine g_iload_n 4 (kdX11_opening 26 rfl) rfl ?_
    refine g_table (offs := [31, 33, 36, 41]) (dt := 103) (kdX11_opening 27 rfl) (by simp only [swK]; decide) rfl (by decide) ⟨⟨84, by decide, ?_⟩, ⟨86, by decide, ?_⟩, ⟨89, by decide, ?_⟩, ⟨94, by decide, ?_⟩, trivial⟩ ?_
    · refine g_iload_n 1 (kdX11_opening 28 rfl) rfl ?_
      exact g_iret rfl (kdX11_opening 29 rfl)
    · refine g_iload 0 (kdX11_opening 30 rfl) rfl ?_
      exact g_iret rfl (kdX11_opening 31 rfl)
    · refine g_iload_n 1 (kdX11_opening 32 rfl) rfl ?_
      refine g_iload 0 (kdX11_opening 33 rfl) rfl ?_
      refine g_isub (kdX11_opening 34 rfl) ?_
      exact g_iret rfl (kdX11_opening 35 rfl)
    · refine g_iload_n 1 (kdX11_opening 36 rfl) rfl ?_
      refine g_iload 0 (kdX11_opening 37 rfl) rfl ?_
      refine g_iadd (kdX11_opening 38 rfl) ?_
      refine g_iconst (v := 2) (kdX11_opening 39 rfl) (by decide) ?_
      refine g_calI (ck_S (As := [.inl (x5 + x7), .inl 2]) (S := []) (kdX11_opening 40 rfl) iJ9_floorDiv_7cf53 lX11_260 rfl rfl rfl (by decide) (by simp only [List.map, vcat, List.sum_cons, List.sum_nil]; decide)) (CJ9_floorDiv_7cf53 (x5 + x7) 2 m6) (fun x9 m8 => ?_)
      exact g_iret rfl (kdX11_opening 41 rfl)
    · refine g_ldc (kdX11_opening 42 rfl) cX11_118 ?_
      exact g_iret rfl (kdX11_opening 43 rfl)
  · refine g_ldc (kdX11_opening 4 rfl) cX11_118 ?_
    exact g_iret rfl (kdX11_opening 5 rfl)
def JX11_weigh (a1 : Int32) (a2 : Int32) (a3 : Int32) (m : hM) : hR :=
  calI (JX11_isPhase a2 m) fun x2 m1 =>
  if x2 = 0 then (some (some (.inl (-1000000000)), m1)) else (calI (JX11_within a1 0 63 m1) fun x4 m3 =>
  if x4 = 0 then (some (some (.inl (-1000000000)), m3)) else (calI (JX11_within a3 0 1 m3) fun x6 m5 =>
  if x6 = 0 then (some (some (.inl (-1000000000)), m5)) else (if a3 = 0 then (calI (JX3_rowZ 0 40 a1 a2 m5) fun x10 m9 =>
  some (some (.inl x10), m9)) else (calI (JX11_truthOf 0 a1 m5) fun x8 m7 =>
  some (some (.inl x8), m7)))))
set_option maxRecDepth 20000 in
theorem CX11_weigh (a1 : Int32) (a2 : Int32) (a3 : Int32) (m : hM) : Cn mX11_weigh 3 [.inr (.inr (0, 0)), .inl a1, .inl a2, .inl a3] m (JX11_weigh a1 a2 a3 m) := by
  refine cn_of (by decide +kernel) (by simp only [List.map, vcat, List.sum_cons, List.sum_nil]; decide) ?_
  unfold JX11_weigh
  show G mX11_weigh 3 0 [(0, .inr (.inr (0, 0))), (1, .inl a1), (2, .inl a2), (3, .inl a3)] [] m _
  refine g_aload_n 0 (kdX11_weigh 0 rfl) rfl ?_
  refine g_iload_n 2 (kdX11_weigh 1 rfl) rfl ?_
  refine g_calI (ck_V (As := [.inl a2]) (S := []) (t := 0) (o := 0) (kdX11_weigh 2 rfl) iX11_isPhase lX11_242 rc_0 rfl rfl rfl (by decide) (by simp only [List.map, vcat, List.sum_cons, List.sum_nil]; decide)) (CX11_isPhase a2 m) (fun x2 m1 => ?_)
  refine g_if_eq (tgt := 27) (kdX11_weigh 3 rfl) (by decide) (fun _ => ?_) (fun _ => ?_)
  · refine g_ldc (kdX11_weigh 14 rfl) cX11_118 ?_
    exact g_iret rfl (kdX11_weigh 15 rfl)
  · refine g_iload_n 1 (kdX11_weigh 4 rfl) rfl ?_
    refine g_iconst (v := 0) (kdX11_weigh 5 rfl) (by decide) ?_
    refine g_bipush (v := 63) (kdX11_weigh 6 rfl) (by decide) ?_
    refine g_calI (ck_S (As := [.inl a1, .inl 0, .inl 63]) (S := []) (kdX11_weigh 7 rfl) iX11_within lX11_110 rfl rfl rfl (by decide) (by simp only [List.map, vcat, List.sum_cons, List.sum_nil]; decide)) (CX11_within a1 0 63 m1) (fun x4 m3 => ?_)
    refine g_if_eq (tgt := 27) (kdX11_weigh 8 rfl) (by decide) (fun _ => ?_) (fun _ => ?_)
    · refine g_ldc (kdX11_weigh 14 rfl) cX11_118 ?_
      exact g_iret rfl (kdX11_weigh 15 rfl)
    · refine g_iload_n 3 (kdX11_weigh 9 rfl) rfl ?_
      refine g_iconst (v := 0) (kdX11_weigh 10 rfl) (by decide) ?_
      refine g_iconst (v := 1) (kdX11_weigh 11 rfl) (by decide) ?_
      refine g_calI (ck_S (As := [.inl a3, .inl 0, .inl 1]) (S := []) (kdX11_weigh 12 rfl) iX11_within lX11_110 rfl rfl rfl (by decide) (by simp only [List.map, vcat, List.sum_cons, List.sum_nil]; decide)) (CX11_within a3 0 1 m3) (fun x6 m5 => ?_)
      refine g_if_ne (tgt := 30) (kdX11_weigh 13 rfl) (by decide) (fun _ => ?_) (fun _ => ?_)
      · refine g_iload_n 3 (kdX11_weigh 16 rfl) rfl ?_
        refine g_if_ne (tgt := 54) (kdX11_weigh 17 rfl) (by decide) (fun _ => ?_) (fun _ => ?_)
        · refine g_aload_n 0 (kdX11_weigh 28 rfl) rfl ?_
          refine g_get (v := .inr (.inr (4, 0))) (kdX11_weigh 29 rfl) fX11_19 rfl ?_
          refine g_iload_n 1 (kdX11_weigh 30 rfl) rfl ?_
          refine g_calI (ck_S (As := [.inr (.inr (4, 0)), .inl a1]) (S := []) (kdX11_weigh 31 rfl) iX11_truthOf lX11_269 rfl rfl rfl (by decide) (by simp only [List.map, vcat, List.sum_cons, List.sum_nil]; decide)) (CX11_truthOf 0 a1 m5) (fun x8 m7 => ?_)
          exact g_iret rfl (kdX11_weigh 32 rfl)
        · refine g_aload_n 0 (kdX11_weigh 18 rfl) rfl ?_
          refine g_get (v := .inr (.inr (24, 0))) (kdX11_weigh 19 rfl) fX11_58 rfl ?_
          refine g_aload_n 0 (kdX11_weigh 20 rfl) rfl ?_
          refine g_get (v := .inr (.inr (4, 0))) (kdX11_weigh 21 rfl) fX11_19 rfl ?_
          refine g_aload_n 0 (kdX11_weigh 22 rfl) rfl ?_
          refine g_get (v := .inr (.inr (12, 40))) (kdX11_weigh 23 rfl) fX11_32 rfl ?_
          refine g_iload_n 1 (kdX11_weigh 24 rfl) rfl ?_
          refine g_iload_n 2 (kdX11_weigh 25 rfl) rfl ?_
          refine g_calI (ck_V (As := [.inr (.inr (4, 0)), .inr (.inr (12, 40)), .inl a1, .inl a2]) (S := []) (t := 24) (o := 0) (kdX11_weigh 26 rfl) iX3_rowZ lX11_265 rc_24 rfl rfl rfl (by decide) (by simp only [List.map, vcat, List.sum_cons, List.sum_nil]; decide)) (CX3_rowZ 0 40 a1 a2 m5) (fun x10 m9 => ?_)
          refine g_goto (tgt := 62) (kdX11_weigh 27 rfl) (by decide) ?_
          exact g_iret rfl (kdX11_weigh 32 rfl)
      · refine g_ldc (kdX11_weigh 14 rfl) cX11_118 ?_
        exact g_iret rfl (kdX11_weigh 15 rfl)
def JX11_map_72 (K28 : Int32 → Int32 → Int32 → Int32 → hM → hR) (K78 : Int32 → Int32 → Int32 → hM → hR) (v1 : Int32) (v2 : Int32) (v3 : Int32) (v4 : Int32) (v5 : Int32) (m : hM) : hR :=
  K28 v2 v3 v4 (v5 + 1) m
set_option maxRecDepth 20000 in
theorem BX11_map_72 (v1 : Int32) (K28 : Int32 → Int32 → Int32 → Int32 → hM → hR) (K78 : Int32 → Int32 → Int32 → hM → hR) (h28 : ∀ (v2 : Int32) (v3 : Int32) (v4 : Int32) (v5 : Int32) (m : hM), G mX11_map 5 28 [(0, .inr (.inr (0, 0))), (1, .inl v1), (2, .inl v2), (3, .inl v3), (4, .inl v4), (5, .inl v5)] [] m (K28 v2 v3 v4 v5 m)) (h78 : ∀ (v2 : Int32) (v3 : Int32) (v4 : Int32) (m : hM), G mX11_map 5 78 [(1, .inl v1), (2, .inl v2), (3, .inl v3), (4, .inl v4)] [] m (K78 v2 v3 v4 m)) (v2 : Int32) (v3 : Int32) (v4 : Int32) (v5 : Int32) (m : hM) : G mX11_map 5 72 [(0, .inr (.inr (0, 0))), (1, .inl v1), (2, .inl v2), (3, .inl v3), (4, .inl v4), (5, .inl v5)] [] m (JX11_map_72 K28 K78 v1 v2 v3 v4 v5 m) := by
  unfold JX11_map_72
  refine g_iinc (v := v5 + 1) (L2 := [(5, .inl (v5 + 1)), (0, .inr (.inr (0, 0))), (1, .inl v1), (2, .inl v2), (3, .inl v3), (4, .inl v4)]) 5 (kdX11_map 41 rfl) rfl rfl rfl (by decide) ?_
  refine g_goto (tgt := 28) (kdX11_map 42 rfl) (by decide) ?_
  exact g_fgt [1, 2, 3, 4, 5, 0] rfl (h28 v2 v3 v4 (v5 + 1) m)
def bJX11_map_28 (K28 : Int32 → Int32 → Int32 → Int32 → hM → hR) (K78 : Int32 → Int32 → Int32 → hM → hR) (v1 : Int32) (v2 : Int32) (v3 : Int32) (v4 : Int32) (v5 : Int32) (m : hM) : hR :=
  if 4 ≤ v5 then (K78 v2 v3 v4 m) else (calI (JX3_openLevels 0 40 v5 m) fun x4 m3 =>
  lt (v2 + x4) fun x5 =>
  if x4 ≤ v4 then (JX11_map_72 K28 K78 v1 x5 v3 v4 v5 m3) else (JX11_map_72 K28 K78 v1 x5 v5 x4 v5 m3))
set_option maxRecDepth 20000 in
theorem BbJX11_map_28 (K28 : Int32 → Int32 → Int32 → Int32 → hM → hR) (K78 : Int32 → Int32 → Int32 → hM → hR) (v1 : Int32) (h28 : ∀ (v2 : Int32) (v3 : Int32) (v4 : Int32) (v5 : Int32) (m : hM), G mX11_map 5 28 [(0, .inr (.inr (0, 0))), (1, .inl v1), (2, .inl v2), (3, .inl v3), (4, .inl v4), (5, .inl v5)] [] m (K28 v2 v3 v4 v5 m)) (h78 : ∀ (v2 : Int32) (v3 : Int32) (v4 : Int32) (m : hM), G mX11_map 5 78 [(1, .inl v1), (2, .inl v2), (3, .inl v3), (4, .inl v4)] [] m (K78 v2 v3 v4 m)) (v2 : Int32) (v3 : Int32) (v4 : Int32) (v5 : Int32) (m : hM) : G mX11_map 5 28 [(0, .inr (.inr (0, 0))), (1, .inl v1), (2, .inl v2), (3, .inl v3), (4, .inl v4), (5, .inl v5)] [] m (bJX11_map_28 K28 K78 v1 v2 v3 v4 v5 m) := by
  unfold bJX11_map_28
  refine g_iload 5 (kdX11_map 18 rfl) rfl ?_
  refine g_iconst (v := 4) (kdX11_map 19 rfl) (by decide) ?_
  refine g_icmp_ge (tgt := 78) (kdX11_map 20 rfl) (by decide) (fun _ => ?_) (fun _ => ?_)
  · exact g_fgt [1, 2, 3, 4] rfl (h78 v2 v3 v4 m)
  · refine g_aload_n 0 (kdX11_map 21 rfl) rfl ?_
    refine g_get (v := .inr (.inr (24, 0))) (kdX11_map 22 rfl) fX11_58 rfl ?_
    refine g_aload_n 0 (kdX11_map 23 rfl) rfl ?_
    refine g_get (v := .inr (.inr (4, 0))) (kdX11_map 24 rfl) fX11_19 rfl ?_
    refine g_aload_n 0 (kdX11_map 25 rfl) rfl ?_
    refine g_get (v := .inr (.inr (12, 40))) (kdX11_map 26 rfl) fX11_32 rfl ?_
    refine g_iload 5 (kdX11_map 27 rfl) rfl ?_
    refine g_calI (ck_V (As := [.inr (.inr (4, 0)), .inr (.inr (12, 40)), .inl v5]) (S := []) (t := 24) (o := 0) (kdX11_map 28 rfl) iX3_openLevels lX11_272 rc_24 rfl rfl rfl (by decide) (by simp only [List.map, vcat, List.sum_cons, List.sum_nil]; decide)) (CX3_openLevels 0 40 v5 m) (fun x4 m3 => ?_)
    refine g_istore (L2 := [(6, .inl x4), (0, .inr (.inr (0, 0))), (1, .inl v1), (2, .inl v2), (3, .inl v3), (4, .inl v4), (5, .inl v5)]) (kdX11_map 29 rfl) rfl (by decide) ?_
    refine g_iload_n 3 (kdX11_map 30 rfl) rfl ?_
    refine g_iload 0 (kdX11_map 31 rfl) rfl ?_
    refine g_iadd (kdX11_map 32 rfl) ?_
    refine g_lt (fun x5 => ?_)
    refine g_istore_n (L2 := [(2, .inl x5), (6, .inl x4), (0, .inr (.inr (0, 0))), (1, .inl v1), (3, .inl v3), (4, .inl v4), (5, .inl v5)]) (kdX11_map 33 rfl) rfl (by decide) ?_
    refine g_iload 1 (kdX11_map 34 rfl) rfl ?_
    refine g_iload 5 (kdX11_map 35 rfl) rfl ?_
    refine g_icmp_le (tgt := 72) (kdX11_map 36 rfl) (by decide) (fun _ => ?_) (fun _ => ?_)
    · exact g_fgt [2, 3, 0, 4, 5, 6] rfl (BX11_map_72 v1 _ _ h28 h78 x5 v3 v4 v5 m3)
    · refine g_iload 1 (kdX11_map 37 rfl) rfl ?_
      refine g_istore (L2 := [(4, .inl x4), (2, .inl x5), (6, .inl x4), (0, .inr (.inr (0, 0))), (1, .inl v1), (3, .inl v3), (5, .inl v5)]) (kdX11_map 38 rfl) rfl (by decide) ?_
      refine g_iload 6 (kdX11_map 39 rfl) rfl ?_
      refine g_istore_n (L2 := [(3, .inl v5), (4, .inl x4), (2, .inl x5), (6, .inl x4), (0, .inr (.inr (0, 0))), (1, .inl v1), (5, .inl v5)]) (kdX11_map 40 rfl) rfl (by decide) ?_
      exact g_fgt [4, 5, 2, 0, 1, 6] rfl (BX11_map_72 v1 _ _ h28 h78 x5 v5 x4 v5 m3)
def JX11_map_28 (K78 : Int32 → Int32 → Int32 → hM → hR) (v1 : Int32) : Nat → Int32 → Int32 → Int32 → Int32 → hM → hR
  | 0, _, _, _, _, _ => none
  | f + 1, v2, v3, v4, v5, m => bJX11_map_28 (fun v2 v3 v4 v5 m => JX11_map_28 K78 v1 f v2 v3 v4 v5 m) K78 v1 v2 v3 v4 v5 m
theorem BJX11_map_28 (K78 : Int32 → Int32 → Int32 → hM → hR) (v1 : Int32) (h78 : ∀ (v2 : Int32) (v3 : Int32) (v4 : Int32) (m : hM), G mX11_map 5 78 [(1, .inl v1), (2, .inl v2), (3, .inl v3), (4, .inl v4)] [] m (K78 v2 v3 v4 m)) : ∀ (f : Nat) (v2 : Int32) (v3 : Int32) (v4 : Int32) (v5 : Int32) (m : hM), G mX11_map 5 28 [(0, .inr (.inr (0, 0))), (1, .inl v1), (2, .inl v2), (3, .inl v3), (4, .inl v4), (5, .inl v5)] [] m (JX11_map_28 K78 v1 f v2 v3 v4 v5 m)
  | 0, _, _, _, _, _ => g_none
  | f + 1, v2, v3, v4, v5, m => BbJX11_map_28  _ K78 v1 (fun v2 v3 v4 v5 m => BJX11_map_28  K78 v1 h78 f v2 v3 v4 v5 m) h78 v2 v3 v4 v5 m
def JX11_map (a1 : Int32) (m : hM) : hR :=
  if (m.1 0 0 12) = 0 then (some (some (.inl (-1)), m)) else (calI (JX11_within a1 0 2 m) fun x2 m1 =>
  if x2 = 0 then (some (some (.inl (-1)), m1)) else (JX11_map_28 (fun v2 v3 v4 m6 => if a1 = 0 then (some (some (.inl v2), m6)) else (if a1 = 1 then (some (some (.inl v3), m6)) else (some (some (.inl v4), m6)))) a1 FU 0 0 0 0 m1))
set_option maxRecDepth 20000 in
theorem CX11_map (a1 : Int32) (m : hM) : Cn mX11_map 5 [.inr (.inr (0, 0)), .inl a1] m (JX11_map a1 m) := by
  refine cn_of (by decide +kernel) (by simp only [List.map, vcat, List.sum_cons, List.sum_nil]; decide) ?_
  unfold JX11_map
  show G mX11_map 5 0 [(0, .inr (.inr (0, 0))), (1, .inl a1)] [] m _
  refine g_aload_n 0 (kdX11_map 0 rfl) rfl ?_
  refine g_get (v := .inl (m.1 0 0 12)) (kdX11_map 1 rfl) fX11_106 rfl ?_
  refine g_if_eq (tgt := 16) (kdX11_map 2 rfl) (by decide) (fun _ => ?_) (fun _ => ?_)
  · refine g_iconst (v := (-1)) (kdX11_map 8 rfl) (by decide) ?_
    exact g_iret rfl (kdX11_map 9 rfl)
  · refine g_iload_n 1 (kdX11_map 3 rfl) rfl ?_
    refine g_iconst (v := 0) (kdX11_map 4 rfl) (by decide) ?_
    refine g_iconst (v := 2) (kdX11_map 5 rfl) (by decide) ?_
    refine g_calI (ck_S (As := [.inl a1, .inl 0, .inl 2]) (S := []) (kdX11_map 6 rfl) iX11_within lX11_110 rfl rfl rfl (by decide) (by simp only [List.map, vcat, List.sum_cons, List.sum_nil]; decide)) (CX11_within a1 0 2 m) (fun x2 m1 => ?_)
    refine g_if_ne (tgt := 18) (kdX11_map 7 rfl) (by decide) (fun _ => ?_) (fun _ => ?_)
    · refine g_iconst (v := 0) (kdX11_map 10 rfl) (by decide) ?_
      refine g_istore_n (L2 := [(2, .inl 0), (0, .inr (.inr (0, 0))), (1, .inl a1)]) (kdX11_map 11 rfl) rfl (by decide) ?_
      refine g_iconst (v := 0) (kdX11_map 12 rfl) (by decide) ?_
      refine g_istore_n (L2 := [(3, .inl 0), (2, .inl 0), (0, .inr (.inr (0, 0))), (1, .inl a1)]) (kdX11_map 13 rfl) rfl (by decide) ?_
      refine g_iconst (v := 0) (kdX11_map 14 rfl) (by decide) ?_
      refine g_istore (L2 := [(4, .inl 0), (3, .inl 0), (2, .inl 0), (0, .inr (.inr (0, 0))), (1, .inl a1)]) (kdX11_map 15 rfl) rfl (by decide) ?_
      refine g_iconst (v := 0) (kdX11_map 16 rfl) (by decide) ?_
      refine g_istore (L2 := [(5, .inl 0), (4, .inl 0), (3, .inl 0), (2, .inl 0), (0, .inr (.inr (0, 0))), (1, .inl a1)]) (kdX11_map 17 rfl) rfl (by decide) ?_
      refine g_fgt [4, 5, 3, 2, 1, 0] rfl (BJX11_map_28  _ a1 ?_ FU 0 0 0 0 m1)
      · intro v2 v3 v4 m6
        refine g_iload_n 0 (kdX11_map 43 rfl) rfl ?_
        refine g_if_ne (tgt := 86) (kdX11_map 44 rfl) (by decide) (fun _ => ?_) (fun _ => ?_)
        · refine g_iload_n 0 (kdX11_map 47 rfl) rfl ?_
          refine g_iconst (v := 1) (kdX11_map 48 rfl) (by decide) ?_
          refine g_icmp_ne (tgt := 95) (kdX11_map 49 rfl) (by decide) (fun _ => ?_) (fun _ => ?_)
          · refine g_iload 3 (kdX11_map 52 rfl) rfl ?_
            exact g_iret rfl (kdX11_map 53 rfl)
          · refine g_iload_n 2 (kdX11_map 50 rfl) rfl ?_
            refine g_goto (tgt := 97) (kdX11_map 51 rfl) (by decide) ?_
            exact g_iret rfl (kdX11_map 53 rfl)
        · refine g_iload_n 1 (kdX11_map 45 rfl) rfl ?_
          refine g_goto (tgt := 97) (kdX11_map 46 rfl) (by decide) ?_
          exact g_iret rfl (kdX11_map 53 rfl)
    · refine g_iconst (v := (-1)) (kdX11_map 8 rfl) (by decide) ?_
      exact g_iret rfl (kdX11_map 9 rfl)
def JX11_bears (a1 : Int32) (m : hM) : hR :=
  calI (JX11_isPhase a1 m) fun x2 m1 =>
  if x2 = 0 then (some (some (.inl (-1000000000)), m1)) else (calI (JX3_bearable 0 40 a1 m1) fun x4 m3 =>
  some (some (.inl x4), m3))
set_option maxRecDepth 20000 in
theorem CX11_bears (a1 : Int32) (m : hM) : Cn mX11_bears 5 [.inr (.inr (0, 0)), .inl a1] m (JX11_bears a1 m) := by
  refine cn_of (by decide +kernel) (by simp only [List.map, vcat, List.sum_cons, List.sum_nil]; decide) ?_
  unfold JX11_bears
  show G mX11_bears 5 0 [(0, .inr (.inr (0, 0))), (1, .inl a1)] [] m _
  refine g_aload_n 0 (kdX11_bears 0 rfl) rfl ?_
  refine g_iload_n 1 (kdX11_bears 1 rfl) rfl ?_
  refine g_calI (ck_V (As := [.inl a1]) (S := []) (t := 0) (o := 0) (kdX11_bears 2 rfl) iX11_isPhase lX11_242 rc_0 rfl rfl rfl (by decide) (by simp only [List.map, vcat, List.sum_cons, List.sum_nil]; decide)) (CX11_isPhase a1 m) (fun x2 m1 => ?_)
  refine g_if_eq (tgt := 27) (kdX11_bears 3 rfl) (by decide) (fun _ => ?_) (fun _ => ?_)
  · refine g_ldc (kdX11_bears 13 rfl) cX11_118 ?_
    exact g_iret rfl (kdX11_bears 14 rfl)
  · refine g_aload_n 0 (kdX11_bears 4 rfl) rfl ?_
    refine g_get (v := .inr (.inr (24, 0))) (kdX11_bears 5 rfl) fX11_58 rfl ?_
    refine g_aload_n 0 (kdX11_bears 6 rfl) rfl ?_
    refine g_get (v := .inr (.inr (4, 0))) (kdX11_bears 7 rfl) fX11_19 rfl ?_
    refine g_aload_n 0 (kdX11_bears 8 rfl) rfl ?_
    refine g_get (v := .inr (.inr (12, 40))) (kdX11_bears 9 rfl) fX11_32 rfl ?_
    refine g_iload_n 1 (kdX11_bears 10 rfl) rfl ?_
    refine g_calI (ck_V (As := [.inr (.inr (4, 0)), .inr (.inr (12, 40)), .inl a1]) (S := []) (t := 24) (o := 0) (kdX11_bears 11 rfl) iX3_bearable lX11_276 rc_24 rfl rfl rfl (by decide) (by simp only [List.map, vcat, List.sum_cons, List.sum_nil]; decide)) (CX3_bearable 0 40 a1 m1) (fun x4 m3 => ?_)
    refine g_goto (tgt := 29) (kdX11_bears 12 rfl) (by decide) ?_
    exact g_iret rfl (kdX11_bears 14 rfl)
def JX11_burst (a1 : Int32) (a2 : Int32) (m : hM) : hR :=
  if (m.1 0 0 12) = 0 then (some (some (.inl (-1)), m)) else (calI (JX11_within a1 0 63 m) fun x2 m1 =>
  if x2 = 0 then (some (some (.inl (-1)), m1)) else (calI (JX11_within a2 0 1 m1) fun x4 m3 =>
  if x4 = 0 then (some (some (.inl (-1)), m3)) else (calV (JX1_explore 0 40 m3) fun m5 =>
  if a2 = 0 then (calI (JX1_followers a1 m5) fun x9 m8 =>
  some (some (.inl x9), m8)) else (calI (JX1_errors a1 m5) fun x7 m6 =>
  some (some (.inl x7), m6)))))
set_option maxRecDepth 20000 in
theorem CX11_burst (a1 : Int32) (a2 : Int32) (m : hM) : Cn mX11_burst 4 [.inr (.inr (0, 0)), .inl a1, .inl a2] m (JX11_burst a1 a2 m) := by
  refine cn_of (by decide +kernel) (by simp only [List.map, vcat, List.sum_cons, List.sum_nil]; decide) ?_
  unfold JX11_burst
  show G mX11_burst 4 0 [(0, .inr (.inr (0, 0))), (1, .inl a1), (2, .inl a2)] [] m _
  refine g_aload_n 0 (kdX11_burst 0 rfl) rfl ?_
  refine g_get (v := .inl (m.1 0 0 12)) (kdX11_burst 1 rfl) fX11_106 rfl ?_
  refine g_if_eq (tgt := 26) (kdX11_burst 2 rfl) (by decide) (fun _ => ?_) (fun _ => ?_)
  · refine g_iconst (v := (-1)) (kdX11_burst 13 rfl) (by decide) ?_
    exact g_iret rfl (kdX11_burst 14 rfl)
  · refine g_iload_n 1 (kdX11_burst 3 rfl) rfl ?_
    refine g_iconst (v := 0) (kdX11_burst 4 rfl) (by decide) ?_
    refine g_bipush (v := 63) (kdX11_burst 5 rfl) (by decide) ?_
    refine g_calI (ck_S (As := [.inl a1, .inl 0, .inl 63]) (S := []) (kdX11_burst 6 rfl) iX11_within lX11_110 rfl rfl rfl (by decide) (by simp only [List.map, vcat, List.sum_cons, List.sum_nil]; decide)) (CX11_within a1 0 63 m) (fun x2 m1 => ?_)
    refine g_if_eq (tgt := 26) (kdX11_burst 7 rfl) (by decide) (fun _ => ?_) (fun _ => ?_)
    · refine g_iconst (v := (-1)) (kdX11_burst 13 rfl) (by decide) ?_
      exact g_iret rfl (kdX11_burst 14 rfl)
    · refine g_iload_n 2 (kdX11_burst 8 rfl) rfl ?_
      refine g_iconst (v := 0) (kdX11_burst 9 rfl) (by decide) ?_
      refine g_iconst (v := 1) (kdX11_burst 10 rfl) (by decide) ?_
      refine g_calI (ck_S (As := [.inl a2, .inl 0, .inl 1]) (S := []) (kdX11_burst 11 rfl) iX11_within lX11_110 rfl rfl rfl (by decide) (by simp only [List.map, vcat, List.sum_cons, List.sum_nil]; decide)) (CX11_within a2 0 1 m1) (fun x4 m3 => ?_)
      refine g_if_ne (tgt := 28) (kdX11_burst 12 rfl) (by decide) (fun _ => ?_) (fun _ => ?_)
      · refine g_aload_n 0 (kdX11_burst 15 rfl) rfl ?_
        refine g_get (v := .inr (.inr (28, 0))) (kdX11_burst 16 rfl) fX11_65 rfl ?_
        refine g_aload_n 0 (kdX11_burst 17 rfl) rfl ?_
        refine g_get (v := .inr (.inr (4, 0))) (kdX11_burst 18 rfl) fX11_19 rfl ?_
        refine g_aload_n 0 (kdX11_burst 19 rfl) rfl ?_
        refine g_get (v := .inr (.inr (12, 40))) (kdX11_burst 20 rfl) fX11_32 rfl ?_
        refine g_calV (ck_V (As := [.inr (.inr (4, 0)), .inr (.inr (12, 40))]) (S := []) (t := 28) (o := 0) (kdX11_burst 21 rfl) iX1_explore lX11_279 rc_28 rfl rfl rfl (by decide) (by simp only [List.map, vcat, List.sum_cons, List.sum_nil]; decide)) (CX1_explore 0 40 m3) (fun m5 => ?_)
        refine g_iload_n 2 (kdX11_burst 22 rfl) rfl ?_
        refine g_if_ne (tgt := 58) (kdX11_burst 23 rfl) (by decide) (fun _ => ?_) (fun _ => ?_)
        · refine g_aload_n 0 (kdX11_burst 29 rfl) rfl ?_
          refine g_get (v := .inr (.inr (28, 0))) (kdX11_burst 30 rfl) fX11_65 rfl ?_
          refine g_iload_n 1 (kdX11_burst 31 rfl) rfl ?_
          refine g_calI (ck_V (As := [.inl a1]) (S := []) (t := 28) (o := 0) (kdX11_burst 32 rfl) iX1_errors lX11_286 rc_28 rfl rfl rfl (by decide) (by simp only [List.map, vcat, List.sum_cons, List.sum_nil]; decide)) (CX1_errors a1 m5) (fun x7 m6 => ?_)
          exact g_iret rfl (kdX11_burst 33 rfl)
        · refine g_aload_n 0 (kdX11_burst 24 rfl) rfl ?_
          refine g_get (v := .inr (.inr (28, 0))) (kdX11_burst 25 rfl) fX11_65 rfl ?_
          refine g_iload_n 1 (kdX11_burst 26 rfl) rfl ?_
          refine g_calI (ck_V (As := [.inl a1]) (S := []) (t := 28) (o := 0) (kdX11_burst 27 rfl) iX1_followers lX11_283 rc_28 rfl rfl rfl (by decide) (by simp only [List.map, vcat, List.sum_cons, List.sum_nil]; decide)) (CX1_followers a1 m5) (fun x9 m8 => ?_)
          refine g_goto (tgt := 66) (kdX11_burst 28 rfl) (by decide) ?_
          exact g_iret rfl (kdX11_burst 33 rfl)
      · refine g_iconst (v := (-1)) (kdX11_burst 13 rfl) (by decide) ?_
        exact g_iret rfl (kdX11_burst 14 rfl)
def JX11_bursts  (m : hM) : hR :=
  if (m.1 0 0 12) = 0 then (some (some (.inl (-1)), m)) else (calV (JX1_explore 0 40 m) fun m1 =>
  calI (JX1_longestRow m1) fun x3 m2 =>
  some (some (.inl x3), m2))
set_option maxRecDepth 20000 in
theorem CX11_bursts  (m : hM) : Cn mX11_bursts 4 [.inr (.inr (0, 0))] m (JX11_bursts  m) := by
  refine cn_of (by decide +kernel) (by simp only [List.map, vcat, List.sum_cons, List.sum_nil]; decide) ?_
  unfold JX11_bursts
  show G mX11_bursts 4 0 [(0, .inr (.inr (0, 0)))] [] m _
  refine g_aload_n 0 (kdX11_bursts 0 rfl) rfl ?_
  refine g_get (v := .inl (m.1 0 0 12)) (kdX11_bursts 1 rfl) fX11_106 rfl ?_
  refine g_if_ne (tgt := 9) (kdX11_bursts 2 rfl) (by decide) (fun _ => ?_) (fun _ => ?_)
  · refine g_aload_n 0 (kdX11_bursts 5 rfl) rfl ?_
    refine g_get (v := .inr (.inr (28, 0))) (kdX11_bursts 6 rfl) fX11_65 rfl ?_
    refine g_aload_n 0 (kdX11_bursts 7 rfl) rfl ?_
    refine g_get (v := .inr (.inr (4, 0))) (kdX11_bursts 8 rfl) fX11_19 rfl ?_
    refine g_aload_n 0 (kdX11_bursts 9 rfl) rfl ?_
    refine g_get (v := .inr (.inr (12, 40))) (kdX11_bursts 10 rfl) fX11_32 rfl ?_
    refine g_calV (ck_V (As := [.inr (.inr (4, 0)), .inr (.inr (12, 40))]) (S := []) (t := 28) (o := 0) (kdX11_bursts 11 rfl) iX1_explore lX11_279 rc_28 rfl rfl rfl (by decide) (by simp only [List.map, vcat, List.sum_cons, List.sum_nil]; decide)) (CX1_explore 0 40 m) (fun m1 => ?_)
    refine g_aload_n 0 (kdX11_bursts 12 rfl) rfl ?_
    refine g_get (v := .inr (.inr (28, 0))) (kdX11_bursts 13 rfl) fX11_65 rfl ?_
    refine g_calI (ck_V (As := []) (S := []) (t := 28) (o := 0) (kdX11_bursts 14 rfl) iX1_longestRow lX11_289 rc_28 rfl rfl rfl (by decide) (by simp only [List.map, vcat, List.sum_cons, List.sum_nil]; decide)) (CX1_longestRow m1) (fun x3 m2 => ?_)
    exact g_iret rfl (kdX11_bursts 15 rfl)
  · refine g_iconst (v := (-1)) (kdX11_bursts 3 rfl) (by decide) ?_
    exact g_iret rfl (kdX11_bursts 4 rfl)
def JX11_unrolled (a1 : Int32) (m : hM) : hR :=
  if (m.1 0 0 12) = 0 then (some (some (.inl (-1000000000)), m)) else (if (m.1 12 40 6) = 0 then (some (some (.inl (-1000000000)), m)) else (calI (JX4_backTaps 0 m) fun x2 m1 =>
  calI (JX11_within a1 0 (((1 : Int32) <<< (x2 &&& 31)) - 1) m1) fun x4 m3 =>
  if x4 = 0 then (some (some (.inl (-1000000000)), m3)) else (calI (JX4_backTaps 0 m3) fun x6 m5 =>
  calI (JX10_zWith 40 a1 x6 m5) fun x8 m7 =>
  some (some (.inl x8), m7))))
set_option maxRecDepth 20000 in
theorem CX11_unrolled (a1 : Int32) (m : hM) : Cn mX11_unrolled 2 [.inr (.inr (0, 0)), .inl a1] m (JX11_unrolled a1 m) := by
  refine cn_of (by decide +kernel) (by simp only [List.map, vcat, List.sum_cons, List.sum_nil]; decide) ?_
  unfold JX11_unrolled
  show G mX11_unrolled 2 0 [(0, .inr (.inr (0, 0))), (1, .inl a1)] [] m _
  refine g_aload_n 0 (kdX11_unrolled 0 rfl) rfl ?_
  refine g_get (v := .inl (m.1 0 0 12)) (kdX11_unrolled 1 rfl) fX11_106 rfl ?_
  refine g_if_eq (tgt := 36) (kdX11_unrolled 2 rfl) (by decide) (fun _ => ?_) (fun _ => ?_)
  · refine g_ldc (kdX11_unrolled 18 rfl) cX11_118 ?_
    exact g_iret rfl (kdX11_unrolled 19 rfl)
  · refine g_aload_n 0 (kdX11_unrolled 3 rfl) rfl ?_
    refine g_get (v := .inr (.inr (12, 40))) (kdX11_unrolled 4 rfl) fX11_32 rfl ?_
    refine g_get (v := .inl (m.1 12 40 6)) (kdX11_unrolled 5 rfl) fX11_153 rfl ?_
    refine g_if_eq (tgt := 36) (kdX11_unrolled 6 rfl) (by decide) (fun _ => ?_) (fun _ => ?_)
    · refine g_ldc (kdX11_unrolled 18 rfl) cX11_118 ?_
      exact g_iret rfl (kdX11_unrolled 19 rfl)
    · refine g_iload_n 1 (kdX11_unrolled 7 rfl) rfl ?_
      refine g_iconst (v := 0) (kdX11_unrolled 8 rfl) (by decide) ?_
      refine g_iconst (v := 1) (kdX11_unrolled 9 rfl) (by decide) ?_
      refine g_aload_n 0 (kdX11_unrolled 10 rfl) rfl ?_
      refine g_get (v := .inr (.inr (4, 0))) (kdX11_unrolled 11 rfl) fX11_19 rfl ?_
      refine g_calI (ck_V (As := []) (S := [.inl 1, .inl 0, .inl a1]) (t := 4) (o := 0) (kdX11_unrolled 12 rfl) iX4_backTaps lX11_292 rc_4 rfl rfl rfl (by decide) (by simp only [List.map, vcat, List.sum_cons, List.sum_nil]; decide)) (CX4_backTaps 0 m) (fun x2 m1 => ?_)
      refine g_ishl (kdX11_unrolled 13 rfl) ?_
      refine g_iconst (v := 1) (kdX11_unrolled 14 rfl) (by decide) ?_
      refine g_isub (kdX11_unrolled 15 rfl) ?_
      refine g_calI (ck_S (As := [.inl a1, .inl 0, .inl (((1 : Int32) <<< (x2 &&& 31)) - 1)]) (S := []) (kdX11_unrolled 16 rfl) iX11_within lX11_110 rfl rfl rfl (by decide) (by simp only [List.map, vcat, List.sum_cons, List.sum_nil]; decide)) (CX11_within a1 0 (((1 : Int32) <<< (x2 &&& 31)) - 1) m1) (fun x4 m3 => ?_)
      refine g_if_ne (tgt := 39) (kdX11_unrolled 17 rfl) (by decide) (fun _ => ?_) (fun _ => ?_)
      · refine g_aload_n 0 (kdX11_unrolled 20 rfl) rfl ?_
        refine g_get (v := .inr (.inr (12, 40))) (kdX11_unrolled 21 rfl) fX11_32 rfl ?_
        refine g_get (v := .inr (.inr (18, 40))) (kdX11_unrolled 22 rfl) fX11_213 rfl ?_
        refine g_iload_n 1 (kdX11_unrolled 23 rfl) rfl ?_
        refine g_aload_n 0 (kdX11_unrolled 24 rfl) rfl ?_
        refine g_get (v := .inr (.inr (4, 0))) (kdX11_unrolled 25 rfl) fX11_19 rfl ?_
        refine g_calI (ck_V (As := []) (S := [.inl a1, .inr (.inr (18, 40))]) (t := 4) (o := 0) (kdX11_unrolled 26 rfl) iX4_backTaps lX11_292 rc_4 rfl rfl rfl (by decide) (by simp only [List.map, vcat, List.sum_cons, List.sum_nil]; decide)) (CX4_backTaps 0 m3) (fun x6 m5 => ?_)
        refine g_calI (ck_V (As := [.inl a1, .inl x6]) (S := []) (t := 18) (o := 40) (kdX11_unrolled 27 rfl) iX10_zWith lX11_295 rc_18 rfl rfl rfl (by decide) (by simp only [List.map, vcat, List.sum_cons, List.sum_nil]; decide)) (CX10_zWith 40 a1 x6 m5) (fun x8 m7 => ?_)
        exact g_iret rfl (kdX11_unrolled 28 rfl)
      · refine g_ldc (kdX11_unrolled 18 rfl) cX11_118 ?_
        exact g_iret rfl (kdX11_unrolled 19 rfl)
def JX11_improved (a1 : Int32) (a2 : Int32) (m : hM) : hR :=
  calI (JX11_isTap a1 m) fun x2 m1 =>
  if x2 = 0 then (some (some (.inl (-1000000000)), m1)) else (calI (JX11_within a2 0 1 m1) fun x4 m3 =>
  if x4 = 0 then (some (some (.inl (-1000000000)), m3)) else (calV (JX3_improve 0 40 a1 m3) fun m5 =>
  if a2 = 0 then (some (some (.inl (m5.1 24 0 3)), m5)) else (some (some (.inl (m5.1 24 0 4)), m5))))
set_option maxRecDepth 20000 in
theorem CX11_improved (a1 : Int32) (a2 : Int32) (m : hM) : Cn mX11_improved 5 [.inr (.inr (0, 0)), .inl a1, .inl a2] m (JX11_improved a1 a2 m) := by
  refine cn_of (by decide +kernel) (by simp only [List.map, vcat, List.sum_cons, List.sum_nil]; decide) ?_
  unfold JX11_improved
  show G mX11_improved 5 0 [(0, .inr (.inr (0, 0))), (1, .inl a1), (2, .inl a2)] [] m _
  refine g_aload_n 0 (kdX11_improved 0 rfl) rfl ?_
  refine g_iload_n 1 (kdX11_improved 1 rfl) rfl ?_
  refine g_calI (ck_V (As := [.inl a1]) (S := []) (t := 0) (o := 0) (kdX11_improved 2 rfl) iX11_isTap lX11_131 rc_0 rfl rfl rfl (by decide) (by simp only [List.map, vcat, List.sum_cons, List.sum_nil]; decide)) (CX11_isTap a1 m) (fun x2 m1 => ?_)
  refine g_if_eq (tgt := 17) (kdX11_improved 3 rfl) (by decide) (fun _ => ?_) (fun _ => ?_)
  · refine g_ldc (kdX11_improved 9 rfl) cX11_118 ?_
    exact g_iret rfl (kdX11_improved 10 rfl)
  · refine g_iload_n 2 (kdX11_improved 4 rfl) rfl ?_
    refine g_iconst (v := 0) (kdX11_improved 5 rfl) (by decide) ?_
    refine g_iconst (v := 1) (kdX11_improved 6 rfl) (by decide) ?_
    refine g_calI (ck_S (As := [.inl a2, .inl 0, .inl 1]) (S := []) (kdX11_improved 7 rfl) iX11_within lX11_110 rfl rfl rfl (by decide) (by simp only [List.map, vcat, List.sum_cons, List.sum_nil]; decide)) (CX11_within a2 0 1 m1) (fun x4 m3 => ?_)
    refine g_if_ne (tgt := 20) (kdX11_improved 8 rfl) (by decide) (fun _ => ?_) (fun _ => ?_)
    · refine g_aload_n 0 (kdX11_improved 11 rfl) rfl ?_
      refine g_get (v := .inr (.inr (24, 0))) (kdX11_improved 12 rfl) fX11_58 rfl ?_
      refine g_aload_n 0 (kdX11_improved 13 rfl) rfl ?_
      refine g_get (v := .inr (.inr (4, 0))) (kdX11_improved 14 rfl) fX11_19 rfl ?_
      refine g_aload_n 0 (kdX11_improved 15 rfl) rfl ?_
      refine g_get (v := .inr (.inr (12, 40))) (kdX11_improved 16 rfl) fX11_32 rfl ?_
      refine g_iload_n 1 (kdX11_improved 17 rfl) rfl ?_
      refine g_calV (ck_V (As := [.inr (.inr (4, 0)), .inr (.inr (12, 40)), .inl a1]) (S := []) (t := 24) (o := 0) (kdX11_improved 18 rfl) iX3_improve lX11_298 rc_24 rfl rfl rfl (by decide) (by simp only [List.map, vcat, List.sum_cons, List.sum_nil]; decide)) (CX3_improve 0 40 a1 m3) (fun m5 => ?_)
      refine g_iload_n 2 (kdX11_improved 19 rfl) rfl ?_
      refine g_if_ne (tgt := 50) (kdX11_improved 20 rfl) (by decide) (fun _ => ?_) (fun _ => ?_)
      · refine g_aload_n 0 (kdX11_improved 25 rfl) rfl ?_
        refine g_get (v := .inr (.inr (24, 0))) (kdX11_improved 26 rfl) fX11_58 rfl ?_
        refine g_get (v := .inl (m5.1 24 0 4)) (kdX11_improved 27 rfl) fX11_304 rfl ?_
        exact g_iret rfl (kdX11_improved 28 rfl)
      · refine g_aload_n 0 (kdX11_improved 21 rfl) rfl ?_
        refine g_get (v := .inr (.inr (24, 0))) (kdX11_improved 22 rfl) fX11_58 rfl ?_
        refine g_get (v := .inl (m5.1 24 0 3)) (kdX11_improved 23 rfl) fX11_301 rfl ?_
        refine g_goto (tgt := 57) (kdX11_improved 24 rfl) (by decide) ?_
        exact g_iret rfl (kdX11_improved 28 rfl)
    · refine g_ldc (kdX11_improved 9 rfl) cX11_118 ?_
      exact g_iret rfl (kdX11_improved 10 rfl)
def JX11_settled (a1 : Int32) (m : hM) : hR :=
  if (m.1 0 0 12) = 0 then (some (some (.inl (-1)), m)) else (calI (JX11_within a1 0 20 m) fun x2 m1 =>
  if x2 = 0 then (some (some (.inl (-1)), m1)) else (calI (JX0_settledNow 0 40 a1 m1) fun x4 m3 =>
  some (some (.inl x4), m3)))
set_option maxRecDepth 20000 in
theorem CX11_settled (a1 : Int32) (m : hM) : Cn mX11_settled 7 [.inr (.inr (0, 0)), .inl a1] m (JX11_settled a1 m) := by
  refine cn_of (by decide +kernel) (by simp only [List.map, vcat, List.sum_cons, List.sum_nil]; decide) ?_
  unfold JX11_settled
  show G mX11_settled 7 0 [(0, .inr (.inr (0, 0))), (1, .inl a1)] [] m _
  refine g_aload_n 0 (kdX11_settled 0 rfl) rfl ?_
  refine g_get (v := .inl (m.1 0 0 12)) (kdX11_settled 1 rfl) fX11_106 rfl ?_
  refine g_if_eq (tgt := 36) (kdX11_settled 2 rfl) (by decide) (fun _ => ?_) (fun _ => ?_)
  · refine g_iconst (v := (-1)) (kdX11_settled 17 rfl) (by decide) ?_
    exact g_iret rfl (kdX11_settled 18 rfl)
  · refine g_iload_n 1 (kdX11_settled 3 rfl) rfl ?_
    refine g_iconst (v := 0) (kdX11_settled 4 rfl) (by decide) ?_
    refine g_bipush (v := 20) (kdX11_settled 5 rfl) (by decide) ?_
    refine g_calI (ck_S (As := [.inl a1, .inl 0, .inl 20]) (S := []) (kdX11_settled 6 rfl) iX11_within lX11_110 rfl rfl rfl (by decide) (by simp only [List.map, vcat, List.sum_cons, List.sum_nil]; decide)) (CX11_within a1 0 20 m) (fun x2 m1 => ?_)
    refine g_if_eq (tgt := 36) (kdX11_settled 7 rfl) (by decide) (fun _ => ?_) (fun _ => ?_)
    · refine g_iconst (v := (-1)) (kdX11_settled 17 rfl) (by decide) ?_
      exact g_iret rfl (kdX11_settled 18 rfl)
    · refine g_aload_n 0 (kdX11_settled 8 rfl) rfl ?_
      refine g_get (v := .inr (.inr (34, 0))) (kdX11_settled 9 rfl) fX11_72 rfl ?_
      refine g_aload_n 0 (kdX11_settled 10 rfl) rfl ?_
      refine g_get (v := .inr (.inr (4, 0))) (kdX11_settled 11 rfl) fX11_19 rfl ?_
      refine g_aload_n 0 (kdX11_settled 12 rfl) rfl ?_
      refine g_get (v := .inr (.inr (12, 40))) (kdX11_settled 13 rfl) fX11_32 rfl ?_
      refine g_iload_n 1 (kdX11_settled 14 rfl) rfl ?_
      refine g_calI (ck_V (As := [.inr (.inr (4, 0)), .inr (.inr (12, 40)), .inl a1]) (S := []) (t := 34) (o := 0) (kdX11_settled 15 rfl) iX0_settledNow lX11_307 rc_34 rfl rfl rfl (by decide) (by simp only [List.map, vcat, List.sum_cons, List.sum_nil]; decide)) (CX0_settledNow 0 40 a1 m1) (fun x4 m3 => ?_)
      refine g_goto (tgt := 37) (kdX11_settled 16 rfl) (by decide) ?_
      exact g_iret rfl (kdX11_settled 18 rfl)
def JX11_quickest (a1 : Int32) (m : hM) : hR :=
  if (m.1 0 0 12) = 0 then (some (some (.inl (-1)), m)) else (calI (JX11_within a1 0 20 m) fun x2 m1 =>
  if x2 = 0 then (some (some (.inl (-1)), m1)) else (calI (JX0_quickestGear 0 40 a1 m1) fun x4 m3 =>
  some (some (.inl x4), m3)))
set_option maxRecDepth 20000 in
theorem CX11_quickest (a1 : Int32) (m : hM) : Cn mX11_quickest 7 [.inr (.inr (0, 0)), .inl a1] m (JX11_quickest a1 m) := by
  refine cn_of (by decide +kernel) (by simp only [List.map, vcat, List.sum_cons, List.sum_nil]; decide) ?_
  unfold JX11_quickest
  show G mX11_quickest 7 0 [(0, .inr (.inr (0, 0))), (1, .inl a1)] [] m _
  refine g_aload_n 0 (kdX11_quickest 0 rfl) rfl ?_
  refine g_get (v := .inl (m.1 0 0 12)) (kdX11_quickest 1 rfl) fX11_106 rfl ?_
  refine g_if_eq (tgt := 36) (kdX11_quickest 2 rfl) (by decide) (fun _ => ?_) (fun _ => ?_)
  · refine g_iconst (v := (-1)) (kdX11_quickest 17 rfl) (by decide) ?_
    exact g_iret rfl (kdX11_quickest 18 rfl)
  · refine g_iload_n 1 (kdX11_quickest 3 rfl) rfl ?_
    refine g_iconst (v := 0) (kdX11_quickest 4 rfl) (by decide) ?_
    refine g_bipush (v := 20) (kdX11_quickest 5 rfl) (by decide) ?_
    refine g_calI (ck_S (As := [.inl a1, .inl 0, .inl 20]) (S := []) (kdX11_quickest 6 rfl) iX11_within lX11_110 rfl rfl rfl (by decide) (by simp only [List.map, vcat, List.sum_cons, List.sum_nil]; decide)) (CX11_within a1 0 20 m) (fun x2 m1 => ?_)
    refine g_if_eq (tgt := 36) (kdX11_quickest 7 rfl) (by decide) (fun _ => ?_) (fun _ => ?_)
    · refine g_iconst (v := (-1)) (kdX11_quickest 17 rfl) (by decide) ?_
      exact g_iret rfl (kdX11_quickest 18 rfl)
    · refine g_aload_n 0 (kdX11_quickest 8 rfl) rfl ?_
      refine g_get (v := .inr (.inr (34, 0))) (kdX11_quickest 9 rfl) fX11_72 rfl ?_
      refine g_aload_n 0 (kdX11_quickest 10 rfl) rfl ?_
      refine g_get (v := .inr (.inr (4, 0))) (kdX11_quickest 11 rfl) fX11_19 rfl ?_
      refine g_aload_n 0 (kdX11_quickest 12 rfl) rfl ?_
      refine g_get (v := .inr (.inr (12, 40))) (kdX11_quickest 13 rfl) fX11_32 rfl ?_
      refine g_iload_n 1 (kdX11_quickest 14 rfl) rfl ?_
      refine g_calI (ck_V (As := [.inr (.inr (4, 0)), .inr (.inr (12, 40)), .inl a1]) (S := []) (t := 34) (o := 0) (kdX11_quickest 15 rfl) iX0_quickestGear lX11_310 rc_34 rfl rfl rfl (by decide) (by simp only [List.map, vcat, List.sum_cons, List.sum_nil]; decide)) (CX0_quickestGear 0 40 a1 m1) (fun x4 m3 => ?_)
      refine g_goto (tgt := 37) (kdX11_quickest 16 rfl) (by decide) ?_
      exact g_iret rfl (kdX11_quickest 18 rfl)
def JX11_coming_47 (v1 : Int32) (v2 : Int32) (m : hM) : hR :=
  calA 12 (JX0_copyOf 40 m) fun x6 m5 =>
  calI (JX8_wrongIn x6 0 v1 m5) fun x8 m7 =>
  if 6 ≤ v2 then (swL v2 [(6, some (some (.inl x8), m7)), (7, calI (JX11_sizeOf (m7.1 18 x6 10) m7) fun x10 m9 =>
  some (some (.inl x10), m9)), (8, some (some (.inl (m7.1 12 x6 6)), m7)), (9, some (some (.inl (m7.1 18 x6 5)), m7)), (10, if (m7.1 18 x6 2) = 0 then (some (some (.inl 0), m7)) else (some (some (.inl 1), m7))), (11, some (some (.inl (m7.1 12 x6 7)), m7))] (some (some (.inl (m7.1 12 x6 9)), m7))) else (ald m7 13 x6 v2 fun x11 =>
  some (some (.inl x11), m7))
set_option maxRecDepth 20000 in
theorem BX11_coming_47 (v1 : Int32) (v2 : Int32) (m : hM) : G mX11_coming 6 47 [(0, .inr (.inr (0, 0))), (1, .inl v1), (2, .inl v2)] [] m (JX11_coming_47 v1 v2 m) := by
  unfold JX11_coming_47
  refine g_aload_n 0 (kdX11_coming 24 rfl) rfl ?_
  refine g_get (v := .inr (.inr (34, 0))) (kdX11_coming 25 rfl) fX11_72 rfl ?_
  refine g_aload_n 0 (kdX11_coming 26 rfl) rfl ?_
  refine g_get (v := .inr (.inr (12, 40))) (kdX11_coming 27 rfl) fX11_32 rfl ?_
  refine g_calA (ck_V (As := [.inr (.inr (12, 40))]) (S := []) (t := 34) (o := 0) (kdX11_coming 28 rfl) iX0_copyOf lX11_209 rc_34 rfl rfl rfl (by decide) (by simp only [List.map, vcat, List.sum_cons, List.sum_nil]; decide)) (CX0_copyOf 40 m) (fun x6 m5 => ?_)
  refine g_astore_n (L2 := [(3, .inr (.inr (12, x6))), (0, .inr (.inr (0, 0))), (1, .inl v1), (2, .inl v2)]) (kdX11_coming 29 rfl) rfl (by decide) ?_
  refine g_aload_n 0 (kdX11_coming 30 rfl) rfl ?_
  refine g_aload_n 1 (kdX11_coming 31 rfl) rfl ?_
  refine g_get (v := .inr (.inr (4, 0))) (kdX11_coming 32 rfl) fX11_19 rfl ?_
  refine g_iload_n 2 (kdX11_coming 33 rfl) rfl ?_
  refine g_calI (ck_V (As := [.inr (.inr (4, 0)), .inl v1]) (S := []) (t := 12) (o := x6) (kdX11_coming 34 rfl) iX8_wrongIn lX11_313 rc_12 rfl rfl rfl (by decide) (by simp only [List.map, vcat, List.sum_cons, List.sum_nil]; decide)) (CX8_wrongIn x6 0 v1 m5) (fun x8 m7 => ?_)
  refine g_istore (L2 := [(4, .inl x8), (3, .inr (.inr (12, x6))), (0, .inr (.inr (0, 0))), (1, .inl v1), (2, .inl v2)]) (kdX11_coming 35 rfl) rfl (by decide) ?_
  refine g_iload_n 4 (kdX11_coming 36 rfl) rfl ?_
  refine g_bipush (v := 6) (kdX11_coming 37 rfl) (by decide) ?_
  refine g_icmp_ge (tgt := 83) (kdX11_coming 38 rfl) (by decide) (fun _ => ?_) (fun _ => ?_)
  · refine g_iload_n 4 (kdX11_coming 44 rfl) rfl ?_
    refine g_table (offs := [40, 43, 54, 59, 67, 83]) (dt := 172) (kdX11_coming 45 rfl) (by simp only [swK]; decide) rfl (by decide) ⟨⟨124, by decide, ?_⟩, ⟨127, by decide, ?_⟩, ⟨138, by decide, ?_⟩, ⟨143, by decide, ?_⟩, ⟨151, by decide, ?_⟩, ⟨167, by decide, ?_⟩, trivial⟩ ?_
    · refine g_iload 0 (kdX11_coming 46 rfl) rfl ?_
      exact g_iret rfl (kdX11_coming 47 rfl)
    · refine g_aload_n 1 (kdX11_coming 48 rfl) rfl ?_
      refine g_get (v := .inr (.inr (18, x6))) (kdX11_coming 49 rfl) fX11_213 rfl ?_
      refine g_get (v := .inl (m7.1 18 x6 10)) (kdX11_coming 50 rfl) fX11_316 rfl ?_
      refine g_calI (ck_S (As := [.inl (m7.1 18 x6 10)]) (S := []) (kdX11_coming 51 rfl) iX11_sizeOf lX11_319 rfl rfl rfl (by decide) (by simp only [List.map, vcat, List.sum_cons, List.sum_nil]; decide)) (CX11_sizeOf (m7.1 18 x6 10) m7) (fun x10 m9 => ?_)
      exact g_iret rfl (kdX11_coming 52 rfl)
    · refine g_aload_n 1 (kdX11_coming 53 rfl) rfl ?_
      refine g_get (v := .inl (m7.1 12 x6 6)) (kdX11_coming 54 rfl) fX11_153 rfl ?_
      exact g_iret rfl (kdX11_coming 55 rfl)
    · refine g_aload_n 1 (kdX11_coming 56 rfl) rfl ?_
      refine g_get (v := .inr (.inr (18, x6))) (kdX11_coming 57 rfl) fX11_213 rfl ?_
      refine g_get (v := .inl (m7.1 18 x6 5)) (kdX11_coming 58 rfl) fX11_322 rfl ?_
      exact g_iret rfl (kdX11_coming 59 rfl)
    · refine g_aload_n 1 (kdX11_coming 60 rfl) rfl ?_
      refine g_get (v := .inr (.inr (18, x6))) (kdX11_coming 61 rfl) fX11_213 rfl ?_
      refine g_get (v := .inl (m7.1 18 x6 2)) (kdX11_coming 62 rfl) fX11_325 rfl ?_
      refine g_if_eq (tgt := 165) (kdX11_coming 63 rfl) (by decide) (fun _ => ?_) (fun _ => ?_)
      · refine g_iconst (v := 0) (kdX11_coming 66 rfl) (by decide) ?_
        exact g_iret rfl (kdX11_coming 67 rfl)
      · refine g_iconst (v := 1) (kdX11_coming 64 rfl) (by decide) ?_
        refine g_goto (tgt := 166) (kdX11_coming 65 rfl) (by decide) ?_
        exact g_iret rfl (kdX11_coming 67 rfl)
    · refine g_aload_n 1 (kdX11_coming 68 rfl) rfl ?_
      refine g_get (v := .inl (m7.1 12 x6 7)) (kdX11_coming 69 rfl) fX11_328 rfl ?_
      exact g_iret rfl (kdX11_coming 70 rfl)
    · refine g_aload_n 1 (kdX11_coming 71 rfl) rfl ?_
      refine g_get (v := .inl (m7.1 12 x6 9)) (kdX11_coming 72 rfl) fX11_331 rfl ?_
      exact g_iret rfl (kdX11_coming 73 rfl)
  · refine g_aload_n 1 (kdX11_coming 39 rfl) rfl ?_
    refine g_get (v := .inr (.inr (13, x6))) (kdX11_coming 40 rfl) fX11_137 rfl ?_
    refine g_iload_n 4 (kdX11_coming 41 rfl) rfl ?_
    refine g_iald (kdX11_coming 42 rfl) (fun x11 => ?_)
    exact g_iret rfl (kdX11_coming 43 rfl)
def JX11_coming (a1 : Int32) (a2 : Int32) (m : hM) : hR :=
  if (m.1 0 0 12) = 0 then (some (some (.inl (-1000000000)), m)) else (calI (JX11_within a1 0 60 m) fun x2 m1 =>
  if x2 = 0 then (some (some (.inl (-1000000000)), m1)) else (calI (JX11_within a2 0 12 m1) fun x4 m3 =>
  if x4 = 0 then (some (some (.inl (-1000000000)), m3)) else (if 6 ≤ a2 then (JX11_coming_47 a1 a2 m3) else (calI (JX11_isTap a2 m3) fun x13 m12 =>
  if x13 = 0 then (some (some (.inl (-1000000000)), m12)) else (JX11_coming_47 a1 a2 m12)))))
set_option maxRecDepth 20000 in
theorem CX11_coming (a1 : Int32) (a2 : Int32) (m : hM) : Cn mX11_coming 6 [.inr (.inr (0, 0)), .inl a1, .inl a2] m (JX11_coming a1 a2 m) := by
  refine cn_of (by decide +kernel) (by simp only [List.map, vcat, List.sum_cons, List.sum_nil]; decide) ?_
  unfold JX11_coming
  show G mX11_coming 6 0 [(0, .inr (.inr (0, 0))), (1, .inl a1), (2, .inl a2)] [] m _
  refine g_aload_n 0 (kdX11_coming 0 rfl) rfl ?_
  refine g_get (v := .inl (m.1 0 0 12)) (kdX11_coming 1 rfl) fX11_106 rfl ?_
  refine g_if_eq (tgt := 27) (kdX11_coming 2 rfl) (by decide) (fun _ => ?_) (fun _ => ?_)
  · refine g_ldc (kdX11_coming 13 rfl) cX11_118 ?_
    exact g_iret rfl (kdX11_coming 14 rfl)
  · refine g_iload_n 1 (kdX11_coming 3 rfl) rfl ?_
    refine g_iconst (v := 0) (kdX11_coming 4 rfl) (by decide) ?_
    refine g_bipush (v := 60) (kdX11_coming 5 rfl) (by decide) ?_
    refine g_calI (ck_S (As := [.inl a1, .inl 0, .inl 60]) (S := []) (kdX11_coming 6 rfl) iX11_within lX11_110 rfl rfl rfl (by decide) (by simp only [List.map, vcat, List.sum_cons, List.sum_nil]; decide)) (CX11_within a1 0 60 m) (fun x2 m1 => ?_)
    refine g_if_eq (tgt := 27) (kdX11_coming 7 rfl) (by decide) (fun _ => ?_) (fun _ => ?_)
    · refine g_ldc (kdX11_coming 13 rfl) cX11_118 ?_
      exact g_iret rfl (kdX11_coming 14 rfl)
    · refine g_iload_n 2 (kdX11_coming 8 rfl) rfl ?_
      refine g_iconst (v := 0) (kdX11_coming 9 rfl) (by decide) ?_
      refine g_bipush (v := 12) (kdX11_coming 10 rfl) (by decide) ?_
      refine g_calI (ck_S (As := [.inl a2, .inl 0, .inl 12]) (S := []) (kdX11_coming 11 rfl) iX11_within lX11_110 rfl rfl rfl (by decide) (by simp only [List.map, vcat, List.sum_cons, List.sum_nil]; decide)) (CX11_within a2 0 12 m1) (fun x4 m3 => ?_)
      refine g_if_ne (tgt := 30) (kdX11_coming 12 rfl) (by decide) (fun _ => ?_) (fun _ => ?_)
      · refine g_iload_n 2 (kdX11_coming 15 rfl) rfl ?_
        refine g_bipush (v := 6) (kdX11_coming 16 rfl) (by decide) ?_
        refine g_icmp_ge (tgt := 47) (kdX11_coming 17 rfl) (by decide) (fun _ => ?_) (fun _ => ?_)
        · exact g_fgt [0, 1, 2] rfl (BX11_coming_47 a1 a2 m3)
        · refine g_aload_n 0 (kdX11_coming 18 rfl) rfl ?_
          refine g_iload_n 2 (kdX11_coming 19 rfl) rfl ?_
          refine g_calI (ck_V (As := [.inl a2]) (S := []) (t := 0) (o := 0) (kdX11_coming 20 rfl) iX11_isTap lX11_131 rc_0 rfl rfl rfl (by decide) (by simp only [List.map, vcat, List.sum_cons, List.sum_nil]; decide)) (CX11_isTap a2 m3) (fun x13 m12 => ?_)
          refine g_if_ne (tgt := 47) (kdX11_coming 21 rfl) (by decide) (fun _ => ?_) (fun _ => ?_)
          · exact g_fgt [0, 1, 2] rfl (BX11_coming_47 a1 a2 m12)
          · refine g_ldc (kdX11_coming 22 rfl) cX11_118 ?_
            exact g_iret rfl (kdX11_coming 23 rfl)
      · refine g_ldc (kdX11_coming 13 rfl) cX11_118 ?_
        exact g_iret rfl (kdX11_coming 14 rfl)
def JX11_gain (a1 : Int32) (m : hM) : hR :=
  if (m.1 0 0 12) = 0 then (some (some (.inl (-1000000000)), m)) else (calI (JX11_within a1 1 60 m) fun x2 m1 =>
  if x2 = 0 then (some (some (.inl (-1000000000)), m1)) else (calI (JX0_wrongIfHeld 0 40 a1 1 m1) fun x4 m3 =>
  calI (JX0_wrongIfHeld 0 40 a1 0 m3) fun x6 m5 =>
  some (some (.inl (x4 - x6)), m5)))
set_option maxRecDepth 20000 in
theorem CX11_gain (a1 : Int32) (m : hM) : Cn mX11_gain 7 [.inr (.inr (0, 0)), .inl a1] m (JX11_gain a1 m) := by
  refine cn_of (by decide +kernel) (by simp only [List.map, vcat, List.sum_cons, List.sum_nil]; decide) ?_
  unfold JX11_gain
  show G mX11_gain 7 0 [(0, .inr (.inr (0, 0))), (1, .inl a1)] [] m _
  refine g_aload_n 0 (kdX11_gain 0 rfl) rfl ?_
  refine g_get (v := .inl (m.1 0 0 12)) (kdX11_gain 1 rfl) fX11_106 rfl ?_
  refine g_if_eq (tgt := 17) (kdX11_gain 2 rfl) (by decide) (fun _ => ?_) (fun _ => ?_)
  · refine g_ldc (kdX11_gain 8 rfl) cX11_118 ?_
    exact g_iret rfl (kdX11_gain 9 rfl)
  · refine g_iload_n 1 (kdX11_gain 3 rfl) rfl ?_
    refine g_iconst (v := 1) (kdX11_gain 4 rfl) (by decide) ?_
    refine g_bipush (v := 60) (kdX11_gain 5 rfl) (by decide) ?_
    refine g_calI (ck_S (As := [.inl a1, .inl 1, .inl 60]) (S := []) (kdX11_gain 6 rfl) iX11_within lX11_110 rfl rfl rfl (by decide) (by simp only [List.map, vcat, List.sum_cons, List.sum_nil]; decide)) (CX11_within a1 1 60 m) (fun x2 m1 => ?_)
    refine g_if_ne (tgt := 20) (kdX11_gain 7 rfl) (by decide) (fun _ => ?_) (fun _ => ?_)
    · refine g_aload_n 0 (kdX11_gain 10 rfl) rfl ?_
      refine g_get (v := .inr (.inr (34, 0))) (kdX11_gain 11 rfl) fX11_72 rfl ?_
      refine g_aload_n 0 (kdX11_gain 12 rfl) rfl ?_
      refine g_get (v := .inr (.inr (4, 0))) (kdX11_gain 13 rfl) fX11_19 rfl ?_
      refine g_aload_n 0 (kdX11_gain 14 rfl) rfl ?_
      refine g_get (v := .inr (.inr (12, 40))) (kdX11_gain 15 rfl) fX11_32 rfl ?_
      refine g_iload_n 1 (kdX11_gain 16 rfl) rfl ?_
      refine g_iconst (v := 1) (kdX11_gain 17 rfl) (by decide) ?_
      refine g_calI (ck_V (As := [.inr (.inr (4, 0)), .inr (.inr (12, 40)), .inl a1, .inl 1]) (S := []) (t := 34) (o := 0) (kdX11_gain 18 rfl) iX0_wrongIfHeld lX11_334 rc_34 rfl rfl rfl (by decide) (by simp only [List.map, vcat, List.sum_cons, List.sum_nil]; decide)) (CX0_wrongIfHeld 0 40 a1 1 m1) (fun x4 m3 => ?_)
      refine g_aload_n 0 (kdX11_gain 19 rfl) rfl ?_
      refine g_get (v := .inr (.inr (34, 0))) (kdX11_gain 20 rfl) fX11_72 rfl ?_
      refine g_aload_n 0 (kdX11_gain 21 rfl) rfl ?_
      refine g_get (v := .inr (.inr (4, 0))) (kdX11_gain 22 rfl) fX11_19 rfl ?_
      refine g_aload_n 0 (kdX11_gain 23 rfl) rfl ?_
      refine g_get (v := .inr (.inr (12, 40))) (kdX11_gain 24 rfl) fX11_32 rfl ?_
      refine g_iload_n 1 (kdX11_gain 25 rfl) rfl ?_
      refine g_iconst (v := 0) (kdX11_gain 26 rfl) (by decide) ?_
      refine g_calI (ck_V (As := [.inr (.inr (4, 0)), .inr (.inr (12, 40)), .inl a1, .inl 0]) (S := [.inl x4]) (t := 34) (o := 0) (kdX11_gain 27 rfl) iX0_wrongIfHeld lX11_334 rc_34 rfl rfl rfl (by decide) (by simp only [List.map, vcat, List.sum_cons, List.sum_nil]; decide)) (CX0_wrongIfHeld 0 40 a1 0 m3) (fun x6 m5 => ?_)
      refine g_isub (kdX11_gain 28 rfl) ?_
      exact g_iret rfl (kdX11_gain 29 rfl)
    · refine g_ldc (kdX11_gain 8 rfl) cX11_118 ?_
      exact g_iret rfl (kdX11_gain 9 rfl)
def JX11_worst_75 (K36 : Int32 → Int32 → Int32 → hM → hR) (K81 : Int32 → Int32 → hM → hR) (v1 : Int32) (v2 : Int32) (v3 : Int32) (v4 : Int32) (v5 : Int32) (m : hM) : hR :=
  K36 v3 v4 (v5 + 1) m
set_option maxRecDepth 20000 in
theorem BX11_worst_75 (v1 : Int32) (v2 : Int32) (K36 : Int32 → Int32 → Int32 → hM → hR) (K81 : Int32 → Int32 → hM → hR) (h36 : ∀ (v3 : Int32) (v4 : Int32) (v5 : Int32) (m : hM), G mX11_worst 7 36 [(0, .inr (.inr (0, 0))), (1, .inl v1), (2, .inl v2), (3, .inl v3), (4, .inl v4), (5, .inl v5)] [] m (K36 v3 v4 v5 m)) (h81 : ∀ (v3 : Int32) (v4 : Int32) (m : hM), G mX11_worst 7 81 [(2, .inl v2), (3, .inl v3), (4, .inl v4)] [] m (K81 v3 v4 m)) (v3 : Int32) (v4 : Int32) (v5 : Int32) (m : hM) : G mX11_worst 7 75 [(0, .inr (.inr (0, 0))), (1, .inl v1), (2, .inl v2), (3, .inl v3), (4, .inl v4), (5, .inl v5)] [] m (JX11_worst_75 K36 K81 v1 v2 v3 v4 v5 m) := by
  unfold JX11_worst_75
  refine g_iinc (v := v5 + 1) (L2 := [(5, .inl (v5 + 1)), (0, .inr (.inr (0, 0))), (1, .inl v1), (2, .inl v2), (3, .inl v3), (4, .inl v4)]) 5 (kdX11_worst 40 rfl) rfl rfl rfl (by decide) ?_
  refine g_goto (tgt := 36) (kdX11_worst 41 rfl) (by decide) ?_
  exact g_fgt [1, 2, 3, 4, 5, 0] rfl (h36 v3 v4 (v5 + 1) m)
def bJX11_worst_36 (K36 : Int32 → Int32 → Int32 → hM → hR) (K81 : Int32 → Int32 → hM → hR) (v1 : Int32) (v2 : Int32) (v3 : Int32) (v4 : Int32) (v5 : Int32) (m : hM) : hR :=
  if v1 ≤ v5 then (K81 v3 v4 m) else (calI (JX0_wrongIfDropped 0 40 v5 m) fun x6 m5 =>
  if x6 ≤ v4 then (JX11_worst_75 K36 K81 v1 v2 v3 v4 v5 m5) else (JX11_worst_75 K36 K81 v1 v2 v5 x6 v5 m5))
set_option maxRecDepth 20000 in
theorem BbJX11_worst_36 (K36 : Int32 → Int32 → Int32 → hM → hR) (K81 : Int32 → Int32 → hM → hR) (v1 : Int32) (v2 : Int32) (h36 : ∀ (v3 : Int32) (v4 : Int32) (v5 : Int32) (m : hM), G mX11_worst 7 36 [(0, .inr (.inr (0, 0))), (1, .inl v1), (2, .inl v2), (3, .inl v3), (4, .inl v4), (5, .inl v5)] [] m (K36 v3 v4 v5 m)) (h81 : ∀ (v3 : Int32) (v4 : Int32) (m : hM), G mX11_worst 7 81 [(2, .inl v2), (3, .inl v3), (4, .inl v4)] [] m (K81 v3 v4 m)) (v3 : Int32) (v4 : Int32) (v5 : Int32) (m : hM) : G mX11_worst 7 36 [(0, .inr (.inr (0, 0))), (1, .inl v1), (2, .inl v2), (3, .inl v3), (4, .inl v4), (5, .inl v5)] [] m (bJX11_worst_36 K36 K81 v1 v2 v3 v4 v5 m) := by
  unfold bJX11_worst_36
  refine g_iload 5 (kdX11_worst 21 rfl) rfl ?_
  refine g_iload_n 1 (kdX11_worst 22 rfl) rfl ?_
  refine g_icmp_ge (tgt := 81) (kdX11_worst 23 rfl) (by decide) (fun _ => ?_) (fun _ => ?_)
  · exact g_fgt [2, 3, 4] rfl (h81 v3 v4 m)
  · refine g_aload_n 0 (kdX11_worst 24 rfl) rfl ?_
    refine g_get (v := .inr (.inr (34, 0))) (kdX11_worst 25 rfl) fX11_72 rfl ?_
    refine g_aload_n 0 (kdX11_worst 26 rfl) rfl ?_
    refine g_get (v := .inr (.inr (4, 0))) (kdX11_worst 27 rfl) fX11_19 rfl ?_
    refine g_aload_n 0 (kdX11_worst 28 rfl) rfl ?_
    refine g_get (v := .inr (.inr (12, 40))) (kdX11_worst 29 rfl) fX11_32 rfl ?_
    refine g_iload 5 (kdX11_worst 30 rfl) rfl ?_
    refine g_calI (ck_V (As := [.inr (.inr (4, 0)), .inr (.inr (12, 40)), .inl v5]) (S := []) (t := 34) (o := 0) (kdX11_worst 31 rfl) iX0_wrongIfDropped lX11_338 rc_34 rfl rfl rfl (by decide) (by simp only [List.map, vcat, List.sum_cons, List.sum_nil]; decide)) (CX0_wrongIfDropped 0 40 v5 m) (fun x6 m5 => ?_)
    refine g_istore (L2 := [(6, .inl x6), (0, .inr (.inr (0, 0))), (1, .inl v1), (2, .inl v2), (3, .inl v3), (4, .inl v4), (5, .inl v5)]) (kdX11_worst 32 rfl) rfl (by decide) ?_
    refine g_iload 0 (kdX11_worst 33 rfl) rfl ?_
    refine g_iload 5 (kdX11_worst 34 rfl) rfl ?_
    refine g_icmp_le (tgt := 75) (kdX11_worst 35 rfl) (by decide) (fun _ => ?_) (fun _ => ?_)
    · exact g_fgt [1, 2, 3, 4, 5, 6] rfl (BX11_worst_75 v1 v2 _ _ h36 h81 v3 v4 v5 m5)
    · refine g_iload 0 (kdX11_worst 36 rfl) rfl ?_
      refine g_istore (L2 := [(4, .inl x6), (6, .inl x6), (0, .inr (.inr (0, 0))), (1, .inl v1), (2, .inl v2), (3, .inl v3), (5, .inl v5)]) (kdX11_worst 37 rfl) rfl (by decide) ?_
      refine g_iload 6 (kdX11_worst 38 rfl) rfl ?_
      refine g_istore_n (L2 := [(3, .inl v5), (4, .inl x6), (6, .inl x6), (0, .inr (.inr (0, 0))), (1, .inl v1), (2, .inl v2), (5, .inl v5)]) (kdX11_worst 39 rfl) rfl (by decide) ?_
      exact g_fgt [3, 4, 5, 0, 1, 6] rfl (BX11_worst_75 v1 v2 _ _ h36 h81 v5 x6 v5 m5)
def JX11_worst_36 (K81 : Int32 → Int32 → hM → hR) (v1 : Int32) (v2 : Int32) : Nat → Int32 → Int32 → Int32 → hM → hR
  | 0, _, _, _, _ => none
  | f + 1, v3, v4, v5, m => bJX11_worst_36 (fun v3 v4 v5 m => JX11_worst_36 K81 v1 v2 f v3 v4 v5 m) K81 v1 v2 v3 v4 v5 m
theorem BJX11_worst_36 (K81 : Int32 → Int32 → hM → hR) (v1 : Int32) (v2 : Int32) (h81 : ∀ (v3 : Int32) (v4 : Int32) (m : hM), G mX11_worst 7 81 [(2, .inl v2), (3, .inl v3), (4, .inl v4)] [] m (K81 v3 v4 m)) : ∀ (f : Nat) (v3 : Int32) (v4 : Int32) (v5 : Int32) (m : hM), G mX11_worst 7 36 [(0, .inr (.inr (0, 0))), (1, .inl v1), (2, .inl v2), (3, .inl v3), (4, .inl v4), (5, .inl v5)] [] m (JX11_worst_36 K81 v1 v2 f v3 v4 v5 m)
  | 0, _, _, _, _ => g_none
  | f + 1, v3, v4, v5, m => BbJX11_worst_36  _ K81 v1 v2 (fun v3 v4 v5 m => BJX11_worst_36  K81 v1 v2 h81 f v3 v4 v5 m) h81 v3 v4 v5 m
def JX11_worst (a1 : Int32) (a2 : Int32) (m : hM) : hR :=
  if (m.1 0 0 12) = 0 then (some (some (.inl (-1)), m)) else (calI (JX11_within a1 1 6 m) fun x2 m1 =>
  if x2 = 0 then (some (some (.inl (-1)), m1)) else (calI (JX11_within a2 0 1 m1) fun x4 m3 =>
  if x4 = 0 then (some (some (.inl (-1)), m3)) else (JX11_worst_36 (fun v3 v4 m7 => if a2 = 0 then (some (some (.inl v3), m7)) else (some (some (.inl v4), m7))) a1 a2 FU 0 (-1) 0 m3)))
set_option maxRecDepth 20000 in
theorem CX11_worst (a1 : Int32) (a2 : Int32) (m : hM) : Cn mX11_worst 7 [.inr (.inr (0, 0)), .inl a1, .inl a2] m (JX11_worst a1 a2 m) := by
  refine cn_of (by decide +kernel) (by simp only [List.map, vcat, List.sum_cons, List.sum_nil]; decide) ?_
  unfold JX11_worst
  show G mX11_worst 7 0 [(0, .inr (.inr (0, 0))), (1, .inl a1), (2, .inl a2)] [] m _
  refine g_aload_n 0 (kdX11_worst 0 rfl) rfl ?_
  refine g_get (v := .inl (m.1 0 0 12)) (kdX11_worst 1 rfl) fX11_106 rfl ?_
  refine g_if_eq (tgt := 26) (kdX11_worst 2 rfl) (by decide) (fun _ => ?_) (fun _ => ?_)
  · refine g_iconst (v := (-1)) (kdX11_worst 13 rfl) (by decide) ?_
    exact g_iret rfl (kdX11_worst 14 rfl)
  · refine g_iload_n 1 (kdX11_worst 3 rfl) rfl ?_
    refine g_iconst (v := 1) (kdX11_worst 4 rfl) (by decide) ?_
    refine g_bipush (v := 6) (kdX11_worst 5 rfl) (by decide) ?_
    refine g_calI (ck_S (As := [.inl a1, .inl 1, .inl 6]) (S := []) (kdX11_worst 6 rfl) iX11_within lX11_110 rfl rfl rfl (by decide) (by simp only [List.map, vcat, List.sum_cons, List.sum_nil]; decide)) (CX11_within a1 1 6 m) (fun x2 m1 => ?_)
    refine g_if_eq (tgt := 26) (kdX11_worst 7 rfl) (by decide) (fun _ => ?_) (fun _ => ?_)
    · refine g_iconst (v := (-1)) (kdX11_worst 13 rfl) (by decide) ?_
      exact g_iret rfl (kdX11_worst 14 rfl)
    · refine g_iload_n 2 (kdX11_worst 8 rfl) rfl ?_
      refine g_iconst (v := 0) (kdX11_worst 9 rfl) (by decide) ?_
      refine g_iconst (v := 1) (kdX11_worst 10 rfl) (by decide) ?_
      refine g_calI (ck_S (As := [.inl a2, .inl 0, .inl 1]) (S := []) (kdX11_worst 11 rfl) iX11_within lX11_110 rfl rfl rfl (by decide) (by simp only [List.map, vcat, List.sum_cons, List.sum_nil]; decide)) (CX11_within a2 0 1 m1) (fun x4 m3 => ?_)
      refine g_if_ne (tgt := 28) (kdX11_worst 12 rfl) (by decide) (fun _ => ?_) (fun _ => ?_)
      · refine g_iconst (v := 0) (kdX11_worst 15 rfl) (by decide) ?_
        refine g_istore_n (L2 := [(3, .inl 0), (0, .inr (.inr (0, 0))), (1, .inl a1), (2, .inl a2)]) (kdX11_worst 16 rfl) rfl (by decide) ?_
        refine g_iconst (v := (-1)) (kdX11_worst 17 rfl) (by decide) ?_
        refine g_istore (L2 := [(4, .inl (-1)), (3, .inl 0), (0, .inr (.inr (0, 0))), (1, .inl a1), (2, .inl a2)]) (kdX11_worst 18 rfl) rfl (by decide) ?_
        refine g_iconst (v := 0) (kdX11_worst 19 rfl) (by decide) ?_
        refine g_istore (L2 := [(5, .inl 0), (4, .inl (-1)), (3, .inl 0), (0, .inr (.inr (0, 0))), (1, .inl a1), (2, .inl a2)]) (kdX11_worst 20 rfl) rfl (by decide) ?_
        refine g_fgt [3, 4, 5, 2, 1, 0] rfl (BJX11_worst_36  _ a1 a2 ?_ FU 0 (-1) 0 m3)
        · intro v3 v4 m7
          refine g_iload_n 0 (kdX11_worst 42 rfl) rfl ?_
          refine g_if_ne (tgt := 89) (kdX11_worst 43 rfl) (by decide) (fun _ => ?_) (fun _ => ?_)
          · refine g_iload 2 (kdX11_worst 46 rfl) rfl ?_
            exact g_iret rfl (kdX11_worst 47 rfl)
          · refine g_iload_n 1 (kdX11_worst 44 rfl) rfl ?_
            refine g_goto (tgt := 91) (kdX11_worst 45 rfl) (by decide) ?_
            exact g_iret rfl (kdX11_worst 47 rfl)
      · refine g_iconst (v := (-1)) (kdX11_worst 13 rfl) (by decide) ?_
        exact g_iret rfl (kdX11_worst 14 rfl)
def JX11_odds (a1 : Int32) (m : hM) : hR :=
  if (m.1 0 0 12) = 0 then (some (some (.inl (-1)), m)) else (calI (JX11_within a1 1 4 m) fun x2 m1 =>
  if x2 = 0 then (some (some (.inl (-1)), m1)) else (calI (JX0_rightRows 0 40 a1 m1) fun x4 m3 =>
  some (some (.inl x4), m3)))
set_option maxRecDepth 20000 in
theorem CX11_odds (a1 : Int32) (m : hM) : Cn mX11_odds 22 [.inr (.inr (0, 0)), .inl a1] m (JX11_odds a1 m) := by
  refine cn_of (by decide +kernel) (by simp only [List.map, vcat, List.sum_cons, List.sum_nil]; decide) ?_
  unfold JX11_odds
  show G mX11_odds 22 0 [(0, .inr (.inr (0, 0))), (1, .inl a1)] [] m _
  refine g_aload_n 0 (kdX11_odds 0 rfl) rfl ?_
  refine g_get (v := .inl (m.1 0 0 12)) (kdX11_odds 1 rfl) fX11_106 rfl ?_
  refine g_if_eq (tgt := 35) (kdX11_odds 2 rfl) (by decide) (fun _ => ?_) (fun _ => ?_)
  · refine g_iconst (v := (-1)) (kdX11_odds 17 rfl) (by decide) ?_
    exact g_iret rfl (kdX11_odds 18 rfl)
  · refine g_iload_n 1 (kdX11_odds 3 rfl) rfl ?_
    refine g_iconst (v := 1) (kdX11_odds 4 rfl) (by decide) ?_
    refine g_iconst (v := 4) (kdX11_odds 5 rfl) (by decide) ?_
    refine g_calI (ck_S (As := [.inl a1, .inl 1, .inl 4]) (S := []) (kdX11_odds 6 rfl) iX11_within lX11_110 rfl rfl rfl (by decide) (by simp only [List.map, vcat, List.sum_cons, List.sum_nil]; decide)) (CX11_within a1 1 4 m) (fun x2 m1 => ?_)
    refine g_if_eq (tgt := 35) (kdX11_odds 7 rfl) (by decide) (fun _ => ?_) (fun _ => ?_)
    · refine g_iconst (v := (-1)) (kdX11_odds 17 rfl) (by decide) ?_
      exact g_iret rfl (kdX11_odds 18 rfl)
    · refine g_aload_n 0 (kdX11_odds 8 rfl) rfl ?_
      refine g_get (v := .inr (.inr (34, 0))) (kdX11_odds 9 rfl) fX11_72 rfl ?_
      refine g_aload_n 0 (kdX11_odds 10 rfl) rfl ?_
      refine g_get (v := .inr (.inr (4, 0))) (kdX11_odds 11 rfl) fX11_19 rfl ?_
      refine g_aload_n 0 (kdX11_odds 12 rfl) rfl ?_
      refine g_get (v := .inr (.inr (12, 40))) (kdX11_odds 13 rfl) fX11_32 rfl ?_
      refine g_iload_n 1 (kdX11_odds 14 rfl) rfl ?_
      refine g_calI (ck_V (As := [.inr (.inr (4, 0)), .inr (.inr (12, 40)), .inl a1]) (S := []) (t := 34) (o := 0) (kdX11_odds 15 rfl) iX0_rightRows lX11_341 rc_34 rfl rfl rfl (by decide) (by simp only [List.map, vcat, List.sum_cons, List.sum_nil]; decide)) (CX0_rightRows 0 40 a1 m1) (fun x4 m3 => ?_)
      refine g_goto (tgt := 36) (kdX11_odds 16 rfl) (by decide) ?_
      exact g_iret rfl (kdX11_odds 18 rfl)
