abbrev mX11_feed : hMt := (yX11_feed, cX11_feed, 6, some .int)
def tX11_feed : hTb := [(0, .aload_n 0, 1, 1), (1, .getfield 10, 3, 4), (4, .iload_n 1, 1, 5), (5, .iload_n 2, 1, 6), (6, .iload_n 3, 1, 7), (7, .iload 4, 2, 9), (9, .iload 5, 2, 11), (11, .invokevirtual 85, 3, 14), (14, .ireturn, 1, 15)]
theorem ktX11_feed : TbOK mX11_feed tX11_feed := by
  unfold TbOK
  decide +kernel
theorem kdX11_feed (k : Nat) {pc : Nat} {i : Instr} {len nx : Nat} (hk : tX11_feed[k]? = some (pc, i, len, nx)) : Dc mX11_feed pc i len nx := dc_of ktX11_feed k hk
theorem iX11_feed : MiV mX11_feed := ⟨⟨gdw_of (i := 524) (by decide +kernel) (by decide +kernel), gdw_of (i := 113) (by decide +kernel) (by decide +kernel), by decide, by decide, by decide⟩, gdw_of (i := 522) (by decide +kernel) (by decide +kernel), gdw_of (i := 523) (by decide +kernel) (by decide +kernel)⟩
abbrev mX11_end : hMt := (yX11_end, cX11_end, 2, some .boolean)
def tX11_end : hTb := [(0, .aload_n 0, 1, 1), (1, .getfield 10, 3, 4), (4, .iload_n 1, 1, 5), (5, .invokevirtual 89, 3, 8), (8, .ireturn, 1, 9)]
theorem ktX11_end : TbOK mX11_end tX11_end := by
  unfold TbOK
  decide +kernel
theorem kdX11_end (k : Nat) {pc : Nat} {i : Instr} {len nx : Nat} (hk : tX11_end[k]? = some (pc, i, len, nx)) : Dc mX11_end pc i len nx := dc_of ktX11_end k hk
theorem iX11_end : MiV mX11_end := ⟨⟨gdw_of (i := 542) (by decide +kernel) (by decide +kernel), gdw_of (i := 113) (by decide +kernel) (by decide +kernel), by decide, by decide, by decide⟩, gdw_of (i := 540) (by decide +kernel) (by decide +kernel), gdw_of (i := 541) (by decide +kernel) (by decide +kernel)⟩
abbrev mX11_fault : hMt := (yX11_fault, cX11_fault, 2, some .int)
def tX11_fault : hTb := [(0, .iload_n 1, 1, 1), (1, .ifCond .ne 11, 3, 4), (4, .aload_n 0, 1, 5), (5, .getfield 10, 3, 8), (8, .invokevirtual 93, 3, 11), (11, .ireturn, 1, 12), (12, .iload_n 1, 1, 13), (13, .iconst 1, 1, 14), (14, .if_icmp .ne 13, 3, 17), (17, .aload_n 0, 1, 18), (18, .getfield 10, 3, 21), (21, .invokevirtual 97, 3, 24), (24, .goto 5, 3, 27), (27, .bipush (-2), 2, 29), (29, .ireturn, 1, 30)]
theorem ktX11_fault : TbOK mX11_fault tX11_fault := by
  unfold TbOK
  decide +kernel
theorem kdX11_fault (k : Nat) {pc : Nat} {i : Instr} {len nx : Nat} (hk : tX11_fault[k]? = some (pc, i, len, nx)) : Dc mX11_fault pc i len nx := dc_of ktX11_fault k hk
theorem iX11_fault : MiV mX11_fault := ⟨⟨gdw_of (i := 550) (by decide +kernel) (by decide +kernel), gdw_of (i := 113) (by decide +kernel) (by decide +kernel), by decide, by decide, by decide⟩, gdw_of (i := 548) (by decide +kernel) (by decide +kernel), gdw_of (i := 549) (by decide +kernel) (by decide +kernel)⟩
abbrev mX11_takeLine : hMt := (yX11_takeLine, cX11_takeLine, 1, some .int)
def tX11_takeLine : hTb := [(0, .aload_n 0, 1, 1), (1, .getfield 10, 3, 4), (4, .invokevirtual 93, 3, 7), (7, .iconst (-1), 1, 8), (8, .if_icmp .eq 5, 3, 11), (11, .iconst (-1), 1, 12), (12, .ireturn, 1, 13), (13, .aload_n 0, 1, 14), (14, .getfield 19, 3, 17), (17, .aload_n 0, 1, 18), (18, .getfield 10, 3, 21), (21, .getfield 344, 3, 24), (24, .invokevirtual 345, 3, 27), (27, .aload_n 0, 1, 28), (28, .getfield 10, 3, 31), (31, .iconst 0, 1, 32), (32, .invokevirtual 89, 3, 35), (35, .pop, 1, 36), (36, .aload_n 0, 1, 37), (37, .getfield 32, 3, 40), (40, .aload_n 0, 1, 41), (41, .getfield 19, 3, 44), (44, .invokevirtual 348, 3, 47), (47, .aload_n 0, 1, 48), (48, .iconst 1, 1, 49), (49, .putfield 106, 3, 52), (52, .aload_n 0, 1, 53), (53, .iconst 0, 1, 54), (54, .putfield 200, 3, 57), (57, .aload_n 0, 1, 58), (58, .iconst 0, 1, 59), (59, .putfield 168, 3, 62), (62, .aload_n 0, 1, 63), (63, .getfield 19, 3, 66), (66, .invokevirtual 351, 3, 69), (69, .ireturn, 1, 70)]
theorem ktX11_takeLine : TbOK mX11_takeLine tX11_takeLine := by
  unfold TbOK
  decide +kernel
theorem kdX11_takeLine (k : Nat) {pc : Nat} {i : Instr} {len nx : Nat} (hk : tX11_takeLine[k]? = some (pc, i, len, nx)) : Dc mX11_takeLine pc i len nx := dc_of ktX11_takeLine k hk
theorem iX11_takeLine : MiV mX11_takeLine := ⟨⟨gdw_of (i := 709) (by decide +kernel) (by decide +kernel), gdw_of (i := 113) (by decide +kernel) (by decide +kernel), by decide, by decide, by decide⟩, gdw_of (i := 708) (by decide +kernel) (by decide +kernel), gdw_of (i := 13) (by decide +kernel) (by decide +kernel)⟩
abbrev mX11_takeScript : hMt := (yX11_takeScript, cX11_takeScript, 1, some .int)
def tX11_takeScript : hTb := [(0, .aload_n 0, 1, 1), (1, .getfield 162, 3, 4), (4, .iconst 0, 1, 5), (5, .iconst 3, 1, 6), (6, .invokestatic 110, 3, 9), (9, .ifCond .eq 14, 3, 12), (12, .aload_n 0, 1, 13), (13, .getfield 10, 3, 16), (16, .invokevirtual 97, 3, 19), (19, .iconst (-1), 1, 20), (20, .if_icmp .eq 5, 3, 23), (23, .iconst (-1), 1, 24), (24, .ireturn, 1, 25), (25, .aload_n 0, 1, 26), (26, .getfield 25, 3, 29), (29, .aload_n 0, 1, 30), (30, .getfield 162, 3, 33), (33, .aaload, 1, 34), (34, .aload_n 0, 1, 35), (35, .getfield 10, 3, 38), (38, .getfield 354, 3, 41), (41, .invokevirtual 358, 3, 44), (44, .aload_n 0, 1, 45), (45, .getfield 10, 3, 48), (48, .iconst 0, 1, 49), (49, .invokevirtual 89, 3, 52), (52, .pop, 1, 53), (53, .aload_n 0, 1, 54), (54, .dup, 1, 55), (55, .getfield 162, 3, 58), (58, .iconst 1, 1, 59), (59, .iadd, 1, 60), (60, .putfield 162, 3, 63), (63, .aload_n 0, 1, 64), (64, .getfield 162, 3, 67), (67, .iconst 1, 1, 68), (68, .isub, 1, 69), (69, .ireturn, 1, 70)]
theorem ktX11_takeScript : TbOK mX11_takeScript tX11_takeScript := by
  unfold TbOK
  decide +kernel
theorem kdX11_takeScript (k : Nat) {pc : Nat} {i : Instr} {len nx : Nat} (hk : tX11_takeScript[k]? = some (pc, i, len, nx)) : Dc mX11_takeScript pc i len nx := dc_of ktX11_takeScript k hk
theorem iX11_takeScript : MiV mX11_takeScript := ⟨⟨gdw_of (i := 739) (by decide +kernel) (by decide +kernel), gdw_of (i := 113) (by decide +kernel) (by decide +kernel), by decide, by decide, by decide⟩, gdw_of (i := 738) (by decide +kernel) (by decide +kernel), gdw_of (i := 14) (by decide +kernel) (by decide +kernel)⟩
abbrev mX11_text : hMt := (yX11_text, cX11_text, 2, some .int)
def tX11_text : hTb := [(0, .iload_n 1, 1, 1), (1, .ifCond .ne 8, 3, 4), (4, .aload_n 0, 1, 5), (5, .invokevirtual 100, 3, 8), (8, .ireturn, 1, 9), (9, .iload_n 1, 1, 10), (10, .iconst 1, 1, 11), (11, .if_icmp .ne 10, 3, 14), (14, .aload_n 0, 1, 15), (15, .invokevirtual 103, 3, 18), (18, .goto 4, 3, 21), (21, .iconst (-1), 1, 22), (22, .ireturn, 1, 23)]
theorem ktX11_text : TbOK mX11_text tX11_text := by
  unfold TbOK
  decide +kernel
theorem kdX11_text (k : Nat) {pc : Nat} {i : Instr} {len nx : Nat} (hk : tX11_text[k]? = some (pc, i, len, nx)) : Dc mX11_text pc i len nx := dc_of ktX11_text k hk
theorem iX11_text : MiV mX11_text := ⟨⟨gdw_of (i := 705) (by decide +kernel) (by decide +kernel), gdw_of (i := 113) (by decide +kernel) (by decide +kernel), by decide, by decide, by decide⟩, gdw_of (i := 703) (by decide +kernel) (by decide +kernel), gdw_of (i := 704) (by decide +kernel) (by decide +kernel)⟩
abbrev mX11_rule : hMt := (yX11_rule, cX11_rule, 2, some .int)
def tX11_rule : hTb := [(0, .aload_n 0, 1, 1), (1, .getfield 106, 3, 4), (4, .ifCond .eq 24, 3, 7), (7, .iload_n 1, 1, 8), (8, .iconst 0, 1, 9), (9, .bipush 12, 2, 11), (11, .invokestatic 110, 3, 14), (14, .ifCond .eq 14, 3, 17), (17, .aload_n 0, 1, 18), (18, .getfield 19, 3, 21), (21, .iload_n 1, 1, 22), (22, .invokevirtual 114, 3, 25), (25, .goto 4, 3, 28), (28, .iconst (-1), 1, 29), (29, .ireturn, 1, 30)]
theorem ktX11_rule : TbOK mX11_rule tX11_rule := by
  unfold TbOK
  decide +kernel
theorem kdX11_rule (k : Nat) {pc : Nat} {i : Instr} {len nx : Nat} (hk : tX11_rule[k]? = some (pc, i, len, nx)) : Dc mX11_rule pc i len nx := dc_of ktX11_rule k hk
theorem iX11_rule : MiV mX11_rule := ⟨⟨gdw_of (i := 749) (by decide +kernel) (by decide +kernel), gdw_of (i := 113) (by decide +kernel) (by decide +kernel), by decide, by decide, by decide⟩, gdw_of (i := 747) (by decide +kernel) (by decide +kernel), gdw_of (i := 748) (by decide +kernel) (by decide +kernel)⟩
abbrev mX11_told : hMt := (yX11_told, cX11_told, 3, some .int)
def tX11_told : hTb := [(0, .aload_n 0, 1, 1), (1, .getfield 106, 3, 4), (4, .ifCond .ne 6, 3, 7), (7, .ldc 118, 2, 9), (9, .ireturn, 1, 10), (10, .iload_n 1, 1, 11), (11, .ifCond .ne 34, 3, 14), (14, .iload_n 2, 1, 15), (15, .iconst 0, 1, 16), (16, .aload_n 0, 1, 17), (17, .getfield 19, 3, 20), (20, .invokevirtual 119, 3, 23), (23, .iconst 1, 1, 24), (24, .isub, 1, 25), (25, .invokestatic 110, 3, 28), (28, .ifCond .eq 14, 3, 31), (31, .aload_n 0, 1, 32), (32, .getfield 19, 3, 35), (35, .iload_n 2, 1, 36), (36, .invokevirtual 122, 3, 39), (39, .goto 5, 3, 42), (42, .ldc 118, 2, 44), (44, .ireturn, 1, 45), (45, .iload_n 1, 1, 46), (46, .iconst 1, 1, 47), (47, .if_icmp .ne 34, 3, 50), (50, .iload_n 2, 1, 51), (51, .iconst 0, 1, 52), (52, .aload_n 0, 1, 53), (53, .getfield 19, 3, 56), (56, .invokevirtual 125, 3, 59), (59, .iconst 1, 1, 60), (60, .isub, 1, 61), (61, .invokestatic 110, 3, 64), (64, .ifCond .eq 14, 3, 67), (67, .aload_n 0, 1, 68), (68, .getfield 19, 3, 71), (71, .iload_n 2, 1, 72), (72, .invokevirtual 128, 3, 75), (75, .goto 5, 3, 78), (78, .ldc 118, 2, 80), (80, .ireturn, 1, 81), (81, .ldc 118, 2, 83), (83, .ireturn, 1, 84)]
theorem ktX11_told : TbOK mX11_told tX11_told := by
  unfold TbOK
  decide +kernel
theorem kdX11_told (k : Nat) {pc : Nat} {i : Instr} {len nx : Nat} (hk : tX11_told[k]? = some (pc, i, len, nx)) : Dc mX11_told pc i len nx := dc_of ktX11_told k hk
theorem iX11_told : MiV mX11_told := ⟨⟨gdw_of (i := 754) (by decide +kernel) (by decide +kernel), gdw_of (i := 113) (by decide +kernel) (by decide +kernel), by decide, by decide, by decide⟩, gdw_of (i := 752) (by decide +kernel) (by decide +kernel), gdw_of (i := 753) (by decide +kernel) (by decide +kernel)⟩
abbrev mX11_now : hMt := (yX11_now, cX11_now, 2, some .int)
def tX11_now : hTb := [(0, .aload_n 0, 1, 1), (1, .getfield 106, 3, 4), (4, .ifCond .eq 14, 3, 7), (7, .aload_n 0, 1, 8), (8, .getfield 32, 3, 11), (11, .iload_n 1, 1, 12), (12, .invokevirtual 143, 3, 15), (15, .goto 5, 3, 18), (18, .ldc 118, 2, 20), (20, .ireturn, 1, 21)]
theorem ktX11_now : TbOK mX11_now tX11_now := by
  unfold TbOK
  decide +kernel
theorem kdX11_now (k : Nat) {pc : Nat} {i : Instr} {len nx : Nat} (hk : tX11_now[k]? = some (pc, i, len, nx)) : Dc mX11_now pc i len nx := dc_of ktX11_now k hk
theorem iX11_now : MiV mX11_now := ⟨⟨gdw_of (i := 772) (by decide +kernel) (by decide +kernel), gdw_of (i := 113) (by decide +kernel) (by decide +kernel), by decide, by decide, by decide⟩, gdw_of (i := 770) (by decide +kernel) (by decide +kernel), gdw_of (i := 771) (by decide +kernel) (by decide +kernel)⟩
abbrev mX11_ago : hMt := (yX11_ago, cX11_ago, 3, some .int)
def tX11_ago : hTb := [(0, .aload_n 0, 1, 1), (1, .getfield 106, 3, 4), (4, .ifCond .eq 15, 3, 7), (7, .aload_n 0, 1, 8), (8, .getfield 32, 3, 11), (11, .iload_n 1, 1, 12), (12, .iload_n 2, 1, 13), (13, .invokevirtual 146, 3, 16), (16, .goto 5, 3, 19), (19, .ldc 118, 2, 21), (21, .ireturn, 1, 22)]
theorem ktX11_ago : TbOK mX11_ago tX11_ago := by
  unfold TbOK
  decide +kernel
theorem kdX11_ago (k : Nat) {pc : Nat} {i : Instr} {len nx : Nat} (hk : tX11_ago[k]? = some (pc, i, len, nx)) : Dc mX11_ago pc i len nx := dc_of ktX11_ago k hk
theorem iX11_ago : MiV mX11_ago := ⟨⟨gdw_of (i := 781) (by decide +kernel) (by decide +kernel), gdw_of (i := 113) (by decide +kernel) (by decide +kernel), by decide, by decide, by decide⟩, gdw_of (i := 779) (by decide +kernel) (by decide +kernel), gdw_of (i := 780) (by decide +kernel) (by decide +kernel)⟩
abbrev mX11_status : hMt := (yX11_status, cX11_status, 2, some .int)
def tX11_status : hTb := [(0, .iload_n 1, 1, 1), (1, .iconst 0, 1, 2), (2, .aload_n 0, 1, 3), (3, .getfield 76, 3, 6), (6, .arraylength, 1, 7), (7, .iconst 1, 1, 8), (8, .isub, 1, 9), (9, .invokestatic 110, 3, 12), (12, .ifCond .eq 12, 3, 15), (15, .aload_n 0, 1, 16), (16, .getfield 76, 3, 19), (19, .iload_n 1, 1, 20), (20, .iaload, 1, 21), (21, .goto 4, 3, 24), (24, .iconst (-1), 1, 25), (25, .ireturn, 1, 26)]
theorem ktX11_status : TbOK mX11_status tX11_status := by
  unfold TbOK
  decide +kernel
theorem kdX11_status (k : Nat) {pc : Nat} {i : Instr} {len nx : Nat} (hk : tX11_status[k]? = some (pc, i, len, nx)) : Dc mX11_status pc i len nx := dc_of ktX11_status k hk
theorem iX11_status : MiV mX11_status := ⟨⟨gdw_of (i := 790) (by decide +kernel) (by decide +kernel), gdw_of (i := 113) (by decide +kernel) (by decide +kernel), by decide, by decide, by decide⟩, gdw_of (i := 788) (by decide +kernel) (by decide +kernel), gdw_of (i := 789) (by decide +kernel) (by decide +kernel)⟩
abbrev mX11_logLength : hMt := (yX11_logLength, cX11_logLength, 1, some .int)
def tX11_logLength : hTb := [(0, .aload_n 0, 1, 1), (1, .getfield 32, 3, 4), (4, .getfield 153, 3, 7), (7, .bipush 60, 2, 9), (9, .invokestatic 361, 3, 12), (12, .ireturn, 1, 13)]
theorem ktX11_logLength : TbOK mX11_logLength tX11_logLength := by
  unfold TbOK
  decide +kernel
theorem kdX11_logLength (k : Nat) {pc : Nat} {i : Instr} {len nx : Nat} (hk : tX11_logLength[k]? = some (pc, i, len, nx)) : Dc mX11_logLength pc i len nx := dc_of ktX11_logLength k hk
theorem iX11_logLength : MiV mX11_logLength := ⟨⟨gdw_of (i := 798) (by decide +kernel) (by decide +kernel), gdw_of (i := 113) (by decide +kernel) (by decide +kernel), by decide, by decide, by decide⟩, gdw_of (i := 797) (by decide +kernel) (by decide +kernel), gdw_of (i := 15) (by decide +kernel) (by decide +kernel)⟩
abbrev mX11_log : hMt := (yX11_log, cX11_log, 3, some .int)
def tX11_log : hTb := [(0, .iload_n 1, 1, 1), (1, .ifCond .lt 11, 3, 4), (4, .iload_n 1, 1, 5), (5, .aload_n 0, 1, 6), (6, .invokevirtual 150, 3, 9), (9, .if_icmp .lt 6, 3, 12), (12, .ldc 118, 2, 14), (14, .ireturn, 1, 15), (15, .aload_n 0, 1, 16), (16, .getfield 45, 3, 19), (19, .aload_n 0, 1, 20), (20, .getfield 32, 3, 23), (23, .getfield 153, 3, 26), (26, .iconst 1, 1, 27), (27, .isub, 1, 28), (28, .iload_n 1, 1, 29), (29, .isub, 1, 30), (30, .iload_n 2, 1, 31), (31, .invokevirtual 156, 3, 34), (34, .ireturn, 1, 35)]
theorem ktX11_log : TbOK mX11_log tX11_log := by
  unfold TbOK
  decide +kernel
theorem kdX11_log (k : Nat) {pc : Nat} {i : Instr} {len nx : Nat} (hk : tX11_log[k]? = some (pc, i, len, nx)) : Dc mX11_log pc i len nx := dc_of ktX11_log k hk
theorem iX11_log : MiV mX11_log := ⟨⟨gdw_of (i := 794) (by decide +kernel) (by decide +kernel), gdw_of (i := 113) (by decide +kernel) (by decide +kernel), by decide, by decide, by decide⟩, gdw_of (i := 792) (by decide +kernel) (by decide +kernel), gdw_of (i := 793) (by decide +kernel) (by decide +kernel)⟩
abbrev mX11_tapCount : hMt := (yX11_tapCount, cX11_tapCount, 1, some .int)
def tX11_tapCount : hTb := [(0, .aload_n 0, 1, 1), (1, .getfield 106, 3, 4), (4, .ifCond .eq 13, 3, 7), (7, .aload_n 0, 1, 8), (8, .getfield 19, 3, 11), (11, .invokevirtual 351, 3, 14), (14, .goto 4, 3, 17), (17, .iconst 0, 1, 18), (18, .ireturn, 1, 19)]
theorem ktX11_tapCount : TbOK mX11_tapCount tX11_tapCount := by
  unfold TbOK
  decide +kernel
theorem kdX11_tapCount (k : Nat) {pc : Nat} {i : Instr} {len nx : Nat} (hk : tX11_tapCount[k]? = some (pc, i, len, nx)) : Dc mX11_tapCount pc i len nx := dc_of ktX11_tapCount k hk
theorem iX11_tapCount : MiV mX11_tapCount := ⟨⟨gdw_of (i := 819) (by decide +kernel) (by decide +kernel), gdw_of (i := 113) (by decide +kernel) (by decide +kernel), by decide, by decide, by decide⟩, gdw_of (i := 818) (by decide +kernel) (by decide +kernel), gdw_of (i := 17) (by decide +kernel) (by decide +kernel)⟩
abbrev mX11_count : hMt := (yX11_count, cX11_count, 2, some .int)
def tX11_count : hTb := [(0, .iload_n 1, 1, 1), (1, .tableswitch 84 0 6 #[43, 48, 53, 61, 69, 74, 79], 43, 44), (44, .aload_n 0, 1, 45), (45, .invokevirtual 159, 3, 48), (48, .ireturn, 1, 49), (49, .aload_n 0, 1, 50), (50, .getfield 162, 3, 53), (53, .ireturn, 1, 54), (54, .aload_n 0, 1, 55), (55, .getfield 10, 3, 58), (58, .getfield 165, 3, 61), (61, .ireturn, 1, 62), (62, .aload_n 0, 1, 63), (63, .getfield 32, 3, 66), (66, .getfield 153, 3, 69), (69, .ireturn, 1, 70), (70, .aload_n 0, 1, 71), (71, .getfield 80, 3, 74), (74, .ireturn, 1, 75), (75, .aload_n 0, 1, 76), (76, .invokevirtual 150, 3, 79), (79, .ireturn, 1, 80), (80, .aload_n 0, 1, 81), (81, .getfield 168, 3, 84), (84, .ireturn, 1, 85), (85, .ldc 118, 2, 87), (87, .ireturn, 1, 88)]
theorem ktX11_count : TbOK mX11_count tX11_count := by
  unfold TbOK
  decide +kernel
theorem kdX11_count (k : Nat) {pc : Nat} {i : Instr} {len nx : Nat} (hk : tX11_count[k]? = some (pc, i, len, nx)) : Dc mX11_count pc i len nx := dc_of ktX11_count k hk
theorem iX11_count : MiV mX11_count := ⟨⟨gdw_of (i := 815) (by decide +kernel) (by decide +kernel), gdw_of (i := 113) (by decide +kernel) (by decide +kernel), by decide, by decide, by decide⟩, gdw_of (i := 813) (by decide +kernel) (by decide +kernel), gdw_of (i := 814) (by decide +kernel) (by decide +kernel)⟩
abbrev mX11_risk : hMt := (yX11_risk, cX11_risk, 2, some .boolean)
def tX11_risk : hTb := [(0, .iload_n 1, 1, 1), (1, .iconst 0, 1, 2), (2, .bipush 9, 2, 4), (4, .invokestatic 110, 3, 7), (7, .ifCond .eq 11, 3, 10), (10, .iload_n 1, 1, 11), (11, .aload_n 0, 1, 12), (12, .getfield 80, 3, 15), (15, .if_icmp .ne 5, 3, 18), (18, .iconst 0, 1, 19), (19, .ireturn, 1, 20), (20, .aload_n 0, 1, 21), (21, .iload_n 1, 1, 22), (22, .putfield 80, 3, 25), (25, .iconst 1, 1, 26), (26, .ireturn, 1, 27)]
theorem ktX11_risk : TbOK mX11_risk tX11_risk := by
  unfold TbOK
  decide +kernel
theorem kdX11_risk (k : Nat) {pc : Nat} {i : Instr} {len nx : Nat} (hk : tX11_risk[k]? = some (pc, i, len, nx)) : Dc mX11_risk pc i len nx := dc_of ktX11_risk k hk
theorem iX11_risk : MiV mX11_risk := ⟨⟨gdw_of (i := 823) (by decide +kernel) (by decide +kernel), gdw_of (i := 113) (by decide +kernel) (by decide +kernel), by decide, by decide, by decide⟩, gdw_of (i := 821) (by decide +kernel) (by decide +kernel), gdw_of (i := 822) (by decide +kernel) (by decide +kernel)⟩
abbrev mX11_carryOut : hMt := (yX11_carryOut, cX11_carryOut, 5, some .int)
def tX11_carryOut : hTb := [(0, .iload_n 2, 1, 1), (1, .tableswitch 106 1 7 #[43, 49, 55, 96, 63, 69, 75], 43, 44), (44, .aload_n 1, 1, 45), (45, .iload_n 3, 1, 46), (46, .invokevirtual 408, 3, 49), (49, .ireturn, 1, 50), (50, .aload_n 1, 1, 51), (51, .iload_n 3, 1, 52), (52, .invokevirtual 411, 3, 55), (55, .ireturn, 1, 56), (56, .aload_n 1, 1, 57), (57, .iload_n 3, 1, 58), (58, .iload 4, 2, 60), (60, .invokevirtual 414, 3, 63), (63, .ireturn, 1, 64), (64, .aload_n 1, 1, 65), (65, .iload_n 3, 1, 66), (66, .invokevirtual 417, 3, 69), (69, .ireturn, 1, 70), (70, .aload_n 1, 1, 71), (71, .iload_n 3, 1, 72), (72, .invokevirtual 420, 3, 75), (75, .ireturn, 1, 76), (76, .aload_n 1, 1, 77), (77, .aload_n 0, 1, 78), (78, .getfield 58, 3, 81), (81, .aload_n 0, 1, 82), (82, .getfield 19, 3, 85), (85, .aload_n 1, 1, 86), (86, .invokevirtual 384, 3, 89), (89, .putfield 328, 3, 92), (92, .aload_n 1, 1, 93), (93, .getfield 328, 3, 96), (96, .ireturn, 1, 97), (97, .aload_n 1, 1, 98), (98, .iconst 1, 1, 99), (99, .putfield 375, 3, 102), (102, .aload_n 1, 1, 103), (103, .getfield 153, 3, 106), (106, .ireturn, 1, 107), (107, .iconst (-1), 1, 108), (108, .ireturn, 1, 109)]
theorem ktX11_carryOut : TbOK mX11_carryOut tX11_carryOut := by
  unfold TbOK
  decide +kernel
theorem kdX11_carryOut (k : Nat) {pc : Nat} {i : Instr} {len nx : Nat} (hk : tX11_carryOut[k]? = some (pc, i, len, nx)) : Dc mX11_carryOut pc i len nx := dc_of ktX11_carryOut k hk
theorem iX11_carryOut : MiV mX11_carryOut := ⟨⟨gdw_of (i := 1036) (by decide +kernel) (by decide +kernel), gdw_of (i := 113) (by decide +kernel) (by decide +kernel), by decide, by decide, by decide⟩, gdw_of (i := 1035) (by decide +kernel) (by decide +kernel), gdw_of (i := 39) (by decide +kernel) (by decide +kernel)⟩
abbrev mX11_pastPlace : hMt := (yX11_pastPlace, cX11_pastPlace, 2, some .int)
def tX11_pastPlace : hTb := [(0, .aload_n 0, 1, 1), (1, .getfield 423, 3, 4), (4, .iload_n 1, 1, 5), (5, .iadd, 1, 6), (6, .bipush 40, 2, 8), (8, .invokestatic 426, 3, 11), (11, .ireturn, 1, 12)]
theorem ktX11_pastPlace : TbOK mX11_pastPlace tX11_pastPlace := by
  unfold TbOK
  decide +kernel
theorem kdX11_pastPlace (k : Nat) {pc : Nat} {i : Instr} {len nx : Nat} (hk : tX11_pastPlace[k]? = some (pc, i, len, nx)) : Dc mX11_pastPlace pc i len nx := dc_of ktX11_pastPlace k hk
theorem iX11_pastPlace : MiV mX11_pastPlace := ⟨⟨gdw_of (i := 909) (by decide +kernel) (by decide +kernel), gdw_of (i := 113) (by decide +kernel) (by decide +kernel), by decide, by decide, by decide⟩, gdw_of (i := 908) (by decide +kernel) (by decide +kernel), gdw_of (i := 25) (by decide +kernel) (by decide +kernel)⟩
abbrev mX11_remember : hMt := (yX11_remember, cX11_remember, 1, none)
def tX11_remember : hTb := [(0, .aload_n 0, 1, 1), (1, .getfield 36, 3, 4), (4, .aload_n 0, 1, 5), (5, .aload_n 0, 1, 6), (6, .getfield 168, 3, 9), (9, .invokevirtual 189, 3, 12), (12, .aaload, 1, 13), (13, .aload_n 0, 1, 14), (14, .getfield 32, 3, 17), (17, .invokevirtual 192, 3, 20), (20, .aload_n 0, 1, 21), (21, .getfield 168, 3, 24), (24, .bipush 40, 2, 26), (26, .if_icmp .ge 16, 3, 29), (29, .aload_n 0, 1, 30), (30, .dup, 1, 31), (31, .getfield 168, 3, 34), (34, .iconst 1, 1, 35), (35, .iadd, 1, 36), (36, .putfield 168, 3, 39), (39, .goto 12, 3, 42), (42, .aload_n 0, 1, 43), (43, .aload_n 0, 1, 44), (44, .iconst 1, 1, 45), (45, .invokevirtual 189, 3, 48), (48, .putfield 423, 3, 51), (51, .return_, 1, 52)]
theorem ktX11_remember : TbOK mX11_remember tX11_remember := by
  unfold TbOK
  decide +kernel
theorem kdX11_remember (k : Nat) {pc : Nat} {i : Instr} {len nx : Nat} (hk : tX11_remember[k]? = some (pc, i, len, nx)) : Dc mX11_remember pc i len nx := dc_of ktX11_remember k hk
theorem iX11_remember : MiV mX11_remember := ⟨⟨gdw_of (i := 905) (by decide +kernel) (by decide +kernel), gdw_of (i := 113) (by decide +kernel) (by decide +kernel), by decide, by decide, by decide⟩, gdw_of (i := 904) (by decide +kernel) (by decide +kernel), gdw_of (i := 24) (by decide +kernel) (by decide +kernel)⟩
abbrev mX11_sendLogged : hMt := (yX11_sendLogged, cX11_sendLogged, 4, some .int)
def tX11_sendLogged : hTb := [(0, .iconst 0, 1, 1), (1, .istore_n 2, 1, 2), (2, .iconst 0, 1, 3), (3, .istore_n 3, 1, 4), (4, .iload_n 3, 1, 5), (5, .iload_n 1, 1, 6), (6, .if_icmp .ge 59, 3, 9), (9, .aload_n 0, 1, 10), (10, .getfield 32, 3, 13), (13, .aload_n 0, 1, 14), (14, .getfield 19, 3, 17), (17, .invokevirtual 397, 3, 20), (20, .aload_n 0, 1, 21), (21, .getfield 45, 3, 24), (24, .aload_n 0, 1, 25), (25, .getfield 32, 3, 28), (28, .getfield 153, 3, 31), (31, .iconst 1, 1, 32), (32, .isub, 1, 33), (33, .aload_n 0, 1, 34), (34, .getfield 32, 3, 37), (37, .getfield 213, 3, 40), (40, .invokevirtual 400, 3, 43), (43, .aload_n 0, 1, 44), (44, .getfield 32, 3, 47), (47, .getfield 213, 3, 50), (50, .invokevirtual 404, 3, 53), (53, .ifCond .eq 6, 3, 56), (56, .iinc 2 1, 3, 59), (59, .iinc 3 1, 3, 62), (62, .goto (-58), 3, 65), (65, .iload_n 2, 1, 66), (66, .ireturn, 1, 67)]
theorem ktX11_sendLogged : TbOK mX11_sendLogged tX11_sendLogged := by
  unfold TbOK
  decide +kernel
theorem kdX11_sendLogged (k : Nat) {pc : Nat} {i : Instr} {len nx : Nat} (hk : tX11_sendLogged[k]? = some (pc, i, len, nx)) : Dc mX11_sendLogged pc i len nx := dc_of ktX11_sendLogged k hk
theorem iX11_sendLogged : MiV mX11_sendLogged := ⟨⟨gdw_of (i := 924) (by decide +kernel) (by decide +kernel), gdw_of (i := 113) (by decide +kernel) (by decide +kernel), by decide, by decide, by decide⟩, gdw_of (i := 923) (by decide +kernel) (by decide +kernel), gdw_of (i := 26) (by decide +kernel) (by decide +kernel)⟩
abbrev mX11_act : hMt := (yX11_act, cX11_act, 4, some .int)
def tX11_act : hTb := [(0, .aload_n 0, 1, 1), (1, .invokevirtual 178, 3, 4), (4, .iload_n 1, 1, 5), (5, .ifCond .ne 9, 3, 8), (8, .aload_n 0, 1, 9), (9, .iload_n 2, 1, 10), (10, .invokevirtual 394, 3, 13), (13, .ireturn, 1, 14), (14, .aload_n 0, 1, 15), (15, .aload_n 0, 1, 16), (16, .getfield 32, 3, 19), (19, .iload_n 1, 1, 20), (20, .iload_n 2, 1, 21), (21, .iload_n 3, 1, 22), (22, .invokevirtual 391, 3, 25), (25, .ireturn, 1, 26)]
theorem ktX11_act : TbOK mX11_act tX11_act := by
  unfold TbOK
  decide +kernel
theorem kdX11_act (k : Nat) {pc : Nat} {i : Instr} {len nx : Nat} (hk : tX11_act[k]? = some (pc, i, len, nx)) : Dc mX11_act pc i len nx := dc_of ktX11_act k hk
theorem iX11_act : MiV mX11_act := ⟨⟨gdw_of (i := 901) (by decide +kernel) (by decide +kernel), gdw_of (i := 113) (by decide +kernel) (by decide +kernel), by decide, by decide, by decide⟩, gdw_of (i := 900) (by decide +kernel) (by decide +kernel), gdw_of (i := 23) (by decide +kernel) (by decide +kernel)⟩
abbrev mX11_isTap : hMt := (yX11_isTap, cX11_isTap, 2, some .boolean)
def tX11_isTap : hTb := [(0, .iload_n 1, 1, 1), (1, .iconst 0, 1, 2), (2, .aload_n 0, 1, 3), (3, .invokevirtual 159, 3, 6), (6, .bipush 6, 2, 8), (8, .invokestatic 361, 3, 11), (11, .iconst 1, 1, 12), (12, .isub, 1, 13), (13, .invokestatic 110, 3, 16), (16, .ireturn, 1, 17)]
theorem ktX11_isTap : TbOK mX11_isTap tX11_isTap := by
  unfold TbOK
  decide +kernel
theorem kdX11_isTap (k : Nat) {pc : Nat} {i : Instr} {len nx : Nat} (hk : tX11_isTap[k]? = some (pc, i, len, nx)) : Dc mX11_isTap pc i len nx := dc_of ktX11_isTap k hk
theorem iX11_isTap : MiV mX11_isTap := ⟨⟨gdw_of (i := 842) (by decide +kernel) (by decide +kernel), gdw_of (i := 113) (by decide +kernel) (by decide +kernel), by decide, by decide, by decide⟩, gdw_of (i := 841) (by decide +kernel) (by decide +kernel), gdw_of (i := 20) (by decide +kernel) (by decide +kernel)⟩
abbrev mX11_refusalToSet : hMt := (yX11_refusalToSet, cX11_refusalToSet, 4, some .int)
def tX11_refusalToSet : hTb := [(0, .iload_n 0, 1, 1), (1, .iload_n 1, 1, 2), (2, .iload_n 2, 1, 3), (3, .invokestatic 110, 3, 6), (6, .ifCond .ne 5, 3, 9), (9, .iconst 1, 1, 10), (10, .ireturn, 1, 11), (11, .iload_n 0, 1, 12), (12, .iload_n 3, 1, 13), (13, .if_icmp .ne 7, 3, 16), (16, .iconst 2, 1, 17), (17, .goto 4, 3, 20), (20, .iconst (-1), 1, 21), (21, .ireturn, 1, 22)]
theorem ktX11_refusalToSet : TbOK mX11_refusalToSet tX11_refusalToSet := by
  unfold TbOK
  decide +kernel
theorem kdX11_refusalToSet (k : Nat) {pc : Nat} {i : Instr} {len nx : Nat} (hk : tX11_refusalToSet[k]? = some (pc, i, len, nx)) : Dc mX11_refusalToSet pc i len nx := dc_of ktX11_refusalToSet k hk
theorem iX11_refusalToSet : MiS mX11_refusalToSet := ⟨⟨gdw_of (i := 838) (by decide +kernel) (by decide +kernel), gdw_of (i := 113) (by decide +kernel) (by decide +kernel), by decide, by decide, by decide⟩, gdw_of (i := 837) (by decide +kernel) (by decide +kernel)⟩
abbrev mX11_refusal : hMt := (yX11_refusal, cX11_refusal, 5, some .int)
def tX11_refusal : hTb := [(0, .aload_n 0, 1, 1), (1, .getfield 106, 3, 4), (4, .ifCond .ne 5, 3, 7), (7, .iconst 0, 1, 8), (8, .ireturn, 1, 9), (9, .iload_n 2, 1, 10), (10, .tableswitch 197 0 7 #[46, 76, 87, 106, 136, 149, 160, 172], 46, 56), (56, .iload_n 3, 1, 57), (57, .iconst 1, 1, 58), (58, .bipush 60, 2, 60), (60, .invokestatic 110, 3, 63), (63, .ifCond .ne 5, 3, 66), (66, .iconst 1, 1, 67), (67, .ireturn, 1, 68), (68, .aload_n 1, 1, 69), (69, .getfield 153, 3, 72), (72, .iload_n 3, 1, 73), (73, .iadd, 1, 74), (74, .sipush 9999, 3, 77), (77, .if_icmp .le 7, 3, 80), (80, .iconst 3, 1, 81), (81, .goto 4, 3, 84), (84, .iconst (-1), 1, 85), (85, .ireturn, 1, 86), (86, .iload_n 3, 1, 87), (87, .iconst 0, 1, 88), (88, .iconst 3, 1, 89), (89, .aload_n 1, 1, 90), (90, .getfield 328, 3, 93), (93, .invokestatic 368, 3, 96), (96, .ireturn, 1, 97), (97, .iload_n 3, 1, 98), (98, .iconst 0, 1, 99), (99, .iconst 1, 1, 100), (100, .aload_n 1, 1, 101), (101, .getfield 372, 3, 104), (104, .ifCond .eq 7, 3, 107), (107, .iconst 1, 1, 108), (108, .goto 4, 3, 111), (111, .iconst 0, 1, 112), (112, .invokestatic 368, 3, 115), (115, .ireturn, 1, 116), (116, .aload_n 0, 1, 117), (117, .iload_n 3, 1, 118), (118, .invokevirtual 131, 3, 121), (121, .ifCond .eq 23, 3, 124), (124, .iload 4, 2, 126), (126, .sipush (-255), 3, 129), (129, .sipush 255, 3, 132), (132, .aload_n 1, 1, 133), (133, .getfield 137, 3, 136), (136, .iload_n 3, 1, 137), (137, .iaload, 1, 138), (138, .invokestatic 368, 3, 141), (141, .goto 4, 3, 144), (144, .iconst 0, 1, 145), (145, .ireturn, 1, 146), (146, .aload_n 1, 1, 147), (147, .getfield 375, 3, 150), (150, .ifCond .eq 7, 3, 153), (153, .iconst 2, 1, 154), (154, .goto 4, 3, 157), (157, .iconst (-1), 1, 158), (158, .ireturn, 1, 159), (159, .iload_n 3, 1, 160), (160, .iconst 0, 1, 161), (161, .iconst 4, 1, 162), (162, .aload_n 1, 1, 163), (163, .getfield 378, 3, 166), (166, .invokestatic 368, 3, 169), (169, .ireturn, 1, 170), (170, .iload_n 3, 1, 171), (171, .iconst 0, 1, 172), (172, .bipush 99, 2, 174), (174, .aload_n 1, 1, 175), (175, .getfield 381, 3, 178), (178, .invokestatic 368, 3, 181), (181, .ireturn, 1, 182), (182, .aload_n 0, 1, 183), (183, .getfield 58, 3, 186), (186, .aload_n 0, 1, 187), (187, .getfield 19, 3, 190), (190, .aload_n 1, 1, 191), (191, .invokevirtual 384, 3, 194), (194, .aload_n 1, 1, 195), (195, .getfield 328, 3, 198), (198, .if_icmp .ne 7, 3, 201), (201, .iconst 2, 1, 202), (202, .goto 4, 3, 205), (205, .iconst (-1), 1, 206), (206, .ireturn, 1, 207), (207, .iconst 0, 1, 208), (208, .ireturn, 1, 209)]
theorem ktX11_refusal : TbOK mX11_refusal tX11_refusal := by
  unfold TbOK
  decide +kernel
theorem kdX11_refusal (k : Nat) {pc : Nat} {i : Instr} {len nx : Nat} (hk : tX11_refusal[k]? = some (pc, i, len, nx)) : Dc mX11_refusal pc i len nx := dc_of ktX11_refusal k hk
theorem iX11_refusal : MiV mX11_refusal := ⟨⟨gdw_of (i := 835) (by decide +kernel) (by decide +kernel), gdw_of (i := 113) (by decide +kernel) (by decide +kernel), by decide, by decide, by decide⟩, gdw_of (i := 834) (by decide +kernel) (by decide +kernel), gdw_of (i := 19) (by decide +kernel) (by decide +kernel)⟩
abbrev mX11_isRefused : hMt := (yX11_isRefused, cX11_isRefused, 5, some .boolean)
def tX11_isRefused : hTb := [(0, .aload_n 0, 1, 1), (1, .aload_n 0, 1, 2), (2, .getfield 32, 3, 5), (5, .iload_n 1, 1, 6), (6, .iload_n 2, 1, 7), (7, .iload_n 3, 1, 8), (8, .invokevirtual 364, 3, 11), (11, .istore 4, 2, 13), (13, .iload 4, 2, 15), (15, .iconst 0, 1, 16), (16, .aload_n 0, 1, 17), (17, .getfield 76, 3, 20), (20, .arraylength, 1, 21), (21, .iconst 1, 1, 22), (22, .isub, 1, 23), (23, .invokestatic 110, 3, 26), (26, .ifCond .eq 14, 3, 29), (29, .aload_n 0, 1, 30), (30, .getfield 76, 3, 33), (33, .iload 4, 2, 35), (35, .dup2, 1, 36), (36, .iaload, 1, 37), (37, .iconst 1, 1, 38), (38, .iadd, 1, 39), (39, .iastore, 1, 40), (40, .iload 4, 2, 42), (42, .iconst (-1), 1, 43), (43, .if_icmp .eq 7, 3, 46), (46, .iconst 1, 1, 47), (47, .goto 4, 3, 50), (50, .iconst 0, 1, 51), (51, .ireturn, 1, 52)]
theorem ktX11_isRefused : TbOK mX11_isRefused tX11_isRefused := by
  unfold TbOK
  decide +kernel
theorem kdX11_isRefused (k : Nat) {pc : Nat} {i : Instr} {len nx : Nat} (hk : tX11_isRefused[k]? = some (pc, i, len, nx)) : Dc mX11_isRefused pc i len nx := dc_of ktX11_isRefused k hk
theorem iX11_isRefused : MiV mX11_isRefused := ⟨⟨gdw_of (i := 831) (by decide +kernel) (by decide +kernel), gdw_of (i := 113) (by decide +kernel) (by decide +kernel), by decide, by decide, by decide⟩, gdw_of (i := 830) (by decide +kernel) (by decide +kernel), gdw_of (i := 18) (by decide +kernel) (by decide +kernel)⟩
abbrev mX11_send : hMt := (yX11_send, cX11_send, 2, some .int)
def tX11_send : hTb := [(0, .aload_n 0, 1, 1), (1, .iconst 0, 1, 2), (2, .iload_n 1, 1, 3), (3, .iconst 0, 1, 4), (4, .invokevirtual 171, 3, 7), (7, .ifCond .eq 7, 3, 10), (10, .iconst (-1), 1, 11), (11, .goto 10, 3, 14), (14, .aload_n 0, 1, 15), (15, .iconst 0, 1, 16), (16, .iload_n 1, 1, 17), (17, .iconst 0, 1, 18), (18, .invokevirtual 174, 3, 21), (21, .ireturn, 1, 22)]
theorem ktX11_send : TbOK mX11_send tX11_send := by
  unfold TbOK
  decide +kernel
theorem kdX11_send (k : Nat) {pc : Nat} {i : Instr} {len nx : Nat} (hk : tX11_send[k]? = some (pc, i, len, nx)) : Dc mX11_send pc i len nx := dc_of ktX11_send k hk
theorem iX11_send : MiV mX11_send := ⟨⟨gdw_of (i := 827) (by decide +kernel) (by decide +kernel), gdw_of (i := 113) (by decide +kernel) (by decide +kernel), by decide, by decide, by decide⟩, gdw_of (i := 825) (by decide +kernel) (by decide +kernel), gdw_of (i := 826) (by decide +kernel) (by decide +kernel)⟩
abbrev mX11_phase : hMt := (yX11_phase, cX11_phase, 2, some .int)
def tX11_phase : hTb := [(0, .aload_n 0, 1, 1), (1, .iconst 1, 1, 2), (2, .iload_n 1, 1, 3), (3, .iconst 0, 1, 4), (4, .invokevirtual 171, 3, 7), (7, .ifCond .eq 7, 3, 10), (10, .iconst (-1), 1, 11), (11, .goto 10, 3, 14), (14, .aload_n 0, 1, 15), (15, .iconst 1, 1, 16), (16, .iload_n 1, 1, 17), (17, .iconst 0, 1, 18), (18, .invokevirtual 174, 3, 21), (21, .ireturn, 1, 22)]
theorem ktX11_phase : TbOK mX11_phase tX11_phase := by
  unfold TbOK
  decide +kernel
theorem kdX11_phase (k : Nat) {pc : Nat} {i : Instr} {len nx : Nat} (hk : tX11_phase[k]? = some (pc, i, len, nx)) : Dc mX11_phase pc i len nx := dc_of ktX11_phase k hk
theorem iX11_phase : MiV mX11_phase := ⟨⟨gdw_of (i := 1060) (by decide +kernel) (by decide +kernel), gdw_of (i := 113) (by decide +kernel) (by decide +kernel), by decide, by decide, by decide⟩, gdw_of (i := 1058) (by decide +kernel) (by decide +kernel), gdw_of (i := 1059) (by decide +kernel) (by decide +kernel)⟩
abbrev mX11_hold : hMt := (yX11_hold, cX11_hold, 2, some .int)
def tX11_hold : hTb := [(0, .aload_n 0, 1, 1), (1, .iconst 2, 1, 2), (2, .iload_n 1, 1, 3), (3, .iconst 0, 1, 4), (4, .invokevirtual 171, 3, 7), (7, .ifCond .eq 7, 3, 10), (10, .iconst (-1), 1, 11), (11, .goto 10, 3, 14), (14, .aload_n 0, 1, 15), (15, .iconst 2, 1, 16), (16, .iload_n 1, 1, 17), (17, .iconst 0, 1, 18), (18, .invokevirtual 174, 3, 21), (21, .ireturn, 1, 22)]
theorem ktX11_hold : TbOK mX11_hold tX11_hold := by
  unfold TbOK
  decide +kernel
theorem kdX11_hold (k : Nat) {pc : Nat} {i : Instr} {len nx : Nat} (hk : tX11_hold[k]? = some (pc, i, len, nx)) : Dc mX11_hold pc i len nx := dc_of ktX11_hold k hk
theorem iX11_hold : MiV mX11_hold := ⟨⟨gdw_of (i := 1064) (by decide +kernel) (by decide +kernel), gdw_of (i := 113) (by decide +kernel) (by decide +kernel), by decide, by decide, by decide⟩, gdw_of (i := 1062) (by decide +kernel) (by decide +kernel), gdw_of (i := 1063) (by decide +kernel) (by decide +kernel)⟩
abbrev mX11_set : hMt := (yX11_set, cX11_set, 3, some .int)
def tX11_set : hTb := [(0, .aload_n 0, 1, 1), (1, .iconst 3, 1, 2), (2, .iload_n 1, 1, 3), (3, .iload_n 2, 1, 4), (4, .invokevirtual 171, 3, 7), (7, .ifCond .eq 8, 3, 10), (10, .ldc 118, 2, 12), (12, .goto 10, 3, 15), (15, .aload_n 0, 1, 16), (16, .iconst 3, 1, 17), (17, .iload_n 1, 1, 18), (18, .iload_n 2, 1, 19), (19, .invokevirtual 174, 3, 22), (22, .ireturn, 1, 23)]
theorem ktX11_set : TbOK mX11_set tX11_set := by
  unfold TbOK
  decide +kernel
theorem kdX11_set (k : Nat) {pc : Nat} {i : Instr} {len nx : Nat} (hk : tX11_set[k]? = some (pc, i, len, nx)) : Dc mX11_set pc i len nx := dc_of ktX11_set k hk
theorem iX11_set : MiV mX11_set := ⟨⟨gdw_of (i := 1068) (by decide +kernel) (by decide +kernel), gdw_of (i := 113) (by decide +kernel) (by decide +kernel), by decide, by decide, by decide⟩, gdw_of (i := 1066) (by decide +kernel) (by decide +kernel), gdw_of (i := 1067) (by decide +kernel) (by decide +kernel)⟩
abbrev mX11_drop : hMt := (yX11_drop, cX11_drop, 1, some .int)
def tX11_drop : hTb := [(0, .aload_n 0, 1, 1), (1, .iconst 4, 1, 2), (2, .iconst 0, 1, 3), (3, .iconst 0, 1, 4), (4, .invokevirtual 171, 3, 7), (7, .ifCond .eq 7, 3, 10), (10, .iconst (-1), 1, 11), (11, .goto 10, 3, 14), (14, .aload_n 0, 1, 15), (15, .iconst 4, 1, 16), (16, .iconst 0, 1, 17), (17, .iconst 0, 1, 18), (18, .invokevirtual 174, 3, 21), (21, .ireturn, 1, 22)]
theorem ktX11_drop : TbOK mX11_drop tX11_drop := by
  unfold TbOK
  decide +kernel
theorem kdX11_drop (k : Nat) {pc : Nat} {i : Instr} {len nx : Nat} (hk : tX11_drop[k]? = some (pc, i, len, nx)) : Dc mX11_drop pc i len nx := dc_of ktX11_drop k hk
theorem iX11_drop : MiV mX11_drop := ⟨⟨gdw_of (i := 1072) (by decide +kernel) (by decide +kernel), gdw_of (i := 113) (by decide +kernel) (by decide +kernel), by decide, by decide, by decide⟩, gdw_of (i := 1070) (by decide +kernel) (by decide +kernel), gdw_of (i := 1071) (by decide +kernel) (by decide +kernel)⟩
abbrev mX11_change : hMt := (yX11_change, cX11_change, 4, some .int)
def tX11_change : hTb := [(0, .aload_n 0, 1, 1), (1, .getfield 106, 3, 4), (4, .ifCond .eq 24, 3, 7), (7, .iload_n 1, 1, 8), (8, .iconst 0, 1, 9), (9, .iconst 1, 1, 10), (10, .invokestatic 110, 3, 13), (13, .ifCond .ne 15, 3, 16), (16, .aload_n 0, 1, 17), (17, .getfield 76, 3, 20), (20, .iconst 1, 1, 21), (21, .dup2, 1, 22), (22, .iaload, 1, 23), (23, .iconst 1, 1, 24), (24, .iadd, 1, 25), (25, .iastore, 1, 26), (26, .iconst (-1), 1, 27), (27, .ireturn, 1, 28), (28, .iload_n 1, 1, 29), (29, .ifCond .ne 7, 3, 32), (32, .iconst 5, 1, 33), (33, .goto 5, 3, 36), (36, .bipush 6, 2, 38), (38, .istore_n 3, 1, 39), (39, .aload_n 0, 1, 40), (40, .iload_n 3, 1, 41), (41, .iload_n 2, 1, 42), (42, .iconst 0, 1, 43), (43, .invokevirtual 171, 3, 46), (46, .ifCond .eq 7, 3, 49), (49, .iconst (-1), 1, 50), (50, .goto 10, 3, 53), (53, .aload_n 0, 1, 54), (54, .iload_n 3, 1, 55), (55, .iload_n 2, 1, 56), (56, .iconst 0, 1, 57), (57, .invokevirtual 174, 3, 60), (60, .ireturn, 1, 61)]
theorem ktX11_change : TbOK mX11_change tX11_change := by
  unfold TbOK
  decide +kernel
theorem kdX11_change (k : Nat) {pc : Nat} {i : Instr} {len nx : Nat} (hk : tX11_change[k]? = some (pc, i, len, nx)) : Dc mX11_change pc i len nx := dc_of ktX11_change k hk
theorem iX11_change : MiV mX11_change := ⟨⟨gdw_of (i := 1076) (by decide +kernel) (by decide +kernel), gdw_of (i := 113) (by decide +kernel) (by decide +kernel), by decide, by decide, by decide⟩, gdw_of (i := 1074) (by decide +kernel) (by decide +kernel), gdw_of (i := 1075) (by decide +kernel) (by decide +kernel)⟩
abbrev mX11_dice : hMt := (yX11_dice, cX11_dice, 3, some .int)
def tX11_dice : hTb := [(0, .aload_n 0, 1, 1), (1, .getfield 106, 3, 4), (4, .ifCond .ne 15, 3, 7), (7, .aload_n 0, 1, 8), (8, .getfield 76, 3, 11), (11, .iconst 0, 1, 12), (12, .dup2, 1, 13), (13, .iaload, 1, 14), (14, .iconst 1, 1, 15), (15, .iadd, 1, 16), (16, .iastore, 1, 17), (17, .iconst (-1), 1, 18), (18, .ireturn, 1, 19), (19, .aload_n 0, 1, 20), (20, .invokevirtual 178, 3, 23), (23, .aload_n 0, 1, 24), (24, .getfield 32, 3, 27), (27, .lload_n 1, 1, 28), (28, .putfield 181, 3, 31), (31, .aload_n 0, 1, 32), (32, .getfield 32, 3, 35), (35, .getfield 153, 3, 38), (38, .ireturn, 1, 39)]
theorem ktX11_dice : TbOK mX11_dice tX11_dice := by
  unfold TbOK
  decide +kernel
theorem kdX11_dice (k : Nat) {pc : Nat} {i : Instr} {len nx : Nat} (hk : tX11_dice[k]? = some (pc, i, len, nx)) : Dc mX11_dice pc i len nx := dc_of ktX11_dice k hk
theorem iX11_dice : MiV mX11_dice := ⟨⟨gdw_of (i := 1080) (by decide +kernel) (by decide +kernel), gdw_of (i := 113) (by decide +kernel) (by decide +kernel), by decide, by decide, by decide⟩, gdw_of (i := 1078) (by decide +kernel) (by decide +kernel), gdw_of (i := 1079) (by decide +kernel) (by decide +kernel)⟩
abbrev mX11_seek : hMt := (yX11_seek, cX11_seek, 1, some .int)
def tX11_seek : hTb := [(0, .aload_n 0, 1, 1), (1, .bipush 7, 2, 3), (3, .iconst 0, 1, 4), (4, .iconst 0, 1, 5), (5, .invokevirtual 171, 3, 8), (8, .ifCond .eq 7, 3, 11), (11, .iconst (-1), 1, 12), (12, .goto 11, 3, 15), (15, .aload_n 0, 1, 16), (16, .bipush 7, 2, 18), (18, .iconst 0, 1, 19), (19, .iconst 0, 1, 20), (20, .invokevirtual 174, 3, 23), (23, .ireturn, 1, 24)]
theorem ktX11_seek : TbOK mX11_seek tX11_seek := by
  unfold TbOK
  decide +kernel
theorem kdX11_seek (k : Nat) {pc : Nat} {i : Instr} {len nx : Nat} (hk : tX11_seek[k]? = some (pc, i, len, nx)) : Dc mX11_seek pc i len nx := dc_of ktX11_seek k hk
theorem iX11_seek : MiV mX11_seek := ⟨⟨gdw_of (i := 1084) (by decide +kernel) (by decide +kernel), gdw_of (i := 113) (by decide +kernel) (by decide +kernel), by decide, by decide, by decide⟩, gdw_of (i := 1082) (by decide +kernel) (by decide +kernel), gdw_of (i := 1083) (by decide +kernel) (by decide +kernel)⟩
abbrev mX11_mishap : hMt := (yX11_mishap, cX11_mishap, 6, some .long)
def tX11_mishap : hTb := [(0, .lload_n 1, 1, 1), (1, .lstore 4, 2, 3), (3, .iload_n 3, 1, 4), (4, .ifCond .ne 14, 3, 7), (7, .aload_n 0, 1, 8), (8, .getfield 32, 3, 11), (11, .iconst 1, 1, 12), (12, .putfield 375, 3, 15), (15, .goto 81, 3, 18), (18, .iload_n 3, 1, 19), (19, .iconst 1, 1, 20), (20, .if_icmp .ne 26, 3, 23), (23, .lload 4, 2, 25), (25, .invokestatic 429, 3, 28), (28, .lstore 4, 2, 30), (30, .aload_n 0, 1, 31), (31, .getfield 32, 3, 34), (34, .lload 4, 2, 36), (36, .iconst 4, 1, 37), (37, .invokestatic 432, 3, 40), (40, .putfield 328, 3, 43), (43, .goto 53, 3, 46), (46, .iload_n 3, 1, 47), (47, .iconst 2, 1, 48), (48, .if_icmp .ne 26, 3, 51), (51, .lload 4, 2, 53), (53, .invokestatic 429, 3, 56), (56, .lstore 4, 2, 58), (58, .aload_n 0, 1, 59), (59, .getfield 32, 3, 62), (62, .lload 4, 2, 64), (64, .iconst 5, 1, 65), (65, .invokestatic 432, 3, 68), (68, .putfield 378, 3, 71), (71, .goto 25, 3, 74), (74, .aload_n 0, 1, 75), (75, .getfield 32, 3, 78), (78, .aload_n 0, 1, 79), (79, .getfield 32, 3, 82), (82, .getfield 372, 3, 85), (85, .ifCond .ne 7, 3, 88), (88, .iconst 1, 1, 89), (89, .goto 4, 3, 92), (92, .iconst 0, 1, 93), (93, .putfield 372, 3, 96), (96, .lload 4, 2, 98), (98, .lreturn, 1, 99)]
theorem ktX11_mishap : TbOK mX11_mishap tX11_mishap := by
  unfold TbOK
  decide +kernel
theorem kdX11_mishap (k : Nat) {pc : Nat} {i : Instr} {len nx : Nat} (hk : tX11_mishap[k]? = some (pc, i, len, nx)) : Dc mX11_mishap pc i len nx := dc_of ktX11_mishap k hk
theorem iX11_mishap : MiV mX11_mishap := ⟨⟨gdw_of (i := 1098) (by decide +kernel) (by decide +kernel), gdw_of (i := 113) (by decide +kernel) (by decide +kernel), by decide, by decide, by decide⟩, gdw_of (i := 1097) (by decide +kernel) (by decide +kernel), gdw_of (i := 41) (by decide +kernel) (by decide +kernel)⟩
abbrev mX11_liveYear : hMt := (yX11_liveYear, cX11_liveYear, 5, some .long)
def tX11_liveYear : hTb := [(0, .aload_n 0, 1, 1), (1, .invokevirtual 178, 3, 4), (4, .lload_n 1, 1, 5), (5, .invokestatic 429, 3, 8), (8, .lstore_n 3, 1, 9), (9, .lload_n 3, 1, 10), (10, .bipush 10, 2, 12), (12, .invokestatic 432, 3, 15), (15, .aload_n 0, 1, 16), (16, .getfield 80, 3, 19), (19, .if_icmp .ge 19, 3, 22), (22, .lload_n 3, 1, 23), (23, .invokestatic 429, 3, 26), (26, .lstore_n 3, 1, 27), (27, .aload_n 0, 1, 28), (28, .lload_n 3, 1, 29), (29, .lload_n 3, 1, 30), (30, .iconst 4, 1, 31), (31, .invokestatic 432, 3, 34), (34, .invokevirtual 436, 3, 37), (37, .lstore_n 3, 1, 38), (38, .lload_n 3, 1, 39), (39, .invokestatic 429, 3, 42), (42, .lstore_n 3, 1, 43), (43, .aload_n 0, 1, 44), (44, .lload_n 3, 1, 45), (45, .bipush 8, 2, 47), (47, .invokestatic 432, 3, 50), (50, .iconst 1, 1, 51), (51, .iadd, 1, 52), (52, .sipush 9999, 3, 55), (55, .aload_n 0, 1, 56), (56, .getfield 32, 3, 59), (59, .getfield 153, 3, 62), (62, .isub, 1, 63), (63, .invokestatic 361, 3, 66), (66, .invokevirtual 394, 3, 69), (69, .pop, 1, 70), (70, .lload_n 3, 1, 71), (71, .lreturn, 1, 72)]
theorem ktX11_liveYear : TbOK mX11_liveYear tX11_liveYear := by
  unfold TbOK
  decide +kernel
theorem kdX11_liveYear (k : Nat) {pc : Nat} {i : Instr} {len nx : Nat} (hk : tX11_liveYear[k]? = some (pc, i, len, nx)) : Dc mX11_liveYear pc i len nx := dc_of ktX11_liveYear k hk
theorem iX11_liveYear : MiV mX11_liveYear := ⟨⟨gdw_of (i := 1092) (by decide +kernel) (by decide +kernel), gdw_of (i := 113) (by decide +kernel) (by decide +kernel), by decide, by decide, by decide⟩, gdw_of (i := 1091) (by decide +kernel) (by decide +kernel), gdw_of (i := 40) (by decide +kernel) (by decide +kernel)⟩
abbrev mX11_years : hMt := (yX11_years, cX11_years, 7, some .int)
def tX11_years : hTb := [(0, .aload_n 0, 1, 1), (1, .getfield 106, 3, 4), (4, .ifCond .eq 13, 3, 7), (7, .iload_n 1, 1, 8), (8, .iconst 1, 1, 9), (9, .bipush 40, 2, 11), (11, .invokestatic 110, 3, 14), (14, .ifCond .ne 5, 3, 17), (17, .iconst (-1), 1, 18), (18, .ireturn, 1, 19), (19, .lload_n 2, 1, 20), (20, .lstore 4, 2, 22), (22, .iconst 0, 1, 23), (23, .istore 6, 2, 25), (25, .iload 6, 2, 27), (27, .iload_n 1, 1, 28), (28, .if_icmp .ge 17, 3, 31), (31, .aload_n 0, 1, 32), (32, .lload 4, 2, 34), (34, .invokevirtual 185, 3, 37), (37, .lstore 4, 2, 39), (39, .iinc 6 1, 3, 42), (42, .goto (-17), 3, 45), (45, .aload_n 0, 1, 46), (46, .getfield 32, 3, 49), (49, .getfield 153, 3, 52), (52, .ireturn, 1, 53)]
theorem ktX11_years : TbOK mX11_years tX11_years := by
  unfold TbOK
  decide +kernel
theorem kdX11_years (k : Nat) {pc : Nat} {i : Instr} {len nx : Nat} (hk : tX11_years[k]? = some (pc, i, len, nx)) : Dc mX11_years pc i len nx := dc_of ktX11_years k hk
theorem iX11_years : MiV mX11_years := ⟨⟨gdw_of (i := 1088) (by decide +kernel) (by decide +kernel), gdw_of (i := 113) (by decide +kernel) (by decide +kernel), by decide, by decide, by decide⟩, gdw_of (i := 1086) (by decide +kernel) (by decide +kernel), gdw_of (i := 1087) (by decide +kernel) (by decide +kernel)⟩
theorem lX11_100 : Lk RX11 100 mX11_takeLine := Or.inl (gdw_of (i := 706) (by decide +kernel) (by decide +kernel))
theorem lX11_103 : Lk RX11 103 mX11_takeScript := Or.inl (gdw_of (i := 736) (by decide +kernel) (by decide +kernel))
theorem lX11_131 : Lk RX11 131 mX11_isTap := Or.inl (gdw_of (i := 839) (by decide +kernel) (by decide +kernel))
theorem lX11_150 : Lk RX11 150 mX11_logLength := Or.inl (gdw_of (i := 795) (by decide +kernel) (by decide +kernel))
theorem lX11_159 : Lk RX11 159 mX11_tapCount := Or.inl (gdw_of (i := 816) (by decide +kernel) (by decide +kernel))
theorem lX11_171 : Lk RX11 171 mX11_isRefused := Or.inl (gdw_of (i := 828) (by decide +kernel) (by decide +kernel))
theorem lX11_174 : Lk RX11 174 mX11_act := Or.inl (gdw_of (i := 898) (by decide +kernel) (by decide +kernel))
theorem lX11_178 : Lk RX11 178 mX11_remember := Or.inl (gdw_of (i := 902) (by decide +kernel) (by decide +kernel))
theorem lX11_185 : Lk RX11 185 mX11_liveYear := Or.inl (gdw_of (i := 1089) (by decide +kernel) (by decide +kernel))
theorem lX11_189 : Lk RX11 189 mX11_pastPlace := Or.inl (gdw_of (i := 906) (by decide +kernel) (by decide +kernel))
theorem lX11_364 : Lk RX11 364 mX11_refusal := Or.inl (gdw_of (i := 832) (by decide +kernel) (by decide +kernel))
theorem lX11_368 : Lk RX11 368 mX11_refusalToSet := Or.inl (gdw_of (i := 836) (by decide +kernel) (by decide +kernel))
theorem lX11_391 : Lk RX11 391 mX11_carryOut := Or.inl (gdw_of (i := 1033) (by decide +kernel) (by decide +kernel))
theorem lX11_394 : Lk RX11 394 mX11_sendLogged := Or.inl (gdw_of (i := 921) (by decide +kernel) (by decide +kernel))
theorem lX11_436 : Lk RX11 436 mX11_mishap := Or.inl (gdw_of (i := 1095) (by decide +kernel) (by decide +kernel))
def JX11_feed (a1 : Int32) (a2 : Int32) (a3 : Int32) (a4 : Int32) (a5 : Int32) (m : hM) : hR :=
  calI (JX6_join a1 a2 a3 a4 a5 m) fun x2 m1 =>
  some (some (.inl x2), m1)
set_option maxRecDepth 20000 in
theorem CX11_feed (a1 : Int32) (a2 : Int32) (a3 : Int32) (a4 : Int32) (a5 : Int32) (m : hM) : Cn mX11_feed 3 [.inr (.inr (0, 0)), .inl a1, .inl a2, .inl a3, .inl a4, .inl a5] m (JX11_feed a1 a2 a3 a4 a5 m) := by
  refine cn_of (by decide +kernel) (by simp only [List.map, vcat, List.sum_cons, List.sum_nil]; decide) ?_
  unfold JX11_feed
  show G mX11_feed 3 0 [(0, .inr (.inr (0, 0))), (1, .inl a1), (2, .inl a2), (3, .inl a3), (4, .inl a4), (5, .inl a5)] [] m _
  refine g_aload_n 0 (kdX11_feed 0 rfl) rfl ?_
  refine g_get (v := .inr (.inr (1, 0))) (kdX11_feed 1 rfl) fX11_10 rfl ?_
  refine g_iload_n 1 (kdX11_feed 2 rfl) rfl ?_
  refine g_iload_n 2 (kdX11_feed 3 rfl) rfl ?_
  refine g_iload_n 3 (kdX11_feed 4 rfl) rfl ?_
  refine g_iload 4 (kdX11_feed 5 rfl) rfl ?_
  refine g_iload 5 (kdX11_feed 6 rfl) rfl ?_
  refine g_calI (ck_V (As := [.inl a1, .inl a2, .inl a3, .inl a4, .inl a5]) (S := []) (t := 1) (o := 0) (kdX11_feed 7 rfl) iX6_join lX11_85 rc_1 rfl rfl rfl (by decide) (by simp only [List.map, vcat, List.sum_cons, List.sum_nil]; decide)) (CX6_join a1 a2 a3 a4 a5 m) (fun x2 m1 => ?_)
  exact g_iret rfl (kdX11_feed 8 rfl)
def JX11_end (a1 : Int32) (m : hM) : hR :=
  calI (JX6_cut a1 m) fun x2 m1 =>
  jretZ x2 m1
set_option maxRecDepth 20000 in
theorem CX11_end (a1 : Int32) (m : hM) : Cn mX11_end 2 [.inr (.inr (0, 0)), .inl a1] m (JX11_end a1 m) := by
  refine cn_of (by decide +kernel) (by simp only [List.map, vcat, List.sum_cons, List.sum_nil]; decide) ?_
  unfold JX11_end
  show G mX11_end 2 0 [(0, .inr (.inr (0, 0))), (1, .inl a1)] [] m _
  refine g_aload_n 0 (kdX11_end 0 rfl) rfl ?_
  refine g_get (v := .inr (.inr (1, 0))) (kdX11_end 1 rfl) fX11_10 rfl ?_
  refine g_iload_n 1 (kdX11_end 2 rfl) rfl ?_
  refine g_calI (ck_V (As := [.inl a1]) (S := []) (t := 1) (o := 0) (kdX11_end 3 rfl) iX6_cut lX11_89 rc_1 rfl rfl rfl (by decide) (by simp only [List.map, vcat, List.sum_cons, List.sum_nil]; decide)) (CX6_cut a1 m) (fun x2 m1 => ?_)
  exact g_zret rfl (kdX11_end 4 rfl)
def JX11_fault (a1 : Int32) (m : hM) : hR :=
  if a1 = 0 then (calI (JX6_faultOfLine m) fun x4 m3 =>
  some (some (.inl x4), m3)) else (if a1 = 1 then (calI (JX6_faultOfScript m) fun x2 m1 =>
  some (some (.inl x2), m1)) else (some (some (.inl (-2)), m)))
set_option maxRecDepth 20000 in
theorem CX11_fault (a1 : Int32) (m : hM) : Cn mX11_fault 8 [.inr (.inr (0, 0)), .inl a1] m (JX11_fault a1 m) := by
  refine cn_of (by decide +kernel) (by simp only [List.map, vcat, List.sum_cons, List.sum_nil]; decide) ?_
  unfold JX11_fault
  show G mX11_fault 8 0 [(0, .inr (.inr (0, 0))), (1, .inl a1)] [] m _
  refine g_iload_n 1 (kdX11_fault 0 rfl) rfl ?_
  refine g_if_ne (tgt := 12) (kdX11_fault 1 rfl) (by decide) (fun _ => ?_) (fun _ => ?_)
  · refine g_iload_n 1 (kdX11_fault 6 rfl) rfl ?_
    refine g_iconst (v := 1) (kdX11_fault 7 rfl) (by decide) ?_
    refine g_icmp_ne (tgt := 27) (kdX11_fault 8 rfl) (by decide) (fun _ => ?_) (fun _ => ?_)
    · refine g_bipush (v := (-2)) (kdX11_fault 13 rfl) (by decide) ?_
      exact g_iret rfl (kdX11_fault 14 rfl)
    · refine g_aload_n 0 (kdX11_fault 9 rfl) rfl ?_
      refine g_get (v := .inr (.inr (1, 0))) (kdX11_fault 10 rfl) fX11_10 rfl ?_
      refine g_calI (ck_V (As := []) (S := []) (t := 1) (o := 0) (kdX11_fault 11 rfl) iX6_faultOfScript lX11_97 rc_1 rfl rfl rfl (by decide) (by simp only [List.map, vcat, List.sum_cons, List.sum_nil]; decide)) (CX6_faultOfScript m) (fun x2 m1 => ?_)
      refine g_goto (tgt := 29) (kdX11_fault 12 rfl) (by decide) ?_
      exact g_iret rfl (kdX11_fault 14 rfl)
  · refine g_aload_n 0 (kdX11_fault 2 rfl) rfl ?_
    refine g_get (v := .inr (.inr (1, 0))) (kdX11_fault 3 rfl) fX11_10 rfl ?_
    refine g_calI (ck_V (As := []) (S := []) (t := 1) (o := 0) (kdX11_fault 4 rfl) iX6_faultOfLine lX11_93 rc_1 rfl rfl rfl (by decide) (by simp only [List.map, vcat, List.sum_cons, List.sum_nil]; decide)) (CX6_faultOfLine m) (fun x4 m3 => ?_)
    exact g_iret rfl (kdX11_fault 5 rfl)
def JX11_takeLine  (m : hM) : hR :=
  calI (JX6_faultOfLine m) fun x2 m1 =>
  if x2 = (-1) then (calV (JX4_copy 0 1 m1) fun m3 =>
  calI (JX6_cut 0 m3) fun x5 m4 =>
  calV (JX8_begin 40 0 m4) fun m6 =>
  stZ m6 0 0 12 1 fun m7 =>
  stZ m7 0 0 13 0 fun m8 =>
  stI m8 0 0 16 0 fun m9 =>
  calI (JX4_allTaps 0 m9) fun x11 m10 =>
  some (some (.inl x11), m10)) else (some (some (.inl (-1)), m1))
set_option maxRecDepth 20000 in
theorem CX11_takeLine  (m : hM) : Cn mX11_takeLine 8 [.inr (.inr (0, 0))] m (JX11_takeLine  m) := by
  refine cn_of (by decide +kernel) (by simp only [List.map, vcat, List.sum_cons, List.sum_nil]; decide) ?_
  unfold JX11_takeLine
  show G mX11_takeLine 8 0 [(0, .inr (.inr (0, 0)))] [] m _
  refine g_aload_n 0 (kdX11_takeLine 0 rfl) rfl ?_
  refine g_get (v := .inr (.inr (1, 0))) (kdX11_takeLine 1 rfl) fX11_10 rfl ?_
  refine g_calI (ck_V (As := []) (S := []) (t := 1) (o := 0) (kdX11_takeLine 2 rfl) iX6_faultOfLine lX11_93 rc_1 rfl rfl rfl (by decide) (by simp only [List.map, vcat, List.sum_cons, List.sum_nil]; decide)) (CX6_faultOfLine m) (fun x2 m1 => ?_)
  refine g_iconst (v := (-1)) (kdX11_takeLine 3 rfl) (by decide) ?_
  refine g_icmp_eq (tgt := 13) (kdX11_takeLine 4 rfl) (by decide) (fun _ => ?_) (fun _ => ?_)
  · refine g_aload_n 0 (kdX11_takeLine 7 rfl) rfl ?_
    refine g_get (v := .inr (.inr (4, 0))) (kdX11_takeLine 8 rfl) fX11_19 rfl ?_
    refine g_aload_n 0 (kdX11_takeLine 9 rfl) rfl ?_
    refine g_get (v := .inr (.inr (1, 0))) (kdX11_takeLine 10 rfl) fX11_10 rfl ?_
    refine g_get (v := .inr (.inr (4, 1))) (kdX11_takeLine 11 rfl) fX11_344 rfl ?_
    refine g_calV (ck_V (As := [.inr (.inr (4, 1))]) (S := []) (t := 4) (o := 0) (kdX11_takeLine 12 rfl) iX4_copy lX11_345 rc_4 rfl rfl rfl (by decide) (by simp only [List.map, vcat, List.sum_cons, List.sum_nil]; decide)) (CX4_copy 0 1 m1) (fun m3 => ?_)
    refine g_aload_n 0 (kdX11_takeLine 13 rfl) rfl ?_
    refine g_get (v := .inr (.inr (1, 0))) (kdX11_takeLine 14 rfl) fX11_10 rfl ?_
    refine g_iconst (v := 0) (kdX11_takeLine 15 rfl) (by decide) ?_
    refine g_calI (ck_V (As := [.inl 0]) (S := []) (t := 1) (o := 0) (kdX11_takeLine 16 rfl) iX6_cut lX11_89 rc_1 rfl rfl rfl (by decide) (by simp only [List.map, vcat, List.sum_cons, List.sum_nil]; decide)) (CX6_cut 0 m3) (fun x5 m4 => ?_)
    refine g_pop (kdX11_takeLine 17 rfl) rfl ?_
    refine g_aload_n 0 (kdX11_takeLine 18 rfl) rfl ?_
    refine g_get (v := .inr (.inr (12, 40))) (kdX11_takeLine 19 rfl) fX11_32 rfl ?_
    refine g_aload_n 0 (kdX11_takeLine 20 rfl) rfl ?_
    refine g_get (v := .inr (.inr (4, 0))) (kdX11_takeLine 21 rfl) fX11_19 rfl ?_
    refine g_calV (ck_V (As := [.inr (.inr (4, 0))]) (S := []) (t := 12) (o := 40) (kdX11_takeLine 22 rfl) iX8_begin lX11_348 rc_12 rfl rfl rfl (by decide) (by simp only [List.map, vcat, List.sum_cons, List.sum_nil]; decide)) (CX8_begin 40 0 m4) (fun m6 => ?_)
    refine g_aload_n 0 (kdX11_takeLine 23 rfl) rfl ?_
    refine g_iconst (v := 1) (kdX11_takeLine 24 rfl) (by decide) ?_
    refine g_putZ (kdX11_takeLine 25 rfl) fX11_106 rfl (fun m7 => ?_)
    refine g_aload_n 0 (kdX11_takeLine 26 rfl) rfl ?_
    refine g_iconst (v := 0) (kdX11_takeLine 27 rfl) (by decide) ?_
    refine g_putZ (kdX11_takeLine 28 rfl) fX11_200 rfl (fun m8 => ?_)
    refine g_aload_n 0 (kdX11_takeLine 29 rfl) rfl ?_
    refine g_iconst (v := 0) (kdX11_takeLine 30 rfl) (by decide) ?_
    refine g_putI (kdX11_takeLine 31 rfl) fX11_168 rfl (fun m9 => ?_)
    refine g_aload_n 0 (kdX11_takeLine 32 rfl) rfl ?_
    refine g_get (v := .inr (.inr (4, 0))) (kdX11_takeLine 33 rfl) fX11_19 rfl ?_
    refine g_calI (ck_V (As := []) (S := []) (t := 4) (o := 0) (kdX11_takeLine 34 rfl) iX4_allTaps lX11_351 rc_4 rfl rfl rfl (by decide) (by simp only [List.map, vcat, List.sum_cons, List.sum_nil]; decide)) (CX4_allTaps 0 m9) (fun x11 m10 => ?_)
    exact g_iret rfl (kdX11_takeLine 35 rfl)
  · refine g_iconst (v := (-1)) (kdX11_takeLine 5 rfl) (by decide) ?_
    exact g_iret rfl (kdX11_takeLine 6 rfl)
def JX11_takeScript  (m : hM) : hR :=
  calI (JX11_within (m.1 0 0 14) 0 3 m) fun x2 m1 =>
  if x2 = 0 then (some (some (.inl (-1)), m1)) else (calI (JX6_faultOfScript m1) fun x4 m3 =>
  if x4 = (-1) then (aal 38 (m3.1 0 0 14) fun j5 =>
  calV (JX7_copy j5 4 m3) fun m6 =>
  calI (JX6_cut 0 m6) fun x8 m7 =>
  stI m7 0 0 14 ((m7.1 0 0 14) + 1) fun m9 =>
  some (some (.inl ((m9.1 0 0 14) - 1)), m9)) else (some (some (.inl (-1)), m3)))
set_option maxRecDepth 20000 in
theorem CX11_takeScript  (m : hM) : Cn mX11_takeScript 8 [.inr (.inr (0, 0))] m (JX11_takeScript  m) := by
  refine cn_of (by decide +kernel) (by simp only [List.map, vcat, List.sum_cons, List.sum_nil]; decide) ?_
  unfold JX11_takeScript
  show G mX11_takeScript 8 0 [(0, .inr (.inr (0, 0)))] [] m _
  refine g_aload_n 0 (kdX11_takeScript 0 rfl) rfl ?_
  refine g_get (v := .inl (m.1 0 0 14)) (kdX11_takeScript 1 rfl) fX11_162 rfl ?_
  refine g_iconst (v := 0) (kdX11_takeScript 2 rfl) (by decide) ?_
  refine g_iconst (v := 3) (kdX11_takeScript 3 rfl) (by decide) ?_
  refine g_calI (ck_S (As := [.inl (m.1 0 0 14), .inl 0, .inl 3]) (S := []) (kdX11_takeScript 4 rfl) iX11_within lX11_110 rfl rfl rfl (by decide) (by simp only [List.map, vcat, List.sum_cons, List.sum_nil]; decide)) (CX11_within (m.1 0 0 14) 0 3 m) (fun x2 m1 => ?_)
  refine g_if_eq (tgt := 23) (kdX11_takeScript 5 rfl) (by decide) (fun _ => ?_) (fun _ => ?_)
  · refine g_iconst (v := (-1)) (kdX11_takeScript 11 rfl) (by decide) ?_
    exact g_iret rfl (kdX11_takeScript 12 rfl)
  · refine g_aload_n 0 (kdX11_takeScript 6 rfl) rfl ?_
    refine g_get (v := .inr (.inr (1, 0))) (kdX11_takeScript 7 rfl) fX11_10 rfl ?_
    refine g_calI (ck_V (As := []) (S := []) (t := 1) (o := 0) (kdX11_takeScript 8 rfl) iX6_faultOfScript lX11_97 rc_1 rfl rfl rfl (by decide) (by simp only [List.map, vcat, List.sum_cons, List.sum_nil]; decide)) (CX6_faultOfScript m1) (fun x4 m3 => ?_)
    refine g_iconst (v := (-1)) (kdX11_takeScript 9 rfl) (by decide) ?_
    refine g_icmp_eq (tgt := 25) (kdX11_takeScript 10 rfl) (by decide) (fun _ => ?_) (fun _ => ?_)
    · refine g_aload_n 0 (kdX11_takeScript 13 rfl) rfl ?_
      refine g_get (v := .inr (.inr (38, 0))) (kdX11_takeScript 14 rfl) fX11_25 rfl ?_
      refine g_aload_n 0 (kdX11_takeScript 15 rfl) rfl ?_
      refine g_get (v := .inl (m3.1 0 0 14)) (kdX11_takeScript 16 rfl) fX11_162 rfl ?_
      refine g_aald (fun j5 => (8, j5)) (fun _ => rfl) (kdX11_takeScript 17 rfl) (fun j5 => ?_)
      refine g_aload_n 0 (kdX11_takeScript 18 rfl) rfl ?_
      refine g_get (v := .inr (.inr (1, 0))) (kdX11_takeScript 19 rfl) fX11_10 rfl ?_
      refine g_get (v := .inr (.inr (8, 4))) (kdX11_takeScript 20 rfl) fX11_354 rfl ?_
      refine g_calV (ck_V (As := [.inr (.inr (8, 4))]) (S := []) (t := 8) (o := j5) (kdX11_takeScript 21 rfl) iX7_copy lX11_358 rc_8 rfl rfl rfl (by decide) (by simp only [List.map, vcat, List.sum_cons, List.sum_nil]; decide)) (CX7_copy j5 4 m3) (fun m6 => ?_)
      refine g_aload_n 0 (kdX11_takeScript 22 rfl) rfl ?_
      refine g_get (v := .inr (.inr (1, 0))) (kdX11_takeScript 23 rfl) fX11_10 rfl ?_
      refine g_iconst (v := 0) (kdX11_takeScript 24 rfl) (by decide) ?_
      refine g_calI (ck_V (As := [.inl 0]) (S := []) (t := 1) (o := 0) (kdX11_takeScript 25 rfl) iX6_cut lX11_89 rc_1 rfl rfl rfl (by decide) (by simp only [List.map, vcat, List.sum_cons, List.sum_nil]; decide)) (CX6_cut 0 m6) (fun x8 m7 => ?_)
      refine g_pop (kdX11_takeScript 26 rfl) rfl ?_
      refine g_aload_n 0 (kdX11_takeScript 27 rfl) rfl ?_
      refine g_dup (kdX11_takeScript 28 rfl) rfl ?_
      refine g_get (v := .inl (m7.1 0 0 14)) (kdX11_takeScript 29 rfl) fX11_162 rfl ?_
      refine g_iconst (v := 1) (kdX11_takeScript 30 rfl) (by decide) ?_
      refine g_iadd (kdX11_takeScript 31 rfl) ?_
      refine g_putI (kdX11_takeScript 32 rfl) fX11_162 rfl (fun m9 => ?_)
      refine g_aload_n 0 (kdX11_takeScript 33 rfl) rfl ?_
      refine g_get (v := .inl (m9.1 0 0 14)) (kdX11_takeScript 34 rfl) fX11_162 rfl ?_
      refine g_iconst (v := 1) (kdX11_takeScript 35 rfl) (by decide) ?_
      refine g_isub (kdX11_takeScript 36 rfl) ?_
      exact g_iret rfl (kdX11_takeScript 37 rfl)
    · refine g_iconst (v := (-1)) (kdX11_takeScript 11 rfl) (by decide) ?_
      exact g_iret rfl (kdX11_takeScript 12 rfl)
def JX11_text (a1 : Int32) (m : hM) : hR :=
  if a1 = 0 then (calI (JX11_takeLine m) fun x4 m3 =>
  some (some (.inl x4), m3)) else (if a1 = 1 then (calI (JX11_takeScript m) fun x2 m1 =>
  some (some (.inl x2), m1)) else (some (some (.inl (-1)), m)))
set_option maxRecDepth 20000 in
theorem CX11_text (a1 : Int32) (m : hM) : Cn mX11_text 9 [.inr (.inr (0, 0)), .inl a1] m (JX11_text a1 m) := by
  refine cn_of (by decide +kernel) (by simp only [List.map, vcat, List.sum_cons, List.sum_nil]; decide) ?_
  unfold JX11_text
  show G mX11_text 9 0 [(0, .inr (.inr (0, 0))), (1, .inl a1)] [] m _
  refine g_iload_n 1 (kdX11_text 0 rfl) rfl ?_
  refine g_if_ne (tgt := 9) (kdX11_text 1 rfl) (by decide) (fun _ => ?_) (fun _ => ?_)
  · refine g_iload_n 1 (kdX11_text 5 rfl) rfl ?_
    refine g_iconst (v := 1) (kdX11_text 6 rfl) (by decide) ?_
    refine g_icmp_ne (tgt := 21) (kdX11_text 7 rfl) (by decide) (fun _ => ?_) (fun _ => ?_)
    · refine g_iconst (v := (-1)) (kdX11_text 11 rfl) (by decide) ?_
      exact g_iret rfl (kdX11_text 12 rfl)
    · refine g_aload_n 0 (kdX11_text 8 rfl) rfl ?_
      refine g_calI (ck_V (As := []) (S := []) (t := 0) (o := 0) (kdX11_text 9 rfl) iX11_takeScript lX11_103 rc_0 rfl rfl rfl (by decide) (by simp only [List.map, vcat, List.sum_cons, List.sum_nil]; decide)) (CX11_takeScript m) (fun x2 m1 => ?_)
      refine g_goto (tgt := 22) (kdX11_text 10 rfl) (by decide) ?_
      exact g_iret rfl (kdX11_text 12 rfl)
  · refine g_aload_n 0 (kdX11_text 2 rfl) rfl ?_
    refine g_calI (ck_V (As := []) (S := []) (t := 0) (o := 0) (kdX11_text 3 rfl) iX11_takeLine lX11_100 rc_0 rfl rfl rfl (by decide) (by simp only [List.map, vcat, List.sum_cons, List.sum_nil]; decide)) (CX11_takeLine m) (fun x4 m3 => ?_)
    exact g_iret rfl (kdX11_text 4 rfl)
def JX11_rule (a1 : Int32) (m : hM) : hR :=
  if (m.1 0 0 12) = 0 then (some (some (.inl (-1)), m)) else (calI (JX11_within a1 0 12 m) fun x2 m1 =>
  if x2 = 0 then (some (some (.inl (-1)), m1)) else (calI (JX4_ruleOf 0 a1 m1) fun x4 m3 =>
  some (some (.inl x4), m3)))
set_option maxRecDepth 20000 in
theorem CX11_rule (a1 : Int32) (m : hM) : Cn mX11_rule 2 [.inr (.inr (0, 0)), .inl a1] m (JX11_rule a1 m) := by
  refine cn_of (by decide +kernel) (by simp only [List.map, vcat, List.sum_cons, List.sum_nil]; decide) ?_
  unfold JX11_rule
  show G mX11_rule 2 0 [(0, .inr (.inr (0, 0))), (1, .inl a1)] [] m _
  refine g_aload_n 0 (kdX11_rule 0 rfl) rfl ?_
  refine g_get (v := .inl (m.1 0 0 12)) (kdX11_rule 1 rfl) fX11_106 rfl ?_
  refine g_if_eq (tgt := 28) (kdX11_rule 2 rfl) (by decide) (fun _ => ?_) (fun _ => ?_)
  · refine g_iconst (v := (-1)) (kdX11_rule 13 rfl) (by decide) ?_
    exact g_iret rfl (kdX11_rule 14 rfl)
  · refine g_iload_n 1 (kdX11_rule 3 rfl) rfl ?_
    refine g_iconst (v := 0) (kdX11_rule 4 rfl) (by decide) ?_
    refine g_bipush (v := 12) (kdX11_rule 5 rfl) (by decide) ?_
    refine g_calI (ck_S (As := [.inl a1, .inl 0, .inl 12]) (S := []) (kdX11_rule 6 rfl) iX11_within lX11_110 rfl rfl rfl (by decide) (by simp only [List.map, vcat, List.sum_cons, List.sum_nil]; decide)) (CX11_within a1 0 12 m) (fun x2 m1 => ?_)
    refine g_if_eq (tgt := 28) (kdX11_rule 7 rfl) (by decide) (fun _ => ?_) (fun _ => ?_)
    · refine g_iconst (v := (-1)) (kdX11_rule 13 rfl) (by decide) ?_
      exact g_iret rfl (kdX11_rule 14 rfl)
    · refine g_aload_n 0 (kdX11_rule 8 rfl) rfl ?_
      refine g_get (v := .inr (.inr (4, 0))) (kdX11_rule 9 rfl) fX11_19 rfl ?_
      refine g_iload_n 1 (kdX11_rule 10 rfl) rfl ?_
      refine g_calI (ck_V (As := [.inl a1]) (S := []) (t := 4) (o := 0) (kdX11_rule 11 rfl) iX4_ruleOf lX11_114 rc_4 rfl rfl rfl (by decide) (by simp only [List.map, vcat, List.sum_cons, List.sum_nil]; decide)) (CX4_ruleOf 0 a1 m1) (fun x4 m3 => ?_)
      refine g_goto (tgt := 29) (kdX11_rule 12 rfl) (by decide) ?_
      exact g_iret rfl (kdX11_rule 14 rfl)
def JX11_told (a1 : Int32) (a2 : Int32) (m : hM) : hR :=
  if (m.1 0 0 12) = 0 then (some (some (.inl (-1000000000)), m)) else (if a1 = 0 then (calI (JX4_pulseLength 0 m) fun x8 m7 =>
  calI (JX11_within a2 0 (x8 - 1) m7) fun x10 m9 =>
  if x10 = 0 then (some (some (.inl (-1000000000)), m9)) else (calI (JX4_pulseAt 0 a2 m9) fun x12 m11 =>
  some (some (.inl x12), m11))) else (if a1 = 1 then (calI (JX4_wordLength 0 m) fun x2 m1 =>
  calI (JX11_within a2 0 (x2 - 1) m1) fun x4 m3 =>
  if x4 = 0 then (some (some (.inl (-1000000000)), m3)) else (calI (JX4_wordAt 0 a2 m3) fun x6 m5 =>
  some (some (.inl x6), m5))) else (some (some (.inl (-1000000000)), m))))
set_option maxRecDepth 20000 in
theorem CX11_told (a1 : Int32) (a2 : Int32) (m : hM) : Cn mX11_told 1 [.inr (.inr (0, 0)), .inl a1, .inl a2] m (JX11_told a1 a2 m) := by
  refine cn_of (by decide +kernel) (by simp only [List.map, vcat, List.sum_cons, List.sum_nil]; decide) ?_
  unfold JX11_told
  show G mX11_told 1 0 [(0, .inr (.inr (0, 0))), (1, .inl a1), (2, .inl a2)] [] m _
  refine g_aload_n 0 (kdX11_told 0 rfl) rfl ?_
  refine g_get (v := .inl (m.1 0 0 12)) (kdX11_told 1 rfl) fX11_106 rfl ?_
  refine g_if_ne (tgt := 10) (kdX11_told 2 rfl) (by decide) (fun _ => ?_) (fun _ => ?_)
  · refine g_iload_n 1 (kdX11_told 5 rfl) rfl ?_
    refine g_if_ne (tgt := 45) (kdX11_told 6 rfl) (by decide) (fun _ => ?_) (fun _ => ?_)
    · refine g_iload_n 1 (kdX11_told 23 rfl) rfl ?_
      refine g_iconst (v := 1) (kdX11_told 24 rfl) (by decide) ?_
      refine g_icmp_ne (tgt := 81) (kdX11_told 25 rfl) (by decide) (fun _ => ?_) (fun _ => ?_)
      · refine g_ldc (kdX11_told 42 rfl) cX11_118 ?_
        exact g_iret rfl (kdX11_told 43 rfl)
      · refine g_iload_n 2 (kdX11_told 26 rfl) rfl ?_
        refine g_iconst (v := 0) (kdX11_told 27 rfl) (by decide) ?_
        refine g_aload_n 0 (kdX11_told 28 rfl) rfl ?_
        refine g_get (v := .inr (.inr (4, 0))) (kdX11_told 29 rfl) fX11_19 rfl ?_
        refine g_calI (ck_V (As := []) (S := [.inl 0, .inl a2]) (t := 4) (o := 0) (kdX11_told 30 rfl) iX4_wordLength lX11_125 rc_4 rfl rfl rfl (by decide) (by simp only [List.map, vcat, List.sum_cons, List.sum_nil]; decide)) (CX4_wordLength 0 m) (fun x2 m1 => ?_)
        refine g_iconst (v := 1) (kdX11_told 31 rfl) (by decide) ?_
        refine g_isub (kdX11_told 32 rfl) ?_
        refine g_calI (ck_S (As := [.inl a2, .inl 0, .inl (x2 - 1)]) (S := []) (kdX11_told 33 rfl) iX11_within lX11_110 rfl rfl rfl (by decide) (by simp only [List.map, vcat, List.sum_cons, List.sum_nil]; decide)) (CX11_within a2 0 (x2 - 1) m1) (fun x4 m3 => ?_)
        refine g_if_eq (tgt := 78) (kdX11_told 34 rfl) (by decide) (fun _ => ?_) (fun _ => ?_)
        · refine g_ldc (kdX11_told 40 rfl) cX11_118 ?_
          exact g_iret rfl (kdX11_told 41 rfl)
        · refine g_aload_n 0 (kdX11_told 35 rfl) rfl ?_
          refine g_get (v := .inr (.inr (4, 0))) (kdX11_told 36 rfl) fX11_19 rfl ?_
          refine g_iload_n 2 (kdX11_told 37 rfl) rfl ?_
          refine g_calI (ck_V (As := [.inl a2]) (S := []) (t := 4) (o := 0) (kdX11_told 38 rfl) iX4_wordAt lX11_128 rc_4 rfl rfl rfl (by decide) (by simp only [List.map, vcat, List.sum_cons, List.sum_nil]; decide)) (CX4_wordAt 0 a2 m3) (fun x6 m5 => ?_)
          refine g_goto (tgt := 80) (kdX11_told 39 rfl) (by decide) ?_
          exact g_iret rfl (kdX11_told 41 rfl)
    · refine g_iload_n 2 (kdX11_told 7 rfl) rfl ?_
      refine g_iconst (v := 0) (kdX11_told 8 rfl) (by decide) ?_
      refine g_aload_n 0 (kdX11_told 9 rfl) rfl ?_
      refine g_get (v := .inr (.inr (4, 0))) (kdX11_told 10 rfl) fX11_19 rfl ?_
      refine g_calI (ck_V (As := []) (S := [.inl 0, .inl a2]) (t := 4) (o := 0) (kdX11_told 11 rfl) iX4_pulseLength lX11_119 rc_4 rfl rfl rfl (by decide) (by simp only [List.map, vcat, List.sum_cons, List.sum_nil]; decide)) (CX4_pulseLength 0 m) (fun x8 m7 => ?_)
      refine g_iconst (v := 1) (kdX11_told 12 rfl) (by decide) ?_
      refine g_isub (kdX11_told 13 rfl) ?_
      refine g_calI (ck_S (As := [.inl a2, .inl 0, .inl (x8 - 1)]) (S := []) (kdX11_told 14 rfl) iX11_within lX11_110 rfl rfl rfl (by decide) (by simp only [List.map, vcat, List.sum_cons, List.sum_nil]; decide)) (CX11_within a2 0 (x8 - 1) m7) (fun x10 m9 => ?_)
      refine g_if_eq (tgt := 42) (kdX11_told 15 rfl) (by decide) (fun _ => ?_) (fun _ => ?_)
      · refine g_ldc (kdX11_told 21 rfl) cX11_118 ?_
        exact g_iret rfl (kdX11_told 22 rfl)
      · refine g_aload_n 0 (kdX11_told 16 rfl) rfl ?_
        refine g_get (v := .inr (.inr (4, 0))) (kdX11_told 17 rfl) fX11_19 rfl ?_
        refine g_iload_n 2 (kdX11_told 18 rfl) rfl ?_
        refine g_calI (ck_V (As := [.inl a2]) (S := []) (t := 4) (o := 0) (kdX11_told 19 rfl) iX4_pulseAt lX11_122 rc_4 rfl rfl rfl (by decide) (by simp only [List.map, vcat, List.sum_cons, List.sum_nil]; decide)) (CX4_pulseAt 0 a2 m9) (fun x12 m11 => ?_)
        refine g_goto (tgt := 44) (kdX11_told 20 rfl) (by decide) ?_
        exact g_iret rfl (kdX11_told 22 rfl)
  · refine g_ldc (kdX11_told 3 rfl) cX11_118 ?_
    exact g_iret rfl (kdX11_told 4 rfl)
def JX11_now (a1 : Int32) (m : hM) : hR :=
  if (m.1 0 0 12) = 0 then (some (some (.inl (-1000000000)), m)) else (calI (JX8_fact 40 a1 m) fun x2 m1 =>
  some (some (.inl x2), m1))
set_option maxRecDepth 20000 in
theorem CX11_now (a1 : Int32) (m : hM) : Cn mX11_now 1 [.inr (.inr (0, 0)), .inl a1] m (JX11_now a1 m) := by
  refine cn_of (by decide +kernel) (by simp only [List.map, vcat, List.sum_cons, List.sum_nil]; decide) ?_
  unfold JX11_now
  show G mX11_now 1 0 [(0, .inr (.inr (0, 0))), (1, .inl a1)] [] m _
  refine g_aload_n 0 (kdX11_now 0 rfl) rfl ?_
  refine g_get (v := .inl (m.1 0 0 12)) (kdX11_now 1 rfl) fX11_106 rfl ?_
  refine g_if_eq (tgt := 18) (kdX11_now 2 rfl) (by decide) (fun _ => ?_) (fun _ => ?_)
  · refine g_ldc (kdX11_now 8 rfl) cX11_118 ?_
    exact g_iret rfl (kdX11_now 9 rfl)
  · refine g_aload_n 0 (kdX11_now 3 rfl) rfl ?_
    refine g_get (v := .inr (.inr (12, 40))) (kdX11_now 4 rfl) fX11_32 rfl ?_
    refine g_iload_n 1 (kdX11_now 5 rfl) rfl ?_
    refine g_calI (ck_V (As := [.inl a1]) (S := []) (t := 12) (o := 40) (kdX11_now 6 rfl) iX8_fact lX11_143 rc_12 rfl rfl rfl (by decide) (by simp only [List.map, vcat, List.sum_cons, List.sum_nil]; decide)) (CX8_fact 40 a1 m) (fun x2 m1 => ?_)
    refine g_goto (tgt := 20) (kdX11_now 7 rfl) (by decide) ?_
    exact g_iret rfl (kdX11_now 9 rfl)
def JX11_ago (a1 : Int32) (a2 : Int32) (m : hM) : hR :=
  if (m.1 0 0 12) = 0 then (some (some (.inl (-1000000000)), m)) else (calI (JX8_earlier 40 a1 a2 m) fun x2 m1 =>
  some (some (.inl x2), m1))
set_option maxRecDepth 20000 in
theorem CX11_ago (a1 : Int32) (a2 : Int32) (m : hM) : Cn mX11_ago 2 [.inr (.inr (0, 0)), .inl a1, .inl a2] m (JX11_ago a1 a2 m) := by
  refine cn_of (by decide +kernel) (by simp only [List.map, vcat, List.sum_cons, List.sum_nil]; decide) ?_
  unfold JX11_ago
  show G mX11_ago 2 0 [(0, .inr (.inr (0, 0))), (1, .inl a1), (2, .inl a2)] [] m _
  refine g_aload_n 0 (kdX11_ago 0 rfl) rfl ?_
  refine g_get (v := .inl (m.1 0 0 12)) (kdX11_ago 1 rfl) fX11_106 rfl ?_
  refine g_if_eq (tgt := 19) (kdX11_ago 2 rfl) (by decide) (fun _ => ?_) (fun _ => ?_)
  · refine g_ldc (kdX11_ago 9 rfl) cX11_118 ?_
    exact g_iret rfl (kdX11_ago 10 rfl)
  · refine g_aload_n 0 (kdX11_ago 3 rfl) rfl ?_
    refine g_get (v := .inr (.inr (12, 40))) (kdX11_ago 4 rfl) fX11_32 rfl ?_
    refine g_iload_n 1 (kdX11_ago 5 rfl) rfl ?_
    refine g_iload_n 2 (kdX11_ago 6 rfl) rfl ?_
    refine g_calI (ck_V (As := [.inl a1, .inl a2]) (S := []) (t := 12) (o := 40) (kdX11_ago 7 rfl) iX8_earlier lX11_146 rc_12 rfl rfl rfl (by decide) (by simp only [List.map, vcat, List.sum_cons, List.sum_nil]; decide)) (CX8_earlier 40 a1 a2 m) (fun x2 m1 => ?_)
    refine g_goto (tgt := 21) (kdX11_ago 8 rfl) (by decide) ?_
    exact g_iret rfl (kdX11_ago 10 rfl)
def JX11_status (a1 : Int32) (m : hM) : hR :=
  alenJ 37 0 fun x1 =>
  calI (JX11_within a1 0 (x1 - 1) m) fun x3 m2 =>
  if x3 = 0 then (some (some (.inl (-1)), m2)) else (ald m2 37 0 a1 fun x4 =>
  some (some (.inl x4), m2))
set_option maxRecDepth 20000 in
theorem CX11_status (a1 : Int32) (m : hM) : Cn mX11_status 1 [.inr (.inr (0, 0)), .inl a1] m (JX11_status a1 m) := by
  refine cn_of (by decide +kernel) (by simp only [List.map, vcat, List.sum_cons, List.sum_nil]; decide) ?_
  unfold JX11_status
  show G mX11_status 1 0 [(0, .inr (.inr (0, 0))), (1, .inl a1)] [] m _
  refine g_iload_n 1 (kdX11_status 0 rfl) rfl ?_
  refine g_iconst (v := 0) (kdX11_status 1 rfl) (by decide) ?_
  refine g_aload_n 0 (kdX11_status 2 rfl) rfl ?_
  refine g_get (v := .inr (.inr (37, 0))) (kdX11_status 3 rfl) fX11_76 rfl ?_
  refine g_alen (kdX11_status 4 rfl) (fun x1 => ?_)
  refine g_iconst (v := 1) (kdX11_status 5 rfl) (by decide) ?_
  refine g_isub (kdX11_status 6 rfl) ?_
  refine g_calI (ck_S (As := [.inl a1, .inl 0, .inl (x1 - 1)]) (S := []) (kdX11_status 7 rfl) iX11_within lX11_110 rfl rfl rfl (by decide) (by simp only [List.map, vcat, List.sum_cons, List.sum_nil]; decide)) (CX11_within a1 0 (x1 - 1) m) (fun x3 m2 => ?_)
  refine g_if_eq (tgt := 24) (kdX11_status 8 rfl) (by decide) (fun _ => ?_) (fun _ => ?_)
  · refine g_iconst (v := (-1)) (kdX11_status 14 rfl) (by decide) ?_
    exact g_iret rfl (kdX11_status 15 rfl)
  · refine g_aload_n 0 (kdX11_status 9 rfl) rfl ?_
    refine g_get (v := .inr (.inr (37, 0))) (kdX11_status 10 rfl) fX11_76 rfl ?_
    refine g_iload_n 1 (kdX11_status 11 rfl) rfl ?_
    refine g_iald (kdX11_status 12 rfl) (fun x4 => ?_)
    refine g_goto (tgt := 25) (kdX11_status 13 rfl) (by decide) ?_
    exact g_iret rfl (kdX11_status 15 rfl)
def JX11_logLength  (m : hM) : hR :=
  calI (JJ9_min_7cf53 (m.1 12 40 6) 60 m) fun x2 m1 =>
  some (some (.inl x2), m1)
set_option maxRecDepth 20000 in
theorem CX11_logLength  (m : hM) : Cn mX11_logLength 1 [.inr (.inr (0, 0))] m (JX11_logLength  m) := by
  refine cn_of (by decide +kernel) (by simp only [List.map, vcat, List.sum_cons, List.sum_nil]; decide) ?_
  unfold JX11_logLength
  show G mX11_logLength 1 0 [(0, .inr (.inr (0, 0)))] [] m _
  refine g_aload_n 0 (kdX11_logLength 0 rfl) rfl ?_
  refine g_get (v := .inr (.inr (12, 40))) (kdX11_logLength 1 rfl) fX11_32 rfl ?_
  refine g_get (v := .inl (m.1 12 40 6)) (kdX11_logLength 2 rfl) fX11_153 rfl ?_
  refine g_bipush (v := 60) (kdX11_logLength 3 rfl) (by decide) ?_
  refine g_calI (ck_S (As := [.inl (m.1 12 40 6), .inl 60]) (S := []) (kdX11_logLength 4 rfl) iJ9_min_7cf53 lX11_361 rfl rfl rfl (by decide) (by simp only [List.map, vcat, List.sum_cons, List.sum_nil]; decide)) (CJ9_min_7cf53 (m.1 12 40 6) 60 m) (fun x2 m1 => ?_)
  exact g_iret rfl (kdX11_logLength 5 rfl)
def JX11_log (a1 : Int32) (a2 : Int32) (m : hM) : hR :=
  if a1 < 0 then (some (some (.inl (-1000000000)), m)) else (calI (JX11_logLength m) fun x2 m1 =>
  if a1 < x2 then (calI (JX5_entry 0 (((m1.1 12 40 6) - 1) - a1) a2 m1) fun x4 m3 =>
  some (some (.inl x4), m3)) else (some (some (.inl (-1000000000)), m1)))
set_option maxRecDepth 20000 in
theorem CX11_log (a1 : Int32) (a2 : Int32) (m : hM) : Cn mX11_log 3 [.inr (.inr (0, 0)), .inl a1, .inl a2] m (JX11_log a1 a2 m) := by
  refine cn_of (by decide +kernel) (by simp only [List.map, vcat, List.sum_cons, List.sum_nil]; decide) ?_
  unfold JX11_log
  show G mX11_log 3 0 [(0, .inr (.inr (0, 0))), (1, .inl a1), (2, .inl a2)] [] m _
  refine g_iload_n 1 (kdX11_log 0 rfl) rfl ?_
  refine g_if_lt (tgt := 12) (kdX11_log 1 rfl) (by decide) (fun _ => ?_) (fun _ => ?_)
  · refine g_ldc (kdX11_log 6 rfl) cX11_118 ?_
    exact g_iret rfl (kdX11_log 7 rfl)
  · refine g_iload_n 1 (kdX11_log 2 rfl) rfl ?_
    refine g_aload_n 0 (kdX11_log 3 rfl) rfl ?_
    refine g_calI (ck_V (As := []) (S := [.inl a1]) (t := 0) (o := 0) (kdX11_log 4 rfl) iX11_logLength lX11_150 rc_0 rfl rfl rfl (by decide) (by simp only [List.map, vcat, List.sum_cons, List.sum_nil]; decide)) (CX11_logLength m) (fun x2 m1 => ?_)
    refine g_icmp_lt (tgt := 15) (kdX11_log 5 rfl) (by decide) (fun _ => ?_) (fun _ => ?_)
    · refine g_aload_n 0 (kdX11_log 8 rfl) rfl ?_
      refine g_get (v := .inr (.inr (20, 0))) (kdX11_log 9 rfl) fX11_45 rfl ?_
      refine g_aload_n 0 (kdX11_log 10 rfl) rfl ?_
      refine g_get (v := .inr (.inr (12, 40))) (kdX11_log 11 rfl) fX11_32 rfl ?_
      refine g_get (v := .inl (m1.1 12 40 6)) (kdX11_log 12 rfl) fX11_153 rfl ?_
      refine g_iconst (v := 1) (kdX11_log 13 rfl) (by decide) ?_
      refine g_isub (kdX11_log 14 rfl) ?_
      refine g_iload_n 1 (kdX11_log 15 rfl) rfl ?_
      refine g_isub (kdX11_log 16 rfl) ?_
      refine g_iload_n 2 (kdX11_log 17 rfl) rfl ?_
      refine g_calI (ck_V (As := [.inl (((m1.1 12 40 6) - 1) - a1), .inl a2]) (S := []) (t := 20) (o := 0) (kdX11_log 18 rfl) iX5_entry lX11_156 rc_20 rfl rfl rfl (by decide) (by simp only [List.map, vcat, List.sum_cons, List.sum_nil]; decide)) (CX5_entry 0 (((m1.1 12 40 6) - 1) - a1) a2 m1) (fun x4 m3 => ?_)
      exact g_iret rfl (kdX11_log 19 rfl)
    · refine g_ldc (kdX11_log 6 rfl) cX11_118 ?_
      exact g_iret rfl (kdX11_log 7 rfl)
def JX11_tapCount  (m : hM) : hR :=
  if (m.1 0 0 12) = 0 then (some (some (.inl 0), m)) else (calI (JX4_allTaps 0 m) fun x2 m1 =>
  some (some (.inl x2), m1))
set_option maxRecDepth 20000 in
theorem CX11_tapCount  (m : hM) : Cn mX11_tapCount 1 [.inr (.inr (0, 0))] m (JX11_tapCount  m) := by
  refine cn_of (by decide +kernel) (by simp only [List.map, vcat, List.sum_cons, List.sum_nil]; decide) ?_
  unfold JX11_tapCount
  show G mX11_tapCount 1 0 [(0, .inr (.inr (0, 0)))] [] m _
  refine g_aload_n 0 (kdX11_tapCount 0 rfl) rfl ?_
  refine g_get (v := .inl (m.1 0 0 12)) (kdX11_tapCount 1 rfl) fX11_106 rfl ?_
  refine g_if_eq (tgt := 17) (kdX11_tapCount 2 rfl) (by decide) (fun _ => ?_) (fun _ => ?_)
  · refine g_iconst (v := 0) (kdX11_tapCount 7 rfl) (by decide) ?_
    exact g_iret rfl (kdX11_tapCount 8 rfl)
  · refine g_aload_n 0 (kdX11_tapCount 3 rfl) rfl ?_
    refine g_get (v := .inr (.inr (4, 0))) (kdX11_tapCount 4 rfl) fX11_19 rfl ?_
    refine g_calI (ck_V (As := []) (S := []) (t := 4) (o := 0) (kdX11_tapCount 5 rfl) iX4_allTaps lX11_351 rc_4 rfl rfl rfl (by decide) (by simp only [List.map, vcat, List.sum_cons, List.sum_nil]; decide)) (CX4_allTaps 0 m) (fun x2 m1 => ?_)
    refine g_goto (tgt := 18) (kdX11_tapCount 6 rfl) (by decide) ?_
    exact g_iret rfl (kdX11_tapCount 8 rfl)
def JX11_count (a1 : Int32) (m : hM) : hR :=
  swL a1 [(0, calI (JX11_tapCount m) fun x2 m1 =>
  some (some (.inl x2), m1)), (1, some (some (.inl (m.1 0 0 14)), m)), (2, some (some (.inl (m.1 1 0 4)), m)), (3, some (some (.inl (m.1 12 40 6)), m)), (4, some (some (.inl (m.1 0 0 17)), m)), (5, calI (JX11_logLength m) fun x4 m3 =>
  some (some (.inl x4), m3)), (6, some (some (.inl (m.1 0 0 16)), m))] (some (some (.inl (-1000000000)), m))
set_option maxRecDepth 20000 in
theorem CX11_count (a1 : Int32) (m : hM) : Cn mX11_count 2 [.inr (.inr (0, 0)), .inl a1] m (JX11_count a1 m) := by
  refine cn_of (by decide +kernel) (by simp only [List.map, vcat, List.sum_cons, List.sum_nil]; decide) ?_
  unfold JX11_count
  show G mX11_count 2 0 [(0, .inr (.inr (0, 0))), (1, .inl a1)] [] m _
  refine g_iload_n 1 (kdX11_count 0 rfl) rfl ?_
  refine g_table (offs := [43, 48, 53, 61, 69, 74, 79]) (dt := 85) (kdX11_count 1 rfl) (by simp only [swK]; decide) rfl (by decide) ⟨⟨44, by decide, ?_⟩, ⟨49, by decide, ?_⟩, ⟨54, by decide, ?_⟩, ⟨62, by decide, ?_⟩, ⟨70, by decide, ?_⟩, ⟨75, by decide, ?_⟩, ⟨80, by decide, ?_⟩, trivial⟩ ?_
  · refine g_aload_n 0 (kdX11_count 2 rfl) rfl ?_
    refine g_calI (ck_V (As := []) (S := []) (t := 0) (o := 0) (kdX11_count 3 rfl) iX11_tapCount lX11_159 rc_0 rfl rfl rfl (by decide) (by simp only [List.map, vcat, List.sum_cons, List.sum_nil]; decide)) (CX11_tapCount m) (fun x2 m1 => ?_)
    exact g_iret rfl (kdX11_count 4 rfl)
  · refine g_aload_n 0 (kdX11_count 5 rfl) rfl ?_
    refine g_get (v := .inl (m.1 0 0 14)) (kdX11_count 6 rfl) fX11_162 rfl ?_
    exact g_iret rfl (kdX11_count 7 rfl)
  · refine g_aload_n 0 (kdX11_count 8 rfl) rfl ?_
    refine g_get (v := .inr (.inr (1, 0))) (kdX11_count 9 rfl) fX11_10 rfl ?_
    refine g_get (v := .inl (m.1 1 0 4)) (kdX11_count 10 rfl) fX11_165 rfl ?_
    exact g_iret rfl (kdX11_count 11 rfl)
  · refine g_aload_n 0 (kdX11_count 12 rfl) rfl ?_
    refine g_get (v := .inr (.inr (12, 40))) (kdX11_count 13 rfl) fX11_32 rfl ?_
    refine g_get (v := .inl (m.1 12 40 6)) (kdX11_count 14 rfl) fX11_153 rfl ?_
    exact g_iret rfl (kdX11_count 15 rfl)
  · refine g_aload_n 0 (kdX11_count 16 rfl) rfl ?_
    refine g_get (v := .inl (m.1 0 0 17)) (kdX11_count 17 rfl) fX11_80 rfl ?_
    exact g_iret rfl (kdX11_count 18 rfl)
  · refine g_aload_n 0 (kdX11_count 19 rfl) rfl ?_
    refine g_calI (ck_V (As := []) (S := []) (t := 0) (o := 0) (kdX11_count 20 rfl) iX11_logLength lX11_150 rc_0 rfl rfl rfl (by decide) (by simp only [List.map, vcat, List.sum_cons, List.sum_nil]; decide)) (CX11_logLength m) (fun x4 m3 => ?_)
    exact g_iret rfl (kdX11_count 21 rfl)
  · refine g_aload_n 0 (kdX11_count 22 rfl) rfl ?_
    refine g_get (v := .inl (m.1 0 0 16)) (kdX11_count 23 rfl) fX11_168 rfl ?_
    exact g_iret rfl (kdX11_count 24 rfl)
  · refine g_ldc (kdX11_count 25 rfl) cX11_118 ?_
    exact g_iret rfl (kdX11_count 26 rfl)
def JX11_risk (a1 : Int32) (m : hM) : hR :=
  calI (JX11_within a1 0 9 m) fun x2 m1 =>
  if x2 = 0 then (jretZ 0 m1) else (if a1 = (m1.1 0 0 17) then (jretZ 0 m1) else (stI m1 0 0 17 a1 fun m3 =>
  jretZ 1 m3))
set_option maxRecDepth 20000 in
theorem CX11_risk (a1 : Int32) (m : hM) : Cn mX11_risk 1 [.inr (.inr (0, 0)), .inl a1] m (JX11_risk a1 m) := by
  refine cn_of (by decide +kernel) (by simp only [List.map, vcat, List.sum_cons, List.sum_nil]; decide) ?_
  unfold JX11_risk
  show G mX11_risk 1 0 [(0, .inr (.inr (0, 0))), (1, .inl a1)] [] m _
  refine g_iload_n 1 (kdX11_risk 0 rfl) rfl ?_
  refine g_iconst (v := 0) (kdX11_risk 1 rfl) (by decide) ?_
  refine g_bipush (v := 9) (kdX11_risk 2 rfl) (by decide) ?_
  refine g_calI (ck_S (As := [.inl a1, .inl 0, .inl 9]) (S := []) (kdX11_risk 3 rfl) iX11_within lX11_110 rfl rfl rfl (by decide) (by simp only [List.map, vcat, List.sum_cons, List.sum_nil]; decide)) (CX11_within a1 0 9 m) (fun x2 m1 => ?_)
  refine g_if_eq (tgt := 18) (kdX11_risk 4 rfl) (by decide) (fun _ => ?_) (fun _ => ?_)
  · refine g_iconst (v := 0) (kdX11_risk 9 rfl) (by decide) ?_
    exact g_zret rfl (kdX11_risk 10 rfl)
  · refine g_iload_n 1 (kdX11_risk 5 rfl) rfl ?_
    refine g_aload_n 0 (kdX11_risk 6 rfl) rfl ?_
    refine g_get (v := .inl (m1.1 0 0 17)) (kdX11_risk 7 rfl) fX11_80 rfl ?_
    refine g_icmp_ne (tgt := 20) (kdX11_risk 8 rfl) (by decide) (fun _ => ?_) (fun _ => ?_)
    · refine g_aload_n 0 (kdX11_risk 11 rfl) rfl ?_
      refine g_iload_n 1 (kdX11_risk 12 rfl) rfl ?_
      refine g_putI (kdX11_risk 13 rfl) fX11_80 rfl (fun m3 => ?_)
      refine g_iconst (v := 1) (kdX11_risk 14 rfl) (by decide) ?_
      exact g_zret rfl (kdX11_risk 15 rfl)
    · refine g_iconst (v := 0) (kdX11_risk 9 rfl) (by decide) ?_
      exact g_zret rfl (kdX11_risk 10 rfl)
def JX11_carryOut (n1 : Nat) (a2 : Int32) (a3 : Int32) (a4 : Int32) (m : hM) : hR :=
  swL a2 [(1, calI (JX8_putPhase n1 a3 m) fun x2 m1 =>
  some (some (.inl x2), m1)), (2, calI (JX8_putHeld n1 a3 m) fun x4 m3 =>
  some (some (.inl x4), m3)), (3, calI (JX8_putTap n1 a3 a4 m) fun x6 m5 =>
  some (some (.inl x6), m5)), (4, stZ m 12 n1 16 1 fun m7 =>
  some (some (.inl (m7.1 12 n1 6)), m7)), (5, calI (JX8_putNoise n1 a3 m) fun x9 m8 =>
  some (some (.inl x9), m8)), (6, calI (JX8_putTrain n1 a3 m) fun x11 m10 =>
  some (some (.inl x11), m10)), (7, calI (JX3_hunted 0 n1 m) fun x13 m12 =>
  stI m12 12 n1 7 x13 fun m14 =>
  some (some (.inl (m14.1 12 n1 7)), m14))] (some (some (.inl (-1)), m))
set_option maxRecDepth 20000 in
theorem CX11_carryOut (n1 : Nat) (a2 : Int32) (a3 : Int32) (a4 : Int32) (m : hM) : Cn mX11_carryOut 5 [.inr (.inr (0, 0)), .inr (.inr (12, n1)), .inl a2, .inl a3, .inl a4] m (JX11_carryOut n1 a2 a3 a4 m) := by
  refine cn_of (by decide +kernel) (by simp only [List.map, vcat, List.sum_cons, List.sum_nil]; decide) ?_
  unfold JX11_carryOut
  show G mX11_carryOut 5 0 [(0, .inr (.inr (0, 0))), (1, .inr (.inr (12, n1))), (2, .inl a2), (3, .inl a3), (4, .inl a4)] [] m _
  refine g_iload_n 2 (kdX11_carryOut 0 rfl) rfl ?_
  refine g_table (offs := [43, 49, 55, 96, 63, 69, 75]) (dt := 107) (kdX11_carryOut 1 rfl) (by simp only [swK]; decide) rfl (by decide) ⟨⟨44, by decide, ?_⟩, ⟨50, by decide, ?_⟩, ⟨56, by decide, ?_⟩, ⟨97, by decide, ?_⟩, ⟨64, by decide, ?_⟩, ⟨70, by decide, ?_⟩, ⟨76, by decide, ?_⟩, trivial⟩ ?_
  · refine g_aload_n 1 (kdX11_carryOut 2 rfl) rfl ?_
    refine g_iload_n 3 (kdX11_carryOut 3 rfl) rfl ?_
    refine g_calI (ck_V (As := [.inl a3]) (S := []) (t := 12) (o := n1) (kdX11_carryOut 4 rfl) iX8_putPhase lX11_408 rc_12 rfl rfl rfl (by decide) (by simp only [List.map, vcat, List.sum_cons, List.sum_nil]; decide)) (CX8_putPhase n1 a3 m) (fun x2 m1 => ?_)
    exact g_iret rfl (kdX11_carryOut 5 rfl)
  · refine g_aload_n 1 (kdX11_carryOut 6 rfl) rfl ?_
    refine g_iload_n 3 (kdX11_carryOut 7 rfl) rfl ?_
    refine g_calI (ck_V (As := [.inl a3]) (S := []) (t := 12) (o := n1) (kdX11_carryOut 8 rfl) iX8_putHeld lX11_411 rc_12 rfl rfl rfl (by decide) (by simp only [List.map, vcat, List.sum_cons, List.sum_nil]; decide)) (CX8_putHeld n1 a3 m) (fun x4 m3 => ?_)
    exact g_iret rfl (kdX11_carryOut 9 rfl)
  · refine g_aload_n 1 (kdX11_carryOut 10 rfl) rfl ?_
    refine g_iload_n 3 (kdX11_carryOut 11 rfl) rfl ?_
    refine g_iload 4 (kdX11_carryOut 12 rfl) rfl ?_
    refine g_calI (ck_V (As := [.inl a3, .inl a4]) (S := []) (t := 12) (o := n1) (kdX11_carryOut 13 rfl) iX8_putTap lX11_414 rc_12 rfl rfl rfl (by decide) (by simp only [List.map, vcat, List.sum_cons, List.sum_nil]; decide)) (CX8_putTap n1 a3 a4 m) (fun x6 m5 => ?_)
    exact g_iret rfl (kdX11_carryOut 14 rfl)
  · refine g_aload_n 1 (kdX11_carryOut 34 rfl) rfl ?_
    refine g_iconst (v := 1) (kdX11_carryOut 35 rfl) (by decide) ?_
    refine g_putZ (kdX11_carryOut 36 rfl) fX11_375 rfl (fun m7 => ?_)
    refine g_aload_n 1 (kdX11_carryOut 37 rfl) rfl ?_
    refine g_get (v := .inl (m7.1 12 n1 6)) (kdX11_carryOut 38 rfl) fX11_153 rfl ?_
    exact g_iret rfl (kdX11_carryOut 39 rfl)
  · refine g_aload_n 1 (kdX11_carryOut 15 rfl) rfl ?_
    refine g_iload_n 3 (kdX11_carryOut 16 rfl) rfl ?_
    refine g_calI (ck_V (As := [.inl a3]) (S := []) (t := 12) (o := n1) (kdX11_carryOut 17 rfl) iX8_putNoise lX11_417 rc_12 rfl rfl rfl (by decide) (by simp only [List.map, vcat, List.sum_cons, List.sum_nil]; decide)) (CX8_putNoise n1 a3 m) (fun x9 m8 => ?_)
    exact g_iret rfl (kdX11_carryOut 18 rfl)
  · refine g_aload_n 1 (kdX11_carryOut 19 rfl) rfl ?_
    refine g_iload_n 3 (kdX11_carryOut 20 rfl) rfl ?_
    refine g_calI (ck_V (As := [.inl a3]) (S := []) (t := 12) (o := n1) (kdX11_carryOut 21 rfl) iX8_putTrain lX11_420 rc_12 rfl rfl rfl (by decide) (by simp only [List.map, vcat, List.sum_cons, List.sum_nil]; decide)) (CX8_putTrain n1 a3 m) (fun x11 m10 => ?_)
    exact g_iret rfl (kdX11_carryOut 22 rfl)
  · refine g_aload_n 1 (kdX11_carryOut 23 rfl) rfl ?_
    refine g_aload_n 0 (kdX11_carryOut 24 rfl) rfl ?_
    refine g_get (v := .inr (.inr (24, 0))) (kdX11_carryOut 25 rfl) fX11_58 rfl ?_
    refine g_aload_n 0 (kdX11_carryOut 26 rfl) rfl ?_
    refine g_get (v := .inr (.inr (4, 0))) (kdX11_carryOut 27 rfl) fX11_19 rfl ?_
    refine g_aload_n 1 (kdX11_carryOut 28 rfl) rfl ?_
    refine g_calI (ck_V (As := [.inr (.inr (4, 0)), .inr (.inr (12, n1))]) (S := [.inr (.inr (12, n1))]) (t := 24) (o := 0) (kdX11_carryOut 29 rfl) iX3_hunted lX11_384 rc_24 rfl rfl rfl (by decide) (by simp only [List.map, vcat, List.sum_cons, List.sum_nil]; decide)) (CX3_hunted 0 n1 m) (fun x13 m12 => ?_)
    refine g_putI (kdX11_carryOut 30 rfl) fX11_328 rfl (fun m14 => ?_)
    refine g_aload_n 1 (kdX11_carryOut 31 rfl) rfl ?_
    refine g_get (v := .inl (m14.1 12 n1 7)) (kdX11_carryOut 32 rfl) fX11_328 rfl ?_
    exact g_iret rfl (kdX11_carryOut 33 rfl)
  · refine g_iconst (v := (-1)) (kdX11_carryOut 40 rfl) (by decide) ?_
    exact g_iret rfl (kdX11_carryOut 41 rfl)
def JX11_pastPlace (a1 : Int32) (m : hM) : hR :=
  calI (JJ9_floorMod_7cf53 ((m.1 0 0 15) + a1) 40 m) fun x2 m1 =>
  some (some (.inl x2), m1)
set_option maxRecDepth 20000 in
theorem CX11_pastPlace (a1 : Int32) (m : hM) : Cn mX11_pastPlace 1 [.inr (.inr (0, 0)), .inl a1] m (JX11_pastPlace a1 m) := by
  refine cn_of (by decide +kernel) (by simp only [List.map, vcat, List.sum_cons, List.sum_nil]; decide) ?_
  unfold JX11_pastPlace
  show G mX11_pastPlace 1 0 [(0, .inr (.inr (0, 0))), (1, .inl a1)] [] m _
  refine g_aload_n 0 (kdX11_pastPlace 0 rfl) rfl ?_
  refine g_get (v := .inl (m.1 0 0 15)) (kdX11_pastPlace 1 rfl) fX11_423 rfl ?_
  refine g_iload_n 1 (kdX11_pastPlace 2 rfl) rfl ?_
  refine g_iadd (kdX11_pastPlace 3 rfl) ?_
  refine g_bipush (v := 40) (kdX11_pastPlace 4 rfl) (by decide) ?_
  refine g_calI (ck_S (As := [.inl ((m.1 0 0 15) + a1), .inl 40]) (S := []) (kdX11_pastPlace 5 rfl) iJ9_floorMod_7cf53 lX11_426 rfl rfl rfl (by decide) (by simp only [List.map, vcat, List.sum_cons, List.sum_nil]; decide)) (CJ9_floorMod_7cf53 ((m.1 0 0 15) + a1) 40 m) (fun x2 m1 => ?_)
  exact g_iret rfl (kdX11_pastPlace 6 rfl)
def JX11_remember  (m : hM) : hR :=
  calI (JX11_pastPlace (m.1 0 0 16) m) fun x2 m1 =>
  aal 39 x2 fun j3 =>
  calV (JX8_copy j3 40 m1) fun m4 =>
  if 40 ≤ (m4.1 0 0 16) then (calI (JX11_pastPlace 1 m4) fun x6 m5 =>
  stI m5 0 0 15 x6 fun m7 =>
  some (none, m7)) else (stI m4 0 0 16 ((m4.1 0 0 16) + 1) fun m8 =>
  some (none, m8))
set_option maxRecDepth 20000 in
theorem CX11_remember  (m : hM) : Cn mX11_remember 3 [.inr (.inr (0, 0))] m (JX11_remember  m) := by
  refine cn_of (by decide +kernel) (by simp only [List.map, vcat, List.sum_cons, List.sum_nil]; decide) ?_
  unfold JX11_remember
  show G mX11_remember 3 0 [(0, .inr (.inr (0, 0)))] [] m _
  refine g_aload_n 0 (kdX11_remember 0 rfl) rfl ?_
  refine g_get (v := .inr (.inr (39, 0))) (kdX11_remember 1 rfl) fX11_36 rfl ?_
  refine g_aload_n 0 (kdX11_remember 2 rfl) rfl ?_
  refine g_aload_n 0 (kdX11_remember 3 rfl) rfl ?_
  refine g_get (v := .inl (m.1 0 0 16)) (kdX11_remember 4 rfl) fX11_168 rfl ?_
  refine g_calI (ck_V (As := [.inl (m.1 0 0 16)]) (S := [.inr (.inr (39, 0))]) (t := 0) (o := 0) (kdX11_remember 5 rfl) iX11_pastPlace lX11_189 rc_0 rfl rfl rfl (by decide) (by simp only [List.map, vcat, List.sum_cons, List.sum_nil]; decide)) (CX11_pastPlace (m.1 0 0 16) m) (fun x2 m1 => ?_)
  refine g_aald (fun j3 => (12, j3)) (fun _ => rfl) (kdX11_remember 6 rfl) (fun j3 => ?_)
  refine g_aload_n 0 (kdX11_remember 7 rfl) rfl ?_
  refine g_get (v := .inr (.inr (12, 40))) (kdX11_remember 8 rfl) fX11_32 rfl ?_
  refine g_calV (ck_V (As := [.inr (.inr (12, 40))]) (S := []) (t := 12) (o := j3) (kdX11_remember 9 rfl) iX8_copy lX11_192 rc_12 rfl rfl rfl (by decide) (by simp only [List.map, vcat, List.sum_cons, List.sum_nil]; decide)) (CX8_copy j3 40 m1) (fun m4 => ?_)
  refine g_aload_n 0 (kdX11_remember 10 rfl) rfl ?_
  refine g_get (v := .inl (m4.1 0 0 16)) (kdX11_remember 11 rfl) fX11_168 rfl ?_
  refine g_bipush (v := 40) (kdX11_remember 12 rfl) (by decide) ?_
  refine g_icmp_ge (tgt := 42) (kdX11_remember 13 rfl) (by decide) (fun _ => ?_) (fun _ => ?_)
  · refine g_aload_n 0 (kdX11_remember 21 rfl) rfl ?_
    refine g_aload_n 0 (kdX11_remember 22 rfl) rfl ?_
    refine g_iconst (v := 1) (kdX11_remember 23 rfl) (by decide) ?_
    refine g_calI (ck_V (As := [.inl 1]) (S := [.inr (.inr (0, 0))]) (t := 0) (o := 0) (kdX11_remember 24 rfl) iX11_pastPlace lX11_189 rc_0 rfl rfl rfl (by decide) (by simp only [List.map, vcat, List.sum_cons, List.sum_nil]; decide)) (CX11_pastPlace 1 m4) (fun x6 m5 => ?_)
    refine g_putI (kdX11_remember 25 rfl) fX11_423 rfl (fun m7 => ?_)
    exact g_vret rfl (kdX11_remember 26 rfl)
  · refine g_aload_n 0 (kdX11_remember 14 rfl) rfl ?_
    refine g_dup (kdX11_remember 15 rfl) rfl ?_
    refine g_get (v := .inl (m4.1 0 0 16)) (kdX11_remember 16 rfl) fX11_168 rfl ?_
    refine g_iconst (v := 1) (kdX11_remember 17 rfl) (by decide) ?_
    refine g_iadd (kdX11_remember 18 rfl) ?_
    refine g_putI (kdX11_remember 19 rfl) fX11_168 rfl (fun m8 => ?_)
    refine g_goto (tgt := 51) (kdX11_remember 20 rfl) (by decide) ?_
    exact g_vret rfl (kdX11_remember 26 rfl)
def JX11_sendLogged_59 (K4 : Int32 → Int32 → hM → hR) (K65 : Int32 → hM → hR) (v1 : Int32) (v2 : Int32) (v3 : Int32) (m : hM) : hR :=
  K4 v2 (v3 + 1) m
set_option maxRecDepth 20000 in
theorem BX11_sendLogged_59 (v1 : Int32) (K4 : Int32 → Int32 → hM → hR) (K65 : Int32 → hM → hR) (h4 : ∀ (v2 : Int32) (v3 : Int32) (m : hM), G mX11_sendLogged 5 4 [(0, .inr (.inr (0, 0))), (1, .inl v1), (2, .inl v2), (3, .inl v3)] [] m (K4 v2 v3 m)) (h65 : ∀ (v2 : Int32) (m : hM), G mX11_sendLogged 5 65 [(2, .inl v2)] [] m (K65 v2 m)) (v2 : Int32) (v3 : Int32) (m : hM) : G mX11_sendLogged 5 59 [(0, .inr (.inr (0, 0))), (1, .inl v1), (2, .inl v2), (3, .inl v3)] [] m (JX11_sendLogged_59 K4 K65 v1 v2 v3 m) := by
  unfold JX11_sendLogged_59
  refine g_iinc (v := v3 + 1) (L2 := [(3, .inl (v3 + 1)), (0, .inr (.inr (0, 0))), (1, .inl v1), (2, .inl v2)]) 3 (kdX11_sendLogged 29 rfl) rfl rfl rfl (by decide) ?_
  refine g_goto (tgt := 4) (kdX11_sendLogged 30 rfl) (by decide) ?_
  exact g_fgt [1, 2, 3, 0] rfl (h4 v2 (v3 + 1) m)
def bJX11_sendLogged_4 (K4 : Int32 → Int32 → hM → hR) (K65 : Int32 → hM → hR) (v1 : Int32) (v2 : Int32) (v3 : Int32) (m : hM) : hR :=
  if v1 ≤ v3 then (K65 v2 m) else (calV (JX8_pass 40 0 m) fun m1 =>
  calV (JX5_keep 0 ((m1.1 12 40 6) - 1) 40 m1) fun m2 =>
  calI (JX10_latestIsWrong 40 m2) fun x4 m3 =>
  if x4 = 0 then (JX11_sendLogged_59 K4 K65 v1 v2 v3 m3) else (JX11_sendLogged_59 K4 K65 v1 (v2 + 1) v3 m3))
set_option maxRecDepth 20000 in
theorem BbJX11_sendLogged_4 (K4 : Int32 → Int32 → hM → hR) (K65 : Int32 → hM → hR) (v1 : Int32) (h4 : ∀ (v2 : Int32) (v3 : Int32) (m : hM), G mX11_sendLogged 5 4 [(0, .inr (.inr (0, 0))), (1, .inl v1), (2, .inl v2), (3, .inl v3)] [] m (K4 v2 v3 m)) (h65 : ∀ (v2 : Int32) (m : hM), G mX11_sendLogged 5 65 [(2, .inl v2)] [] m (K65 v2 m)) (v2 : Int32) (v3 : Int32) (m : hM) : G mX11_sendLogged 5 4 [(0, .inr (.inr (0, 0))), (1, .inl v1), (2, .inl v2), (3, .inl v3)] [] m (bJX11_sendLogged_4 K4 K65 v1 v2 v3 m) := by
  unfold bJX11_sendLogged_4
  refine g_iload_n 3 (kdX11_sendLogged 4 rfl) rfl ?_
  refine g_iload_n 1 (kdX11_sendLogged 5 rfl) rfl ?_
  refine g_icmp_ge (tgt := 65) (kdX11_sendLogged 6 rfl) (by decide) (fun _ => ?_) (fun _ => ?_)
  · exact g_fgt [2] rfl (h65 v2 m)
  · refine g_aload_n 0 (kdX11_sendLogged 7 rfl) rfl ?_
    refine g_get (v := .inr (.inr (12, 40))) (kdX11_sendLogged 8 rfl) fX11_32 rfl ?_
    refine g_aload_n 0 (kdX11_sendLogged 9 rfl) rfl ?_
    refine g_get (v := .inr (.inr (4, 0))) (kdX11_sendLogged 10 rfl) fX11_19 rfl ?_
    refine g_calV (ck_V (As := [.inr (.inr (4, 0))]) (S := []) (t := 12) (o := 40) (kdX11_sendLogged 11 rfl) iX8_pass lX11_397 rc_12 rfl rfl rfl (by decide) (by simp only [List.map, vcat, List.sum_cons, List.sum_nil]; decide)) (CX8_pass 40 0 m) (fun m1 => ?_)
    refine g_aload_n 0 (kdX11_sendLogged 12 rfl) rfl ?_
    refine g_get (v := .inr (.inr (20, 0))) (kdX11_sendLogged 13 rfl) fX11_45 rfl ?_
    refine g_aload_n 0 (kdX11_sendLogged 14 rfl) rfl ?_
    refine g_get (v := .inr (.inr (12, 40))) (kdX11_sendLogged 15 rfl) fX11_32 rfl ?_
    refine g_get (v := .inl (m1.1 12 40 6)) (kdX11_sendLogged 16 rfl) fX11_153 rfl ?_
    refine g_iconst (v := 1) (kdX11_sendLogged 17 rfl) (by decide) ?_
    refine g_isub (kdX11_sendLogged 18 rfl) ?_
    refine g_aload_n 0 (kdX11_sendLogged 19 rfl) rfl ?_
    refine g_get (v := .inr (.inr (12, 40))) (kdX11_sendLogged 20 rfl) fX11_32 rfl ?_
    refine g_get (v := .inr (.inr (18, 40))) (kdX11_sendLogged 21 rfl) fX11_213 rfl ?_
    refine g_calV (ck_V (As := [.inl ((m1.1 12 40 6) - 1), .inr (.inr (18, 40))]) (S := []) (t := 20) (o := 0) (kdX11_sendLogged 22 rfl) iX5_keep lX11_400 rc_20 rfl rfl rfl (by decide) (by simp only [List.map, vcat, List.sum_cons, List.sum_nil]; decide)) (CX5_keep 0 ((m1.1 12 40 6) - 1) 40 m1) (fun m2 => ?_)
    refine g_aload_n 0 (kdX11_sendLogged 23 rfl) rfl ?_
    refine g_get (v := .inr (.inr (12, 40))) (kdX11_sendLogged 24 rfl) fX11_32 rfl ?_
    refine g_get (v := .inr (.inr (18, 40))) (kdX11_sendLogged 25 rfl) fX11_213 rfl ?_
    refine g_calI (ck_V (As := []) (S := []) (t := 18) (o := 40) (kdX11_sendLogged 26 rfl) iX10_latestIsWrong lX11_404 rc_18 rfl rfl rfl (by decide) (by simp only [List.map, vcat, List.sum_cons, List.sum_nil]; decide)) (CX10_latestIsWrong 40 m2) (fun x4 m3 => ?_)
    refine g_if_eq (tgt := 59) (kdX11_sendLogged 27 rfl) (by decide) (fun _ => ?_) (fun _ => ?_)
    · exact g_fgt [0, 1, 2, 3] rfl (BX11_sendLogged_59 v1 _ _ h4 h65 v2 v3 m3)
    · refine g_iinc (v := v2 + 1) (L2 := [(2, .inl (v2 + 1)), (0, .inr (.inr (0, 0))), (1, .inl v1), (3, .inl v3)]) 2 (kdX11_sendLogged 28 rfl) rfl rfl rfl (by decide) ?_
      exact g_fgt [1, 2, 0, 3] rfl (BX11_sendLogged_59 v1 _ _ h4 h65 (v2 + 1) v3 m3)
def JX11_sendLogged_4 (K65 : Int32 → hM → hR) (v1 : Int32) : Nat → Int32 → Int32 → hM → hR
  | 0, _, _, _ => none
  | f + 1, v2, v3, m => bJX11_sendLogged_4 (fun v2 v3 m => JX11_sendLogged_4 K65 v1 f v2 v3 m) K65 v1 v2 v3 m
theorem BJX11_sendLogged_4 (K65 : Int32 → hM → hR) (v1 : Int32) (h65 : ∀ (v2 : Int32) (m : hM), G mX11_sendLogged 5 65 [(2, .inl v2)] [] m (K65 v2 m)) : ∀ (f : Nat) (v2 : Int32) (v3 : Int32) (m : hM), G mX11_sendLogged 5 4 [(0, .inr (.inr (0, 0))), (1, .inl v1), (2, .inl v2), (3, .inl v3)] [] m (JX11_sendLogged_4 K65 v1 f v2 v3 m)
  | 0, _, _, _ => g_none
  | f + 1, v2, v3, m => BbJX11_sendLogged_4  _ K65 v1 (fun v2 v3 m => BJX11_sendLogged_4  K65 v1 h65 f v2 v3 m) h65 v2 v3 m
def JX11_sendLogged (a1 : Int32) (m : hM) : hR :=
  JX11_sendLogged_4 (fun v2 m5 => some (some (.inl v2), m5)) a1 FU 0 0 m
set_option maxRecDepth 20000 in
theorem CX11_sendLogged (a1 : Int32) (m : hM) : Cn mX11_sendLogged 5 [.inr (.inr (0, 0)), .inl a1] m (JX11_sendLogged a1 m) := by
  refine cn_of (by decide +kernel) (by simp only [List.map, vcat, List.sum_cons, List.sum_nil]; decide) ?_
  unfold JX11_sendLogged
  show G mX11_sendLogged 5 0 [(0, .inr (.inr (0, 0))), (1, .inl a1)] [] m _
  refine g_iconst (v := 0) (kdX11_sendLogged 0 rfl) (by decide) ?_
  refine g_istore_n (L2 := [(2, .inl 0), (0, .inr (.inr (0, 0))), (1, .inl a1)]) (kdX11_sendLogged 1 rfl) rfl (by decide) ?_
  refine g_iconst (v := 0) (kdX11_sendLogged 2 rfl) (by decide) ?_
  refine g_istore_n (L2 := [(3, .inl 0), (2, .inl 0), (0, .inr (.inr (0, 0))), (1, .inl a1)]) (kdX11_sendLogged 3 rfl) rfl (by decide) ?_
  refine g_fgt [2, 3, 1, 0] rfl (BJX11_sendLogged_4  _ a1 ?_ FU 0 0 m)
  · intro v2 m5
    refine g_iload_n 0 (kdX11_sendLogged 31 rfl) rfl ?_
    exact g_iret rfl (kdX11_sendLogged 32 rfl)
def JX11_act (a1 : Int32) (a2 : Int32) (a3 : Int32) (m : hM) : hR :=
  calV (JX11_remember m) fun m1 =>
  if a1 = 0 then (calI (JX11_sendLogged a2 m1) fun x5 m4 =>
  some (some (.inl x5), m4)) else (calI (JX11_carryOut 40 a1 a2 a3 m1) fun x3 m2 =>
  some (some (.inl x3), m2))
set_option maxRecDepth 20000 in
theorem CX11_act (a1 : Int32) (a2 : Int32) (a3 : Int32) (m : hM) : Cn mX11_act 6 [.inr (.inr (0, 0)), .inl a1, .inl a2, .inl a3] m (JX11_act a1 a2 a3 m) := by
  refine cn_of (by decide +kernel) (by simp only [List.map, vcat, List.sum_cons, List.sum_nil]; decide) ?_
  unfold JX11_act
  show G mX11_act 6 0 [(0, .inr (.inr (0, 0))), (1, .inl a1), (2, .inl a2), (3, .inl a3)] [] m _
  refine g_aload_n 0 (kdX11_act 0 rfl) rfl ?_
  refine g_calV (ck_V (As := []) (S := []) (t := 0) (o := 0) (kdX11_act 1 rfl) iX11_remember lX11_178 rc_0 rfl rfl rfl (by decide) (by simp only [List.map, vcat, List.sum_cons, List.sum_nil]; decide)) (CX11_remember m) (fun m1 => ?_)
  refine g_iload_n 1 (kdX11_act 2 rfl) rfl ?_
  refine g_if_ne (tgt := 14) (kdX11_act 3 rfl) (by decide) (fun _ => ?_) (fun _ => ?_)
  · refine g_aload_n 0 (kdX11_act 8 rfl) rfl ?_
    refine g_aload_n 0 (kdX11_act 9 rfl) rfl ?_
    refine g_get (v := .inr (.inr (12, 40))) (kdX11_act 10 rfl) fX11_32 rfl ?_
    refine g_iload_n 1 (kdX11_act 11 rfl) rfl ?_
    refine g_iload_n 2 (kdX11_act 12 rfl) rfl ?_
    refine g_iload_n 3 (kdX11_act 13 rfl) rfl ?_
    refine g_calI (ck_V (As := [.inr (.inr (12, 40)), .inl a1, .inl a2, .inl a3]) (S := []) (t := 0) (o := 0) (kdX11_act 14 rfl) iX11_carryOut lX11_391 rc_0 rfl rfl rfl (by decide) (by simp only [List.map, vcat, List.sum_cons, List.sum_nil]; decide)) (CX11_carryOut 40 a1 a2 a3 m1) (fun x3 m2 => ?_)
    exact g_iret rfl (kdX11_act 15 rfl)
  · refine g_aload_n 0 (kdX11_act 4 rfl) rfl ?_
    refine g_iload_n 2 (kdX11_act 5 rfl) rfl ?_
    refine g_calI (ck_V (As := [.inl a2]) (S := []) (t := 0) (o := 0) (kdX11_act 6 rfl) iX11_sendLogged lX11_394 rc_0 rfl rfl rfl (by decide) (by simp only [List.map, vcat, List.sum_cons, List.sum_nil]; decide)) (CX11_sendLogged a2 m1) (fun x5 m4 => ?_)
    exact g_iret rfl (kdX11_act 7 rfl)
def JX11_isTap (a1 : Int32) (m : hM) : hR :=
  calI (JX11_tapCount m) fun x2 m1 =>
  calI (JJ9_min_7cf53 x2 6 m1) fun x4 m3 =>
  calI (JX11_within a1 0 (x4 - 1) m3) fun x6 m5 =>
  jretZ x6 m5
set_option maxRecDepth 20000 in
theorem CX11_isTap (a1 : Int32) (m : hM) : Cn mX11_isTap 2 [.inr (.inr (0, 0)), .inl a1] m (JX11_isTap a1 m) := by
  refine cn_of (by decide +kernel) (by simp only [List.map, vcat, List.sum_cons, List.sum_nil]; decide) ?_
  unfold JX11_isTap
  show G mX11_isTap 2 0 [(0, .inr (.inr (0, 0))), (1, .inl a1)] [] m _
  refine g_iload_n 1 (kdX11_isTap 0 rfl) rfl ?_
  refine g_iconst (v := 0) (kdX11_isTap 1 rfl) (by decide) ?_
  refine g_aload_n 0 (kdX11_isTap 2 rfl) rfl ?_
  refine g_calI (ck_V (As := []) (S := [.inl 0, .inl a1]) (t := 0) (o := 0) (kdX11_isTap 3 rfl) iX11_tapCount lX11_159 rc_0 rfl rfl rfl (by decide) (by simp only [List.map, vcat, List.sum_cons, List.sum_nil]; decide)) (CX11_tapCount m) (fun x2 m1 => ?_)
  refine g_bipush (v := 6) (kdX11_isTap 4 rfl) (by decide) ?_
  refine g_calI (ck_S (As := [.inl x2, .inl 6]) (S := [.inl 0, .inl a1]) (kdX11_isTap 5 rfl) iJ9_min_7cf53 lX11_361 rfl rfl rfl (by decide) (by simp only [List.map, vcat, List.sum_cons, List.sum_nil]; decide)) (CJ9_min_7cf53 x2 6 m1) (fun x4 m3 => ?_)
  refine g_iconst (v := 1) (kdX11_isTap 6 rfl) (by decide) ?_
  refine g_isub (kdX11_isTap 7 rfl) ?_
  refine g_calI (ck_S (As := [.inl a1, .inl 0, .inl (x4 - 1)]) (S := []) (kdX11_isTap 8 rfl) iX11_within lX11_110 rfl rfl rfl (by decide) (by simp only [List.map, vcat, List.sum_cons, List.sum_nil]; decide)) (CX11_within a1 0 (x4 - 1) m3) (fun x6 m5 => ?_)
  exact g_zret rfl (kdX11_isTap 9 rfl)
def JX11_refusalToSet (a1 : Int32) (a2 : Int32) (a3 : Int32) (a4 : Int32) (m : hM) : hR :=
  calI (JX11_within a1 a2 a3 m) fun x2 m1 =>
  if x2 = 0 then (some (some (.inl 1), m1)) else (if a1 = a4 then (some (some (.inl 2), m1)) else (some (some (.inl (-1)), m1)))
set_option maxRecDepth 20000 in
theorem CX11_refusalToSet (a1 : Int32) (a2 : Int32) (a3 : Int32) (a4 : Int32) (m : hM) : Cn mX11_refusalToSet 1 [.inl a1, .inl a2, .inl a3, .inl a4] m (JX11_refusalToSet a1 a2 a3 a4 m) := by
  refine cn_of (by decide +kernel) (by simp only [List.map, vcat, List.sum_cons, List.sum_nil]; decide) ?_
  unfold JX11_refusalToSet
  show G mX11_refusalToSet 1 0 [(0, .inl a1), (1, .inl a2), (2, .inl a3), (3, .inl a4)] [] m _
  refine g_iload_n 0 (kdX11_refusalToSet 0 rfl) rfl ?_
  refine g_iload_n 1 (kdX11_refusalToSet 1 rfl) rfl ?_
  refine g_iload_n 2 (kdX11_refusalToSet 2 rfl) rfl ?_
  refine g_calI (ck_S (As := [.inl a1, .inl a2, .inl a3]) (S := []) (kdX11_refusalToSet 3 rfl) iX11_within lX11_110 rfl rfl rfl (by decide) (by simp only [List.map, vcat, List.sum_cons, List.sum_nil]; decide)) (CX11_within a1 a2 a3 m) (fun x2 m1 => ?_)
  refine g_if_ne (tgt := 11) (kdX11_refusalToSet 4 rfl) (by decide) (fun _ => ?_) (fun _ => ?_)
  · refine g_iload_n 0 (kdX11_refusalToSet 7 rfl) rfl ?_
    refine g_iload_n 3 (kdX11_refusalToSet 8 rfl) rfl ?_
    refine g_icmp_ne (tgt := 20) (kdX11_refusalToSet 9 rfl) (by decide) (fun _ => ?_) (fun _ => ?_)
    · refine g_iconst (v := (-1)) (kdX11_refusalToSet 12 rfl) (by decide) ?_
      exact g_iret rfl (kdX11_refusalToSet 13 rfl)
    · refine g_iconst (v := 2) (kdX11_refusalToSet 10 rfl) (by decide) ?_
      refine g_goto (tgt := 21) (kdX11_refusalToSet 11 rfl) (by decide) ?_
      exact g_iret rfl (kdX11_refusalToSet 13 rfl)
  · refine g_iconst (v := 1) (kdX11_refusalToSet 5 rfl) (by decide) ?_
    exact g_iret rfl (kdX11_refusalToSet 6 rfl)
def JX11_refusal_112 (v100 : Int32) (v101 : Int32) (v102 : Int32) (v103 : Int32) (m : hM) : hR :=
  calI (JX11_refusalToSet v103 v102 v101 v100 m) fun x6 m5 =>
  some (some (.inl x6), m5)
set_option maxRecDepth 20000 in
theorem BX11_refusal_112 (v100 : Int32) (v101 : Int32) (v102 : Int32) (v103 : Int32) (m : hM) : G mX11_refusal 5 112 [] [.inl v100, .inl v101, .inl v102, .inl v103] m (JX11_refusal_112 v100 v101 v102 v103 m) := by
  unfold JX11_refusal_112
  refine g_calI (ck_S (As := [.inl v103, .inl v102, .inl v101, .inl v100]) (S := []) (kdX11_refusal 40 rfl) iX11_refusalToSet lX11_368 rfl rfl rfl (by decide) (by simp only [List.map, vcat, List.sum_cons, List.sum_nil]; decide)) (CX11_refusalToSet v103 v102 v101 v100 m) (fun x6 m5 => ?_)
  exact g_iret rfl (kdX11_refusal 41 rfl)
def JX11_refusal (n1 : Nat) (a2 : Int32) (a3 : Int32) (a4 : Int32) (m : hM) : hR :=
  if (m.1 0 0 12) = 0 then (some (some (.inl 0), m)) else (swL a2 [(0, calI (JX11_within a3 1 60 m) fun x2 m1 =>
  if x2 = 0 then (some (some (.inl 1), m1)) else (if ((m1.1 12 n1 6) + a3) ≤ 9999 then (some (some (.inl (-1)), m1)) else (some (some (.inl 3), m1)))), (1, calI (JX11_refusalToSet a3 0 3 (m.1 12 n1 7) m) fun x4 m3 =>
  some (some (.inl x4), m3)), (2, if (m.1 12 n1 15) = 0 then (JX11_refusal_112 0 1 0 a3 m) else (JX11_refusal_112 1 1 0 a3 m)), (3, calI (JX11_isTap a3 m) fun x8 m7 =>
  if x8 = 0 then (some (some (.inl 0), m7)) else (ald m7 13 n1 a3 fun x9 =>
  calI (JX11_refusalToSet a4 (-255) 255 x9 m7) fun x11 m10 =>
  some (some (.inl x11), m10))), (4, if (m.1 12 n1 16) = 0 then (some (some (.inl (-1)), m)) else (some (some (.inl 2), m))), (5, calI (JX11_refusalToSet a3 0 4 (m.1 12 n1 12) m) fun x13 m12 =>
  some (some (.inl x13), m12)), (6, calI (JX11_refusalToSet a3 0 99 (m.1 12 n1 13) m) fun x15 m14 =>
  some (some (.inl x15), m14)), (7, calI (JX3_hunted 0 n1 m) fun x17 m16 =>
  if x17 = (m16.1 12 n1 7) then (some (some (.inl 2), m16)) else (some (some (.inl (-1)), m16)))] (some (some (.inl 0), m)))
set_option maxRecDepth 20000 in
theorem CX11_refusal (n1 : Nat) (a2 : Int32) (a3 : Int32) (a4 : Int32) (m : hM) : Cn mX11_refusal 5 [.inr (.inr (0, 0)), .inr (.inr (12, n1)), .inl a2, .inl a3, .inl a4] m (JX11_refusal n1 a2 a3 a4 m) := by
  refine cn_of (by decide +kernel) (by simp only [List.map, vcat, List.sum_cons, List.sum_nil]; decide) ?_
  unfold JX11_refusal
  show G mX11_refusal 5 0 [(0, .inr (.inr (0, 0))), (1, .inr (.inr (12, n1))), (2, .inl a2), (3, .inl a3), (4, .inl a4)] [] m _
  refine g_aload_n 0 (kdX11_refusal 0 rfl) rfl ?_
  refine g_get (v := .inl (m.1 0 0 12)) (kdX11_refusal 1 rfl) fX11_106 rfl ?_
  refine g_if_ne (tgt := 9) (kdX11_refusal 2 rfl) (by decide) (fun _ => ?_) (fun _ => ?_)
  · refine g_iload_n 2 (kdX11_refusal 5 rfl) rfl ?_
    refine g_table (offs := [46, 76, 87, 106, 136, 149, 160, 172]) (dt := 207) (kdX11_refusal 6 rfl) (by simp only [swK]; decide) rfl (by decide) ⟨⟨56, by decide, ?_⟩, ⟨86, by decide, ?_⟩, ⟨97, by decide, ?_⟩, ⟨116, by decide, ?_⟩, ⟨146, by decide, ?_⟩, ⟨159, by decide, ?_⟩, ⟨170, by decide, ?_⟩, ⟨182, by decide, ?_⟩, trivial⟩ ?_
    · refine g_iload_n 3 (kdX11_refusal 7 rfl) rfl ?_
      refine g_iconst (v := 1) (kdX11_refusal 8 rfl) (by decide) ?_
      refine g_bipush (v := 60) (kdX11_refusal 9 rfl) (by decide) ?_
      refine g_calI (ck_S (As := [.inl a3, .inl 1, .inl 60]) (S := []) (kdX11_refusal 10 rfl) iX11_within lX11_110 rfl rfl rfl (by decide) (by simp only [List.map, vcat, List.sum_cons, List.sum_nil]; decide)) (CX11_within a3 1 60 m) (fun x2 m1 => ?_)
      refine g_if_ne (tgt := 68) (kdX11_refusal 11 rfl) (by decide) (fun _ => ?_) (fun _ => ?_)
      · refine g_aload_n 1 (kdX11_refusal 14 rfl) rfl ?_
        refine g_get (v := .inl (m1.1 12 n1 6)) (kdX11_refusal 15 rfl) fX11_153 rfl ?_
        refine g_iload_n 3 (kdX11_refusal 16 rfl) rfl ?_
        refine g_iadd (kdX11_refusal 17 rfl) ?_
        refine g_sipush (v := 9999) (kdX11_refusal 18 rfl) (by decide) ?_
        refine g_icmp_le (tgt := 84) (kdX11_refusal 19 rfl) (by decide) (fun _ => ?_) (fun _ => ?_)
        · refine g_iconst (v := (-1)) (kdX11_refusal 22 rfl) (by decide) ?_
          exact g_iret rfl (kdX11_refusal 23 rfl)
        · refine g_iconst (v := 3) (kdX11_refusal 20 rfl) (by decide) ?_
          refine g_goto (tgt := 85) (kdX11_refusal 21 rfl) (by decide) ?_
          exact g_iret rfl (kdX11_refusal 23 rfl)
      · refine g_iconst (v := 1) (kdX11_refusal 12 rfl) (by decide) ?_
        exact g_iret rfl (kdX11_refusal 13 rfl)
    · refine g_iload_n 3 (kdX11_refusal 24 rfl) rfl ?_
      refine g_iconst (v := 0) (kdX11_refusal 25 rfl) (by decide) ?_
      refine g_iconst (v := 3) (kdX11_refusal 26 rfl) (by decide) ?_
      refine g_aload_n 1 (kdX11_refusal 27 rfl) rfl ?_
      refine g_get (v := .inl (m.1 12 n1 7)) (kdX11_refusal 28 rfl) fX11_328 rfl ?_
      refine g_calI (ck_S (As := [.inl a3, .inl 0, .inl 3, .inl (m.1 12 n1 7)]) (S := []) (kdX11_refusal 29 rfl) iX11_refusalToSet lX11_368 rfl rfl rfl (by decide) (by simp only [List.map, vcat, List.sum_cons, List.sum_nil]; decide)) (CX11_refusalToSet a3 0 3 (m.1 12 n1 7) m) (fun x4 m3 => ?_)
      exact g_iret rfl (kdX11_refusal 30 rfl)
    · refine g_iload_n 3 (kdX11_refusal 31 rfl) rfl ?_
      refine g_iconst (v := 0) (kdX11_refusal 32 rfl) (by decide) ?_
      refine g_iconst (v := 1) (kdX11_refusal 33 rfl) (by decide) ?_
      refine g_aload_n 1 (kdX11_refusal 34 rfl) rfl ?_
      refine g_get (v := .inl (m.1 12 n1 15)) (kdX11_refusal 35 rfl) fX11_372 rfl ?_
      refine g_if_eq (tgt := 111) (kdX11_refusal 36 rfl) (by decide) (fun _ => ?_) (fun _ => ?_)
      · refine g_iconst (v := 0) (kdX11_refusal 39 rfl) (by decide) ?_
        exact g_fgt [] rfl (BX11_refusal_112 0 1 0 a3 m)
      · refine g_iconst (v := 1) (kdX11_refusal 37 rfl) (by decide) ?_
        refine g_goto (tgt := 112) (kdX11_refusal 38 rfl) (by decide) ?_
        exact g_fgt [] rfl (BX11_refusal_112 1 1 0 a3 m)
    · refine g_aload_n 0 (kdX11_refusal 42 rfl) rfl ?_
      refine g_iload_n 3 (kdX11_refusal 43 rfl) rfl ?_
      refine g_calI (ck_V (As := [.inl a3]) (S := []) (t := 0) (o := 0) (kdX11_refusal 44 rfl) iX11_isTap lX11_131 rc_0 rfl rfl rfl (by decide) (by simp only [List.map, vcat, List.sum_cons, List.sum_nil]; decide)) (CX11_isTap a3 m) (fun x8 m7 => ?_)
      refine g_if_eq (tgt := 144) (kdX11_refusal 45 rfl) (by decide) (fun _ => ?_) (fun _ => ?_)
      · refine g_iconst (v := 0) (kdX11_refusal 55 rfl) (by decide) ?_
        exact g_iret rfl (kdX11_refusal 56 rfl)
      · refine g_iload 4 (kdX11_refusal 46 rfl) rfl ?_
        refine g_sipush (v := (-255)) (kdX11_refusal 47 rfl) (by decide) ?_
        refine g_sipush (v := 255) (kdX11_refusal 48 rfl) (by decide) ?_
        refine g_aload_n 1 (kdX11_refusal 49 rfl) rfl ?_
        refine g_get (v := .inr (.inr (13, n1))) (kdX11_refusal 50 rfl) fX11_137 rfl ?_
        refine g_iload_n 3 (kdX11_refusal 51 rfl) rfl ?_
        refine g_iald (kdX11_refusal 52 rfl) (fun x9 => ?_)
        refine g_calI (ck_S (As := [.inl a4, .inl (-255), .inl 255, .inl x9]) (S := []) (kdX11_refusal 53 rfl) iX11_refusalToSet lX11_368 rfl rfl rfl (by decide) (by simp only [List.map, vcat, List.sum_cons, List.sum_nil]; decide)) (CX11_refusalToSet a4 (-255) 255 x9 m7) (fun x11 m10 => ?_)
        refine g_goto (tgt := 145) (kdX11_refusal 54 rfl) (by decide) ?_
        exact g_iret rfl (kdX11_refusal 56 rfl)
    · refine g_aload_n 1 (kdX11_refusal 57 rfl) rfl ?_
      refine g_get (v := .inl (m.1 12 n1 16)) (kdX11_refusal 58 rfl) fX11_375 rfl ?_
      refine g_if_eq (tgt := 157) (kdX11_refusal 59 rfl) (by decide) (fun _ => ?_) (fun _ => ?_)
      · refine g_iconst (v := (-1)) (kdX11_refusal 62 rfl) (by decide) ?_
        exact g_iret rfl (kdX11_refusal 63 rfl)
      · refine g_iconst (v := 2) (kdX11_refusal 60 rfl) (by decide) ?_
        refine g_goto (tgt := 158) (kdX11_refusal 61 rfl) (by decide) ?_
        exact g_iret rfl (kdX11_refusal 63 rfl)
    · refine g_iload_n 3 (kdX11_refusal 64 rfl) rfl ?_
      refine g_iconst (v := 0) (kdX11_refusal 65 rfl) (by decide) ?_
      refine g_iconst (v := 4) (kdX11_refusal 66 rfl) (by decide) ?_
      refine g_aload_n 1 (kdX11_refusal 67 rfl) rfl ?_
      refine g_get (v := .inl (m.1 12 n1 12)) (kdX11_refusal 68 rfl) fX11_378 rfl ?_
      refine g_calI (ck_S (As := [.inl a3, .inl 0, .inl 4, .inl (m.1 12 n1 12)]) (S := []) (kdX11_refusal 69 rfl) iX11_refusalToSet lX11_368 rfl rfl rfl (by decide) (by simp only [List.map, vcat, List.sum_cons, List.sum_nil]; decide)) (CX11_refusalToSet a3 0 4 (m.1 12 n1 12) m) (fun x13 m12 => ?_)
      exact g_iret rfl (kdX11_refusal 70 rfl)
    · refine g_iload_n 3 (kdX11_refusal 71 rfl) rfl ?_
      refine g_iconst (v := 0) (kdX11_refusal 72 rfl) (by decide) ?_
      refine g_bipush (v := 99) (kdX11_refusal 73 rfl) (by decide) ?_
      refine g_aload_n 1 (kdX11_refusal 74 rfl) rfl ?_
      refine g_get (v := .inl (m.1 12 n1 13)) (kdX11_refusal 75 rfl) fX11_381 rfl ?_
      refine g_calI (ck_S (As := [.inl a3, .inl 0, .inl 99, .inl (m.1 12 n1 13)]) (S := []) (kdX11_refusal 76 rfl) iX11_refusalToSet lX11_368 rfl rfl rfl (by decide) (by simp only [List.map, vcat, List.sum_cons, List.sum_nil]; decide)) (CX11_refusalToSet a3 0 99 (m.1 12 n1 13) m) (fun x15 m14 => ?_)
      exact g_iret rfl (kdX11_refusal 77 rfl)
    · refine g_aload_n 0 (kdX11_refusal 78 rfl) rfl ?_
      refine g_get (v := .inr (.inr (24, 0))) (kdX11_refusal 79 rfl) fX11_58 rfl ?_
      refine g_aload_n 0 (kdX11_refusal 80 rfl) rfl ?_
      refine g_get (v := .inr (.inr (4, 0))) (kdX11_refusal 81 rfl) fX11_19 rfl ?_
      refine g_aload_n 1 (kdX11_refusal 82 rfl) rfl ?_
      refine g_calI (ck_V (As := [.inr (.inr (4, 0)), .inr (.inr (12, n1))]) (S := []) (t := 24) (o := 0) (kdX11_refusal 83 rfl) iX3_hunted lX11_384 rc_24 rfl rfl rfl (by decide) (by simp only [List.map, vcat, List.sum_cons, List.sum_nil]; decide)) (CX3_hunted 0 n1 m) (fun x17 m16 => ?_)
      refine g_aload_n 1 (kdX11_refusal 84 rfl) rfl ?_
      refine g_get (v := .inl (m16.1 12 n1 7)) (kdX11_refusal 85 rfl) fX11_328 rfl ?_
      refine g_icmp_ne (tgt := 205) (kdX11_refusal 86 rfl) (by decide) (fun _ => ?_) (fun _ => ?_)
      · refine g_iconst (v := (-1)) (kdX11_refusal 89 rfl) (by decide) ?_
        exact g_iret rfl (kdX11_refusal 90 rfl)
      · refine g_iconst (v := 2) (kdX11_refusal 87 rfl) (by decide) ?_
        refine g_goto (tgt := 206) (kdX11_refusal 88 rfl) (by decide) ?_
        exact g_iret rfl (kdX11_refusal 90 rfl)
    · refine g_iconst (v := 0) (kdX11_refusal 91 rfl) (by decide) ?_
      exact g_iret rfl (kdX11_refusal 92 rfl)
  · refine g_iconst (v := 0) (kdX11_refusal 3 rfl) (by decide) ?_
    exact g_iret rfl (kdX11_refusal 4 rfl)
def JX11_isRefused_40 (v4 : Int32) (m : hM) : hR :=
  if v4 = (-1) then (jretZ 0 m) else (jretZ 1 m)
set_option maxRecDepth 20000 in
theorem BX11_isRefused_40 (v4 : Int32) (m : hM) : G mX11_isRefused 6 40 [(4, .inl v4)] [] m (JX11_isRefused_40 v4 m) := by
  unfold JX11_isRefused_40
  refine g_iload 0 (kdX11_isRefused 25 rfl) rfl ?_
  refine g_iconst (v := (-1)) (kdX11_isRefused 26 rfl) (by decide) ?_
  refine g_icmp_eq (tgt := 50) (kdX11_isRefused 27 rfl) (by decide) (fun _ => ?_) (fun _ => ?_)
  · refine g_iconst (v := 0) (kdX11_isRefused 30 rfl) (by decide) ?_
    exact g_zret rfl (kdX11_isRefused 31 rfl)
  · refine g_iconst (v := 1) (kdX11_isRefused 28 rfl) (by decide) ?_
    refine g_goto (tgt := 51) (kdX11_isRefused 29 rfl) (by decide) ?_
    exact g_zret rfl (kdX11_isRefused 31 rfl)
def JX11_isRefused (a1 : Int32) (a2 : Int32) (a3 : Int32) (m : hM) : hR :=
  calI (JX11_refusal 40 a1 a2 a3 m) fun x2 m1 =>
  alenJ 37 0 fun x3 =>
  calI (JX11_within x2 0 (x3 - 1) m1) fun x5 m4 =>
  if x5 = 0 then (JX11_isRefused_40 x2 m4) else (ald m4 37 0 x2 fun x6 =>
  ast m4 37 0 x2 (x6 + 1) fun m7 =>
  JX11_isRefused_40 x2 m7)
set_option maxRecDepth 20000 in
theorem CX11_isRefused (a1 : Int32) (a2 : Int32) (a3 : Int32) (m : hM) : Cn mX11_isRefused 6 [.inr (.inr (0, 0)), .inl a1, .inl a2, .inl a3] m (JX11_isRefused a1 a2 a3 m) := by
  refine cn_of (by decide +kernel) (by simp only [List.map, vcat, List.sum_cons, List.sum_nil]; decide) ?_
  unfold JX11_isRefused
  show G mX11_isRefused 6 0 [(0, .inr (.inr (0, 0))), (1, .inl a1), (2, .inl a2), (3, .inl a3)] [] m _
  refine g_aload_n 0 (kdX11_isRefused 0 rfl) rfl ?_
  refine g_aload_n 0 (kdX11_isRefused 1 rfl) rfl ?_
  refine g_get (v := .inr (.inr (12, 40))) (kdX11_isRefused 2 rfl) fX11_32 rfl ?_
  refine g_iload_n 1 (kdX11_isRefused 3 rfl) rfl ?_
  refine g_iload_n 2 (kdX11_isRefused 4 rfl) rfl ?_
  refine g_iload_n 3 (kdX11_isRefused 5 rfl) rfl ?_
  refine g_calI (ck_V (As := [.inr (.inr (12, 40)), .inl a1, .inl a2, .inl a3]) (S := []) (t := 0) (o := 0) (kdX11_isRefused 6 rfl) iX11_refusal lX11_364 rc_0 rfl rfl rfl (by decide) (by simp only [List.map, vcat, List.sum_cons, List.sum_nil]; decide)) (CX11_refusal 40 a1 a2 a3 m) (fun x2 m1 => ?_)
  refine g_istore (L2 := [(4, .inl x2), (0, .inr (.inr (0, 0))), (1, .inl a1), (2, .inl a2), (3, .inl a3)]) (kdX11_isRefused 7 rfl) rfl (by decide) ?_
  refine g_iload 0 (kdX11_isRefused 8 rfl) rfl ?_
  refine g_iconst (v := 0) (kdX11_isRefused 9 rfl) (by decide) ?_
  refine g_aload_n 1 (kdX11_isRefused 10 rfl) rfl ?_
  refine g_get (v := .inr (.inr (37, 0))) (kdX11_isRefused 11 rfl) fX11_76 rfl ?_
  refine g_alen (kdX11_isRefused 12 rfl) (fun x3 => ?_)
  refine g_iconst (v := 1) (kdX11_isRefused 13 rfl) (by decide) ?_
  refine g_isub (kdX11_isRefused 14 rfl) ?_
  refine g_calI (ck_S (As := [.inl x2, .inl 0, .inl (x3 - 1)]) (S := []) (kdX11_isRefused 15 rfl) iX11_within lX11_110 rfl rfl rfl (by decide) (by simp only [List.map, vcat, List.sum_cons, List.sum_nil]; decide)) (CX11_within x2 0 (x3 - 1) m1) (fun x5 m4 => ?_)
  refine g_if_eq (tgt := 40) (kdX11_isRefused 16 rfl) (by decide) (fun _ => ?_) (fun _ => ?_)
  · exact g_fgt [0] rfl (BX11_isRefused_40 x2 m4)
  · refine g_aload_n 1 (kdX11_isRefused 17 rfl) rfl ?_
    refine g_get (v := .inr (.inr (37, 0))) (kdX11_isRefused 18 rfl) fX11_76 rfl ?_
    refine g_iload 0 (kdX11_isRefused 19 rfl) rfl ?_
    refine g_dup2 (kdX11_isRefused 20 rfl) rfl rfl ?_
    refine g_iald (kdX11_isRefused 21 rfl) (fun x6 => ?_)
    refine g_iconst (v := 1) (kdX11_isRefused 22 rfl) (by decide) ?_
    refine g_iadd (kdX11_isRefused 23 rfl) ?_
    refine g_iast (kdX11_isRefused 24 rfl) (fun m7 => ?_)
    exact g_fgt [0] rfl (BX11_isRefused_40 x2 m7)
def JX11_send (a1 : Int32) (m : hM) : hR :=
  calI (JX11_isRefused 0 a1 0 m) fun x2 m1 =>
  if x2 = 0 then (calI (JX11_act 0 a1 0 m1) fun x4 m3 =>
  some (some (.inl x4), m3)) else (some (some (.inl (-1)), m1))
set_option maxRecDepth 20000 in
theorem CX11_send (a1 : Int32) (m : hM) : Cn mX11_send 7 [.inr (.inr (0, 0)), .inl a1] m (JX11_send a1 m) := by
  refine cn_of (by decide +kernel) (by simp only [List.map, vcat, List.sum_cons, List.sum_nil]; decide) ?_
  unfold JX11_send
  show G mX11_send 7 0 [(0, .inr (.inr (0, 0))), (1, .inl a1)] [] m _
  refine g_aload_n 0 (kdX11_send 0 rfl) rfl ?_
  refine g_iconst (v := 0) (kdX11_send 1 rfl) (by decide) ?_
  refine g_iload_n 1 (kdX11_send 2 rfl) rfl ?_
  refine g_iconst (v := 0) (kdX11_send 3 rfl) (by decide) ?_
  refine g_calI (ck_V (As := [.inl 0, .inl a1, .inl 0]) (S := []) (t := 0) (o := 0) (kdX11_send 4 rfl) iX11_isRefused lX11_171 rc_0 rfl rfl rfl (by decide) (by simp only [List.map, vcat, List.sum_cons, List.sum_nil]; decide)) (CX11_isRefused 0 a1 0 m) (fun x2 m1 => ?_)
  refine g_if_eq (tgt := 14) (kdX11_send 5 rfl) (by decide) (fun _ => ?_) (fun _ => ?_)
  · refine g_aload_n 0 (kdX11_send 8 rfl) rfl ?_
    refine g_iconst (v := 0) (kdX11_send 9 rfl) (by decide) ?_
    refine g_iload_n 1 (kdX11_send 10 rfl) rfl ?_
    refine g_iconst (v := 0) (kdX11_send 11 rfl) (by decide) ?_
    refine g_calI (ck_V (As := [.inl 0, .inl a1, .inl 0]) (S := []) (t := 0) (o := 0) (kdX11_send 12 rfl) iX11_act lX11_174 rc_0 rfl rfl rfl (by decide) (by simp only [List.map, vcat, List.sum_cons, List.sum_nil]; decide)) (CX11_act 0 a1 0 m1) (fun x4 m3 => ?_)
    exact g_iret rfl (kdX11_send 13 rfl)
  · refine g_iconst (v := (-1)) (kdX11_send 6 rfl) (by decide) ?_
    refine g_goto (tgt := 21) (kdX11_send 7 rfl) (by decide) ?_
    exact g_iret rfl (kdX11_send 13 rfl)
def JX11_phase (a1 : Int32) (m : hM) : hR :=
  calI (JX11_isRefused 1 a1 0 m) fun x2 m1 =>
  if x2 = 0 then (calI (JX11_act 1 a1 0 m1) fun x4 m3 =>
  some (some (.inl x4), m3)) else (some (some (.inl (-1)), m1))
set_option maxRecDepth 20000 in
theorem CX11_phase (a1 : Int32) (m : hM) : Cn mX11_phase 7 [.inr (.inr (0, 0)), .inl a1] m (JX11_phase a1 m) := by
  refine cn_of (by decide +kernel) (by simp only [List.map, vcat, List.sum_cons, List.sum_nil]; decide) ?_
  unfold JX11_phase
  show G mX11_phase 7 0 [(0, .inr (.inr (0, 0))), (1, .inl a1)] [] m _
  refine g_aload_n 0 (kdX11_phase 0 rfl) rfl ?_
  refine g_iconst (v := 1) (kdX11_phase 1 rfl) (by decide) ?_
  refine g_iload_n 1 (kdX11_phase 2 rfl) rfl ?_
  refine g_iconst (v := 0) (kdX11_phase 3 rfl) (by decide) ?_
  refine g_calI (ck_V (As := [.inl 1, .inl a1, .inl 0]) (S := []) (t := 0) (o := 0) (kdX11_phase 4 rfl) iX11_isRefused lX11_171 rc_0 rfl rfl rfl (by decide) (by simp only [List.map, vcat, List.sum_cons, List.sum_nil]; decide)) (CX11_isRefused 1 a1 0 m) (fun x2 m1 => ?_)
  refine g_if_eq (tgt := 14) (kdX11_phase 5 rfl) (by decide) (fun _ => ?_) (fun _ => ?_)
  · refine g_aload_n 0 (kdX11_phase 8 rfl) rfl ?_
    refine g_iconst (v := 1) (kdX11_phase 9 rfl) (by decide) ?_
    refine g_iload_n 1 (kdX11_phase 10 rfl) rfl ?_
    refine g_iconst (v := 0) (kdX11_phase 11 rfl) (by decide) ?_
    refine g_calI (ck_V (As := [.inl 1, .inl a1, .inl 0]) (S := []) (t := 0) (o := 0) (kdX11_phase 12 rfl) iX11_act lX11_174 rc_0 rfl rfl rfl (by decide) (by simp only [List.map, vcat, List.sum_cons, List.sum_nil]; decide)) (CX11_act 1 a1 0 m1) (fun x4 m3 => ?_)
    exact g_iret rfl (kdX11_phase 13 rfl)
  · refine g_iconst (v := (-1)) (kdX11_phase 6 rfl) (by decide) ?_
    refine g_goto (tgt := 21) (kdX11_phase 7 rfl) (by decide) ?_
    exact g_iret rfl (kdX11_phase 13 rfl)
def JX11_hold (a1 : Int32) (m : hM) : hR :=
  calI (JX11_isRefused 2 a1 0 m) fun x2 m1 =>
  if x2 = 0 then (calI (JX11_act 2 a1 0 m1) fun x4 m3 =>
  some (some (.inl x4), m3)) else (some (some (.inl (-1)), m1))
set_option maxRecDepth 20000 in
theorem CX11_hold (a1 : Int32) (m : hM) : Cn mX11_hold 7 [.inr (.inr (0, 0)), .inl a1] m (JX11_hold a1 m) := by
  refine cn_of (by decide +kernel) (by simp only [List.map, vcat, List.sum_cons, List.sum_nil]; decide) ?_
  unfold JX11_hold
  show G mX11_hold 7 0 [(0, .inr (.inr (0, 0))), (1, .inl a1)] [] m _
  refine g_aload_n 0 (kdX11_hold 0 rfl) rfl ?_
  refine g_iconst (v := 2) (kdX11_hold 1 rfl) (by decide) ?_
  refine g_iload_n 1 (kdX11_hold 2 rfl) rfl ?_
  refine g_iconst (v := 0) (kdX11_hold 3 rfl) (by decide) ?_
  refine g_calI (ck_V (As := [.inl 2, .inl a1, .inl 0]) (S := []) (t := 0) (o := 0) (kdX11_hold 4 rfl) iX11_isRefused lX11_171 rc_0 rfl rfl rfl (by decide) (by simp only [List.map, vcat, List.sum_cons, List.sum_nil]; decide)) (CX11_isRefused 2 a1 0 m) (fun x2 m1 => ?_)
  refine g_if_eq (tgt := 14) (kdX11_hold 5 rfl) (by decide) (fun _ => ?_) (fun _ => ?_)
  · refine g_aload_n 0 (kdX11_hold 8 rfl) rfl ?_
    refine g_iconst (v := 2) (kdX11_hold 9 rfl) (by decide) ?_
    refine g_iload_n 1 (kdX11_hold 10 rfl) rfl ?_
    refine g_iconst (v := 0) (kdX11_hold 11 rfl) (by decide) ?_
    refine g_calI (ck_V (As := [.inl 2, .inl a1, .inl 0]) (S := []) (t := 0) (o := 0) (kdX11_hold 12 rfl) iX11_act lX11_174 rc_0 rfl rfl rfl (by decide) (by simp only [List.map, vcat, List.sum_cons, List.sum_nil]; decide)) (CX11_act 2 a1 0 m1) (fun x4 m3 => ?_)
    exact g_iret rfl (kdX11_hold 13 rfl)
  · refine g_iconst (v := (-1)) (kdX11_hold 6 rfl) (by decide) ?_
    refine g_goto (tgt := 21) (kdX11_hold 7 rfl) (by decide) ?_
    exact g_iret rfl (kdX11_hold 13 rfl)
def JX11_set (a1 : Int32) (a2 : Int32) (m : hM) : hR :=
  calI (JX11_isRefused 3 a1 a2 m) fun x2 m1 =>
  if x2 = 0 then (calI (JX11_act 3 a1 a2 m1) fun x4 m3 =>
  some (some (.inl x4), m3)) else (some (some (.inl (-1000000000)), m1))
set_option maxRecDepth 20000 in
theorem CX11_set (a1 : Int32) (a2 : Int32) (m : hM) : Cn mX11_set 7 [.inr (.inr (0, 0)), .inl a1, .inl a2] m (JX11_set a1 a2 m) := by
  refine cn_of (by decide +kernel) (by simp only [List.map, vcat, List.sum_cons, List.sum_nil]; decide) ?_
  unfold JX11_set
  show G mX11_set 7 0 [(0, .inr (.inr (0, 0))), (1, .inl a1), (2, .inl a2)] [] m _
  refine g_aload_n 0 (kdX11_set 0 rfl) rfl ?_
  refine g_iconst (v := 3) (kdX11_set 1 rfl) (by decide) ?_
  refine g_iload_n 1 (kdX11_set 2 rfl) rfl ?_
  refine g_iload_n 2 (kdX11_set 3 rfl) rfl ?_
  refine g_calI (ck_V (As := [.inl 3, .inl a1, .inl a2]) (S := []) (t := 0) (o := 0) (kdX11_set 4 rfl) iX11_isRefused lX11_171 rc_0 rfl rfl rfl (by decide) (by simp only [List.map, vcat, List.sum_cons, List.sum_nil]; decide)) (CX11_isRefused 3 a1 a2 m) (fun x2 m1 => ?_)
  refine g_if_eq (tgt := 15) (kdX11_set 5 rfl) (by decide) (fun _ => ?_) (fun _ => ?_)
  · refine g_aload_n 0 (kdX11_set 8 rfl) rfl ?_
    refine g_iconst (v := 3) (kdX11_set 9 rfl) (by decide) ?_
    refine g_iload_n 1 (kdX11_set 10 rfl) rfl ?_
    refine g_iload_n 2 (kdX11_set 11 rfl) rfl ?_
    refine g_calI (ck_V (As := [.inl 3, .inl a1, .inl a2]) (S := []) (t := 0) (o := 0) (kdX11_set 12 rfl) iX11_act lX11_174 rc_0 rfl rfl rfl (by decide) (by simp only [List.map, vcat, List.sum_cons, List.sum_nil]; decide)) (CX11_act 3 a1 a2 m1) (fun x4 m3 => ?_)
    exact g_iret rfl (kdX11_set 13 rfl)
  · refine g_ldc (kdX11_set 6 rfl) cX11_118 ?_
    refine g_goto (tgt := 22) (kdX11_set 7 rfl) (by decide) ?_
    exact g_iret rfl (kdX11_set 13 rfl)
def JX11_drop  (m : hM) : hR :=
  calI (JX11_isRefused 4 0 0 m) fun x2 m1 =>
  if x2 = 0 then (calI (JX11_act 4 0 0 m1) fun x4 m3 =>
  some (some (.inl x4), m3)) else (some (some (.inl (-1)), m1))
set_option maxRecDepth 20000 in
theorem CX11_drop  (m : hM) : Cn mX11_drop 7 [.inr (.inr (0, 0))] m (JX11_drop  m) := by
  refine cn_of (by decide +kernel) (by simp only [List.map, vcat, List.sum_cons, List.sum_nil]; decide) ?_
  unfold JX11_drop
  show G mX11_drop 7 0 [(0, .inr (.inr (0, 0)))] [] m _
  refine g_aload_n 0 (kdX11_drop 0 rfl) rfl ?_
  refine g_iconst (v := 4) (kdX11_drop 1 rfl) (by decide) ?_
  refine g_iconst (v := 0) (kdX11_drop 2 rfl) (by decide) ?_
  refine g_iconst (v := 0) (kdX11_drop 3 rfl) (by decide) ?_
  refine g_calI (ck_V (As := [.inl 4, .inl 0, .inl 0]) (S := []) (t := 0) (o := 0) (kdX11_drop 4 rfl) iX11_isRefused lX11_171 rc_0 rfl rfl rfl (by decide) (by simp only [List.map, vcat, List.sum_cons, List.sum_nil]; decide)) (CX11_isRefused 4 0 0 m) (fun x2 m1 => ?_)
  refine g_if_eq (tgt := 14) (kdX11_drop 5 rfl) (by decide) (fun _ => ?_) (fun _ => ?_)
  · refine g_aload_n 0 (kdX11_drop 8 rfl) rfl ?_
    refine g_iconst (v := 4) (kdX11_drop 9 rfl) (by decide) ?_
    refine g_iconst (v := 0) (kdX11_drop 10 rfl) (by decide) ?_
    refine g_iconst (v := 0) (kdX11_drop 11 rfl) (by decide) ?_
    refine g_calI (ck_V (As := [.inl 4, .inl 0, .inl 0]) (S := []) (t := 0) (o := 0) (kdX11_drop 12 rfl) iX11_act lX11_174 rc_0 rfl rfl rfl (by decide) (by simp only [List.map, vcat, List.sum_cons, List.sum_nil]; decide)) (CX11_act 4 0 0 m1) (fun x4 m3 => ?_)
    exact g_iret rfl (kdX11_drop 13 rfl)
  · refine g_iconst (v := (-1)) (kdX11_drop 6 rfl) (by decide) ?_
    refine g_goto (tgt := 21) (kdX11_drop 7 rfl) (by decide) ?_
    exact g_iret rfl (kdX11_drop 13 rfl)
def JX11_change_38 (v2 : Int32) (v100 : Int32) (m : hM) : hR :=
  calI (JX11_isRefused v100 v2 0 m) fun x2 m1 =>
  if x2 = 0 then (calI (JX11_act v100 v2 0 m1) fun x4 m3 =>
  some (some (.inl x4), m3)) else (some (some (.inl (-1)), m1))
set_option maxRecDepth 20000 in
theorem BX11_change_38 (v2 : Int32) (v100 : Int32) (m : hM) : G mX11_change 7 38 [(0, .inr (.inr (0, 0))), (2, .inl v2)] [.inl v100] m (JX11_change_38 v2 v100 m) := by
  unfold JX11_change_38
  refine g_istore_n (L2 := [(3, .inl v100), (0, .inr (.inr (0, 0))), (2, .inl v2)]) (kdX11_change 23 rfl) rfl (by decide) ?_
  refine g_aload_n 1 (kdX11_change 24 rfl) rfl ?_
  refine g_iload_n 0 (kdX11_change 25 rfl) rfl ?_
  refine g_iload_n 2 (kdX11_change 26 rfl) rfl ?_
  refine g_iconst (v := 0) (kdX11_change 27 rfl) (by decide) ?_
  refine g_calI (ck_V (As := [.inl v100, .inl v2, .inl 0]) (S := []) (t := 0) (o := 0) (kdX11_change 28 rfl) iX11_isRefused lX11_171 rc_0 rfl rfl rfl (by decide) (by simp only [List.map, vcat, List.sum_cons, List.sum_nil]; decide)) (CX11_isRefused v100 v2 0 m) (fun x2 m1 => ?_)
  refine g_if_eq (tgt := 53) (kdX11_change 29 rfl) (by decide) (fun _ => ?_) (fun _ => ?_)
  · refine g_aload_n 1 (kdX11_change 32 rfl) rfl ?_
    refine g_iload_n 0 (kdX11_change 33 rfl) rfl ?_
    refine g_iload_n 2 (kdX11_change 34 rfl) rfl ?_
    refine g_iconst (v := 0) (kdX11_change 35 rfl) (by decide) ?_
    refine g_calI (ck_V (As := [.inl v100, .inl v2, .inl 0]) (S := []) (t := 0) (o := 0) (kdX11_change 36 rfl) iX11_act lX11_174 rc_0 rfl rfl rfl (by decide) (by simp only [List.map, vcat, List.sum_cons, List.sum_nil]; decide)) (CX11_act v100 v2 0 m1) (fun x4 m3 => ?_)
    exact g_iret rfl (kdX11_change 37 rfl)
  · refine g_iconst (v := (-1)) (kdX11_change 30 rfl) (by decide) ?_
    refine g_goto (tgt := 60) (kdX11_change 31 rfl) (by decide) ?_
    exact g_iret rfl (kdX11_change 37 rfl)
def JX11_change_28 (v1 : Int32) (v2 : Int32) (m : hM) : hR :=
  if v1 = 0 then (JX11_change_38 v2 5 m) else (JX11_change_38 v2 6 m)
set_option maxRecDepth 20000 in
theorem BX11_change_28 (v1 : Int32) (v2 : Int32) (m : hM) : G mX11_change 7 28 [(0, .inr (.inr (0, 0))), (1, .inl v1), (2, .inl v2)] [] m (JX11_change_28 v1 v2 m) := by
  unfold JX11_change_28
  refine g_iload_n 1 (kdX11_change 18 rfl) rfl ?_
  refine g_if_ne (tgt := 36) (kdX11_change 19 rfl) (by decide) (fun _ => ?_) (fun _ => ?_)
  · refine g_bipush (v := 6) (kdX11_change 22 rfl) (by decide) ?_
    exact g_fgt [0, 2] rfl (BX11_change_38 v2 6 m)
  · refine g_iconst (v := 5) (kdX11_change 20 rfl) (by decide) ?_
    refine g_goto (tgt := 38) (kdX11_change 21 rfl) (by decide) ?_
    exact g_fgt [0, 2] rfl (BX11_change_38 v2 5 m)
def JX11_change (a1 : Int32) (a2 : Int32) (m : hM) : hR :=
  if (m.1 0 0 12) = 0 then (JX11_change_28 a1 a2 m) else (calI (JX11_within a1 0 1 m) fun x6 m5 =>
  if x6 = 0 then (ald m5 37 0 1 fun x7 =>
  ast m5 37 0 1 (x7 + 1) fun m8 =>
  some (some (.inl (-1)), m8)) else (JX11_change_28 a1 a2 m5))
set_option maxRecDepth 20000 in
theorem CX11_change (a1 : Int32) (a2 : Int32) (m : hM) : Cn mX11_change 7 [.inr (.inr (0, 0)), .inl a1, .inl a2] m (JX11_change a1 a2 m) := by
  refine cn_of (by decide +kernel) (by simp only [List.map, vcat, List.sum_cons, List.sum_nil]; decide) ?_
  unfold JX11_change
  show G mX11_change 7 0 [(0, .inr (.inr (0, 0))), (1, .inl a1), (2, .inl a2)] [] m _
  refine g_aload_n 0 (kdX11_change 0 rfl) rfl ?_
  refine g_get (v := .inl (m.1 0 0 12)) (kdX11_change 1 rfl) fX11_106 rfl ?_
  refine g_if_eq (tgt := 28) (kdX11_change 2 rfl) (by decide) (fun _ => ?_) (fun _ => ?_)
  · exact g_fgt [0, 1, 2] rfl (BX11_change_28 a1 a2 m)
  · refine g_iload_n 1 (kdX11_change 3 rfl) rfl ?_
    refine g_iconst (v := 0) (kdX11_change 4 rfl) (by decide) ?_
    refine g_iconst (v := 1) (kdX11_change 5 rfl) (by decide) ?_
    refine g_calI (ck_S (As := [.inl a1, .inl 0, .inl 1]) (S := []) (kdX11_change 6 rfl) iX11_within lX11_110 rfl rfl rfl (by decide) (by simp only [List.map, vcat, List.sum_cons, List.sum_nil]; decide)) (CX11_within a1 0 1 m) (fun x6 m5 => ?_)
    refine g_if_ne (tgt := 28) (kdX11_change 7 rfl) (by decide) (fun _ => ?_) (fun _ => ?_)
    · exact g_fgt [0, 1, 2] rfl (BX11_change_28 a1 a2 m5)
    · refine g_aload_n 0 (kdX11_change 8 rfl) rfl ?_
      refine g_get (v := .inr (.inr (37, 0))) (kdX11_change 9 rfl) fX11_76 rfl ?_
      refine g_iconst (v := 1) (kdX11_change 10 rfl) (by decide) ?_
      refine g_dup2 (kdX11_change 11 rfl) rfl rfl ?_
      refine g_iald (kdX11_change 12 rfl) (fun x7 => ?_)
      refine g_iconst (v := 1) (kdX11_change 13 rfl) (by decide) ?_
      refine g_iadd (kdX11_change 14 rfl) ?_
      refine g_iast (kdX11_change 15 rfl) (fun m8 => ?_)
      refine g_iconst (v := (-1)) (kdX11_change 16 rfl) (by decide) ?_
      exact g_iret rfl (kdX11_change 17 rfl)
def JX11_dice (a1 : Int64) (m : hM) : hR :=
  if (m.1 0 0 12) = 0 then (ald m 37 0 0 fun x3 =>
  ast m 37 0 0 (x3 + 1) fun m4 =>
  some (some (.inl (-1)), m4)) else (calV (JX11_remember m) fun m1 =>
  stL m1 12 40 17 a1 fun m2 =>
  some (some (.inl (m2.1 12 40 6)), m2))
set_option maxRecDepth 20000 in
theorem CX11_dice (a1 : Int64) (m : hM) : Cn mX11_dice 4 [.inr (.inr (0, 0)), .inr (.inl a1)] m (JX11_dice a1 m) := by
  refine cn_of (by decide +kernel) (by simp only [List.map, vcat, List.sum_cons, List.sum_nil]; decide) ?_
  unfold JX11_dice
  show G mX11_dice 4 0 [(0, .inr (.inr (0, 0))), (1, .inr (.inl a1))] [] m _
  refine g_aload_n 0 (kdX11_dice 0 rfl) rfl ?_
  refine g_get (v := .inl (m.1 0 0 12)) (kdX11_dice 1 rfl) fX11_106 rfl ?_
  refine g_if_ne (tgt := 19) (kdX11_dice 2 rfl) (by decide) (fun _ => ?_) (fun _ => ?_)
  · refine g_aload_n 0 (kdX11_dice 13 rfl) rfl ?_
    refine g_calV (ck_V (As := []) (S := []) (t := 0) (o := 0) (kdX11_dice 14 rfl) iX11_remember lX11_178 rc_0 rfl rfl rfl (by decide) (by simp only [List.map, vcat, List.sum_cons, List.sum_nil]; decide)) (CX11_remember m) (fun m1 => ?_)
    refine g_aload_n 0 (kdX11_dice 15 rfl) rfl ?_
    refine g_get (v := .inr (.inr (12, 40))) (kdX11_dice 16 rfl) fX11_32 rfl ?_
    refine g_lload_n 1 (kdX11_dice 17 rfl) rfl ?_
    refine g_putL (kdX11_dice 18 rfl) fX11_181 rfl (fun m2 => ?_)
    refine g_aload_n 0 (kdX11_dice 19 rfl) rfl ?_
    refine g_get (v := .inr (.inr (12, 40))) (kdX11_dice 20 rfl) fX11_32 rfl ?_
    refine g_get (v := .inl (m2.1 12 40 6)) (kdX11_dice 21 rfl) fX11_153 rfl ?_
    exact g_iret rfl (kdX11_dice 22 rfl)
  · refine g_aload_n 0 (kdX11_dice 3 rfl) rfl ?_
    refine g_get (v := .inr (.inr (37, 0))) (kdX11_dice 4 rfl) fX11_76 rfl ?_
    refine g_iconst (v := 0) (kdX11_dice 5 rfl) (by decide) ?_
    refine g_dup2 (kdX11_dice 6 rfl) rfl rfl ?_
    refine g_iald (kdX11_dice 7 rfl) (fun x3 => ?_)
    refine g_iconst (v := 1) (kdX11_dice 8 rfl) (by decide) ?_
    refine g_iadd (kdX11_dice 9 rfl) ?_
    refine g_iast (kdX11_dice 10 rfl) (fun m4 => ?_)
    refine g_iconst (v := (-1)) (kdX11_dice 11 rfl) (by decide) ?_
    exact g_iret rfl (kdX11_dice 12 rfl)
def JX11_seek  (m : hM) : hR :=
  calI (JX11_isRefused 7 0 0 m) fun x2 m1 =>
  if x2 = 0 then (calI (JX11_act 7 0 0 m1) fun x4 m3 =>
  some (some (.inl x4), m3)) else (some (some (.inl (-1)), m1))
set_option maxRecDepth 20000 in
theorem CX11_seek  (m : hM) : Cn mX11_seek 7 [.inr (.inr (0, 0))] m (JX11_seek  m) := by
  refine cn_of (by decide +kernel) (by simp only [List.map, vcat, List.sum_cons, List.sum_nil]; decide) ?_
  unfold JX11_seek
  show G mX11_seek 7 0 [(0, .inr (.inr (0, 0)))] [] m _
  refine g_aload_n 0 (kdX11_seek 0 rfl) rfl ?_
  refine g_bipush (v := 7) (kdX11_seek 1 rfl) (by decide) ?_
  refine g_iconst (v := 0) (kdX11_seek 2 rfl) (by decide) ?_
  refine g_iconst (v := 0) (kdX11_seek 3 rfl) (by decide) ?_
  refine g_calI (ck_V (As := [.inl 7, .inl 0, .inl 0]) (S := []) (t := 0) (o := 0) (kdX11_seek 4 rfl) iX11_isRefused lX11_171 rc_0 rfl rfl rfl (by decide) (by simp only [List.map, vcat, List.sum_cons, List.sum_nil]; decide)) (CX11_isRefused 7 0 0 m) (fun x2 m1 => ?_)
  refine g_if_eq (tgt := 15) (kdX11_seek 5 rfl) (by decide) (fun _ => ?_) (fun _ => ?_)
  · refine g_aload_n 0 (kdX11_seek 8 rfl) rfl ?_
    refine g_bipush (v := 7) (kdX11_seek 9 rfl) (by decide) ?_
    refine g_iconst (v := 0) (kdX11_seek 10 rfl) (by decide) ?_
    refine g_iconst (v := 0) (kdX11_seek 11 rfl) (by decide) ?_
    refine g_calI (ck_V (As := [.inl 7, .inl 0, .inl 0]) (S := []) (t := 0) (o := 0) (kdX11_seek 12 rfl) iX11_act lX11_174 rc_0 rfl rfl rfl (by decide) (by simp only [List.map, vcat, List.sum_cons, List.sum_nil]; decide)) (CX11_act 7 0 0 m1) (fun x4 m3 => ?_)
    exact g_iret rfl (kdX11_seek 13 rfl)
  · refine g_iconst (v := (-1)) (kdX11_seek 6 rfl) (by decide) ?_
    refine g_goto (tgt := 23) (kdX11_seek 7 rfl) (by decide) ?_
    exact g_iret rfl (kdX11_seek 13 rfl)
def JX11_mishap (a1 : Int64) (a2 : Int32) (m : hM) : hR :=
  if a2 = 0 then (stZ m 12 40 16 1 fun m13 =>
  some (some (.inr (.inl a1)), m13)) else (if a2 = 1 then (calL (JX11_turned a1 m) fun x9 m8 =>
  calI (JX11_drawn x9 4 m8) fun x11 m10 =>
  stI m10 12 40 7 x11 fun m12 =>
  some (some (.inr (.inl x9)), m12)) else (if a2 = 2 then (calL (JX11_turned a1 m) fun x4 m3 =>
  calI (JX11_drawn x4 5 m3) fun x6 m5 =>
  stI m5 12 40 12 x6 fun m7 =>
  some (some (.inr (.inl x4)), m7)) else (if (m.1 12 40 15) = 0 then (stZ m 12 40 15 1 fun m2 =>
  some (some (.inr (.inl a1)), m2)) else (stZ m 12 40 15 0 fun m1 =>
  some (some (.inr (.inl a1)), m1)))))
set_option maxRecDepth 20000 in
theorem CX11_mishap (a1 : Int64) (a2 : Int32) (m : hM) : Cn mX11_mishap 1 [.inr (.inr (0, 0)), .inr (.inl a1), .inl a2] m (JX11_mishap a1 a2 m) := by
  refine cn_of (by decide +kernel) (by simp only [List.map, vcat, List.sum_cons, List.sum_nil]; decide) ?_
  unfold JX11_mishap
  show G mX11_mishap 1 0 [(0, .inr (.inr (0, 0))), (1, .inr (.inl a1)), (3, .inl a2)] [] m _
  refine g_lload_n 1 (kdX11_mishap 0 rfl) rfl ?_
  refine g_lstore (L2 := [(4, .inr (.inl a1)), (0, .inr (.inr (0, 0))), (1, .inr (.inl a1)), (3, .inl a2)]) (kdX11_mishap 1 rfl) rfl (by decide) ?_
  refine g_iload_n 3 (kdX11_mishap 2 rfl) rfl ?_
  refine g_if_ne (tgt := 18) (kdX11_mishap 3 rfl) (by decide) (fun _ => ?_) (fun _ => ?_)
  · refine g_iload_n 3 (kdX11_mishap 9 rfl) rfl ?_
    refine g_iconst (v := 1) (kdX11_mishap 10 rfl) (by decide) ?_
    refine g_icmp_ne (tgt := 46) (kdX11_mishap 11 rfl) (by decide) (fun _ => ?_) (fun _ => ?_)
    · refine g_iload_n 3 (kdX11_mishap 22 rfl) rfl ?_
      refine g_iconst (v := 2) (kdX11_mishap 23 rfl) (by decide) ?_
      refine g_icmp_ne (tgt := 74) (kdX11_mishap 24 rfl) (by decide) (fun _ => ?_) (fun _ => ?_)
      · refine g_aload_n 1 (kdX11_mishap 35 rfl) rfl ?_
        refine g_get (v := .inr (.inr (12, 40))) (kdX11_mishap 36 rfl) fX11_32 rfl ?_
        refine g_aload_n 1 (kdX11_mishap 37 rfl) rfl ?_
        refine g_get (v := .inr (.inr (12, 40))) (kdX11_mishap 38 rfl) fX11_32 rfl ?_
        refine g_get (v := .inl (m.1 12 40 15)) (kdX11_mishap 39 rfl) fX11_372 rfl ?_
        refine g_if_ne (tgt := 92) (kdX11_mishap 40 rfl) (by decide) (fun _ => ?_) (fun _ => ?_)
        · refine g_iconst (v := 0) (kdX11_mishap 43 rfl) (by decide) ?_
          refine g_putZ (kdX11_mishap 44 rfl) fX11_372 rfl (fun m1 => ?_)
          refine g_lload 0 (kdX11_mishap 45 rfl) rfl ?_
          exact g_lret rfl (kdX11_mishap 46 rfl)
        · refine g_iconst (v := 1) (kdX11_mishap 41 rfl) (by decide) ?_
          refine g_goto (tgt := 93) (kdX11_mishap 42 rfl) (by decide) ?_
          refine g_putZ (kdX11_mishap 44 rfl) fX11_372 rfl (fun m2 => ?_)
          refine g_lload 0 (kdX11_mishap 45 rfl) rfl ?_
          exact g_lret rfl (kdX11_mishap 46 rfl)
      · refine g_lload 0 (kdX11_mishap 25 rfl) rfl ?_
        refine g_calL (ck_S (As := [.inr (.inl a1)]) (S := []) (kdX11_mishap 26 rfl) iX11_turned lX11_429 rfl rfl rfl (by decide) (by simp only [List.map, vcat, List.sum_cons, List.sum_nil]; decide)) (CX11_turned a1 m) (fun x4 m3 => ?_)
        refine g_lstore (L2 := [(4, .inr (.inl x4)), (0, .inr (.inr (0, 0))), (1, .inr (.inl a1)), (3, .inl a2)]) (kdX11_mishap 27 rfl) rfl (by decide) ?_
        refine g_aload_n 1 (kdX11_mishap 28 rfl) rfl ?_
        refine g_get (v := .inr (.inr (12, 40))) (kdX11_mishap 29 rfl) fX11_32 rfl ?_
        refine g_lload 0 (kdX11_mishap 30 rfl) rfl ?_
        refine g_iconst (v := 5) (kdX11_mishap 31 rfl) (by decide) ?_
        refine g_calI (ck_S (As := [.inr (.inl x4), .inl 5]) (S := [.inr (.inr (12, 40))]) (kdX11_mishap 32 rfl) iX11_drawn lX11_432 rfl rfl rfl (by decide) (by simp only [List.map, vcat, List.sum_cons, List.sum_nil]; decide)) (CX11_drawn x4 5 m3) (fun x6 m5 => ?_)
        refine g_putI (kdX11_mishap 33 rfl) fX11_378 rfl (fun m7 => ?_)
        refine g_goto (tgt := 96) (kdX11_mishap 34 rfl) (by decide) ?_
        refine g_lload 0 (kdX11_mishap 45 rfl) rfl ?_
        exact g_lret rfl (kdX11_mishap 46 rfl)
    · refine g_lload 0 (kdX11_mishap 12 rfl) rfl ?_
      refine g_calL (ck_S (As := [.inr (.inl a1)]) (S := []) (kdX11_mishap 13 rfl) iX11_turned lX11_429 rfl rfl rfl (by decide) (by simp only [List.map, vcat, List.sum_cons, List.sum_nil]; decide)) (CX11_turned a1 m) (fun x9 m8 => ?_)
      refine g_lstore (L2 := [(4, .inr (.inl x9)), (0, .inr (.inr (0, 0))), (1, .inr (.inl a1)), (3, .inl a2)]) (kdX11_mishap 14 rfl) rfl (by decide) ?_
      refine g_aload_n 1 (kdX11_mishap 15 rfl) rfl ?_
      refine g_get (v := .inr (.inr (12, 40))) (kdX11_mishap 16 rfl) fX11_32 rfl ?_
      refine g_lload 0 (kdX11_mishap 17 rfl) rfl ?_
      refine g_iconst (v := 4) (kdX11_mishap 18 rfl) (by decide) ?_
      refine g_calI (ck_S (As := [.inr (.inl x9), .inl 4]) (S := [.inr (.inr (12, 40))]) (kdX11_mishap 19 rfl) iX11_drawn lX11_432 rfl rfl rfl (by decide) (by simp only [List.map, vcat, List.sum_cons, List.sum_nil]; decide)) (CX11_drawn x9 4 m8) (fun x11 m10 => ?_)
      refine g_putI (kdX11_mishap 20 rfl) fX11_328 rfl (fun m12 => ?_)
      refine g_goto (tgt := 96) (kdX11_mishap 21 rfl) (by decide) ?_
      refine g_lload 0 (kdX11_mishap 45 rfl) rfl ?_
      exact g_lret rfl (kdX11_mishap 46 rfl)
  · refine g_aload_n 1 (kdX11_mishap 4 rfl) rfl ?_
    refine g_get (v := .inr (.inr (12, 40))) (kdX11_mishap 5 rfl) fX11_32 rfl ?_
    refine g_iconst (v := 1) (kdX11_mishap 6 rfl) (by decide) ?_
    refine g_putZ (kdX11_mishap 7 rfl) fX11_375 rfl (fun m13 => ?_)
    refine g_goto (tgt := 96) (kdX11_mishap 8 rfl) (by decide) ?_
    refine g_lload 0 (kdX11_mishap 45 rfl) rfl ?_
    exact g_lret rfl (kdX11_mishap 46 rfl)
def JX11_liveYear_38 (v3 : Int64) (m : hM) : hR :=
  calL (JX11_turned v3 m) fun x7 m6 =>
  calI (JX11_drawn x7 8 m6) fun x9 m8 =>
  calI (JJ9_min_7cf53 (x9 + 1) (9999 - (m8.1 12 40 6)) m8) fun x11 m10 =>
  calI (JX11_sendLogged x11 m10) fun x13 m12 =>
  some (some (.inr (.inl x7)), m12)
set_option maxRecDepth 20000 in
theorem BX11_liveYear_38 (v3 : Int64) (m : hM) : G mX11_liveYear 6 38 [(0, .inr (.inr (0, 0))), (3, .inr (.inl v3))] [] m (JX11_liveYear_38 v3 m) := by
  unfold JX11_liveYear_38
  refine g_lload_n 1 (kdX11_liveYear 21 rfl) rfl ?_
  refine g_calL (ck_S (As := [.inr (.inl v3)]) (S := []) (kdX11_liveYear 22 rfl) iX11_turned lX11_429 rfl rfl rfl (by decide) (by simp only [List.map, vcat, List.sum_cons, List.sum_nil]; decide)) (CX11_turned v3 m) (fun x7 m6 => ?_)
  refine g_lstore_n (L2 := [(3, .inr (.inl x7)), (0, .inr (.inr (0, 0)))]) (kdX11_liveYear 23 rfl) rfl (by decide) ?_
  refine g_aload_n 1 (kdX11_liveYear 24 rfl) rfl ?_
  refine g_lload_n 0 (kdX11_liveYear 25 rfl) rfl ?_
  refine g_bipush (v := 8) (kdX11_liveYear 26 rfl) (by decide) ?_
  refine g_calI (ck_S (As := [.inr (.inl x7), .inl 8]) (S := [.inr (.inr (0, 0))]) (kdX11_liveYear 27 rfl) iX11_drawn lX11_432 rfl rfl rfl (by decide) (by simp only [List.map, vcat, List.sum_cons, List.sum_nil]; decide)) (CX11_drawn x7 8 m6) (fun x9 m8 => ?_)
  refine g_iconst (v := 1) (kdX11_liveYear 28 rfl) (by decide) ?_
  refine g_iadd (kdX11_liveYear 29 rfl) ?_
  refine g_sipush (v := 9999) (kdX11_liveYear 30 rfl) (by decide) ?_
  refine g_aload_n 1 (kdX11_liveYear 31 rfl) rfl ?_
  refine g_get (v := .inr (.inr (12, 40))) (kdX11_liveYear 32 rfl) fX11_32 rfl ?_
  refine g_get (v := .inl (m8.1 12 40 6)) (kdX11_liveYear 33 rfl) fX11_153 rfl ?_
  refine g_isub (kdX11_liveYear 34 rfl) ?_
  refine g_calI (ck_S (As := [.inl (x9 + 1), .inl (9999 - (m8.1 12 40 6))]) (S := [.inr (.inr (0, 0))]) (kdX11_liveYear 35 rfl) iJ9_min_7cf53 lX11_361 rfl rfl rfl (by decide) (by simp only [List.map, vcat, List.sum_cons, List.sum_nil]; decide)) (CJ9_min_7cf53 (x9 + 1) (9999 - (m8.1 12 40 6)) m8) (fun x11 m10 => ?_)
  refine g_calI (ck_V (As := [.inl x11]) (S := []) (t := 0) (o := 0) (kdX11_liveYear 36 rfl) iX11_sendLogged lX11_394 rc_0 rfl rfl rfl (by decide) (by simp only [List.map, vcat, List.sum_cons, List.sum_nil]; decide)) (CX11_sendLogged x11 m10) (fun x13 m12 => ?_)
  refine g_pop (kdX11_liveYear 37 rfl) rfl ?_
  refine g_lload_n 0 (kdX11_liveYear 38 rfl) rfl ?_
  exact g_lret rfl (kdX11_liveYear 39 rfl)
def JX11_liveYear (a1 : Int64) (m : hM) : hR :=
  calV (JX11_remember m) fun m1 =>
  calL (JX11_turned a1 m1) fun x3 m2 =>
  calI (JX11_drawn x3 10 m2) fun x5 m4 =>
  if (m4.1 0 0 17) ≤ x5 then (JX11_liveYear_38 x3 m4) else (calL (JX11_turned x3 m4) fun x15 m14 =>
  calI (JX11_drawn x15 4 m14) fun x17 m16 =>
  calL (JX11_mishap x15 x17 m16) fun x19 m18 =>
  JX11_liveYear_38 x19 m18)
set_option maxRecDepth 20000 in
theorem CX11_liveYear (a1 : Int64) (m : hM) : Cn mX11_liveYear 6 [.inr (.inr (0, 0)), .inr (.inl a1)] m (JX11_liveYear a1 m) := by
  refine cn_of (by decide +kernel) (by simp only [List.map, vcat, List.sum_cons, List.sum_nil]; decide) ?_
  unfold JX11_liveYear
  show G mX11_liveYear 6 0 [(0, .inr (.inr (0, 0))), (1, .inr (.inl a1))] [] m _
  refine g_aload_n 0 (kdX11_liveYear 0 rfl) rfl ?_
  refine g_calV (ck_V (As := []) (S := []) (t := 0) (o := 0) (kdX11_liveYear 1 rfl) iX11_remember lX11_178 rc_0 rfl rfl rfl (by decide) (by simp only [List.map, vcat, List.sum_cons, List.sum_nil]; decide)) (CX11_remember m) (fun m1 => ?_)
  refine g_lload_n 1 (kdX11_liveYear 2 rfl) rfl ?_
  refine g_calL (ck_S (As := [.inr (.inl a1)]) (S := []) (kdX11_liveYear 3 rfl) iX11_turned lX11_429 rfl rfl rfl (by decide) (by simp only [List.map, vcat, List.sum_cons, List.sum_nil]; decide)) (CX11_turned a1 m1) (fun x3 m2 => ?_)
  refine g_lstore_n (L2 := [(3, .inr (.inl x3)), (0, .inr (.inr (0, 0))), (1, .inr (.inl a1))]) (kdX11_liveYear 4 rfl) rfl (by decide) ?_
  refine g_lload_n 0 (kdX11_liveYear 5 rfl) rfl ?_
  refine g_bipush (v := 10) (kdX11_liveYear 6 rfl) (by decide) ?_
  refine g_calI (ck_S (As := [.inr (.inl x3), .inl 10]) (S := []) (kdX11_liveYear 7 rfl) iX11_drawn lX11_432 rfl rfl rfl (by decide) (by simp only [List.map, vcat, List.sum_cons, List.sum_nil]; decide)) (CX11_drawn x3 10 m2) (fun x5 m4 => ?_)
  refine g_aload_n 1 (kdX11_liveYear 8 rfl) rfl ?_
  refine g_get (v := .inl (m4.1 0 0 17)) (kdX11_liveYear 9 rfl) fX11_80 rfl ?_
  refine g_icmp_ge (tgt := 38) (kdX11_liveYear 10 rfl) (by decide) (fun _ => ?_) (fun _ => ?_)
  · exact g_fgt [1, 0] rfl (BX11_liveYear_38 x3 m4)
  · refine g_lload_n 0 (kdX11_liveYear 11 rfl) rfl ?_
    refine g_calL (ck_S (As := [.inr (.inl x3)]) (S := []) (kdX11_liveYear 12 rfl) iX11_turned lX11_429 rfl rfl rfl (by decide) (by simp only [List.map, vcat, List.sum_cons, List.sum_nil]; decide)) (CX11_turned x3 m4) (fun x15 m14 => ?_)
    refine g_lstore_n (L2 := [(3, .inr (.inl x15)), (0, .inr (.inr (0, 0))), (1, .inr (.inl a1))]) (kdX11_liveYear 13 rfl) rfl (by decide) ?_
    refine g_aload_n 1 (kdX11_liveYear 14 rfl) rfl ?_
    refine g_lload_n 0 (kdX11_liveYear 15 rfl) rfl ?_
    refine g_lload_n 0 (kdX11_liveYear 16 rfl) rfl ?_
    refine g_iconst (v := 4) (kdX11_liveYear 17 rfl) (by decide) ?_
    refine g_calI (ck_S (As := [.inr (.inl x15), .inl 4]) (S := [.inr (.inl x15), .inr (.inr (0, 0))]) (kdX11_liveYear 18 rfl) iX11_drawn lX11_432 rfl rfl rfl (by decide) (by simp only [List.map, vcat, List.sum_cons, List.sum_nil]; decide)) (CX11_drawn x15 4 m14) (fun x17 m16 => ?_)
    refine g_calL (ck_V (As := [.inr (.inl x15), .inl x17]) (S := []) (t := 0) (o := 0) (kdX11_liveYear 19 rfl) iX11_mishap lX11_436 rc_0 rfl rfl rfl (by decide) (by simp only [List.map, vcat, List.sum_cons, List.sum_nil]; decide)) (CX11_mishap x15 x17 m16) (fun x19 m18 => ?_)
    refine g_lstore_n (L2 := [(3, .inr (.inl x19)), (0, .inr (.inr (0, 0))), (1, .inr (.inl a1))]) (kdX11_liveYear 20 rfl) rfl (by decide) ?_
    exact g_fgt [1, 0] rfl (BX11_liveYear_38 x19 m18)
def bJX11_years_25 (K25 : Int64 → Int32 → hM → hR) (K45 : hM → hR) (v1 : Int32) (v4 : Int64) (v6 : Int32) (m : hM) : hR :=
  if v1 ≤ v6 then (K45 m) else (calL (JX11_liveYear v4 m) fun x4 m3 =>
  K25 x4 (v6 + 1) m3)
set_option maxRecDepth 20000 in
theorem BbJX11_years_25 (K25 : Int64 → Int32 → hM → hR) (K45 : hM → hR) (v1 : Int32) (h25 : ∀ (v4 : Int64) (v6 : Int32) (m : hM), G mX11_years 7 25 [(0, .inr (.inr (0, 0))), (1, .inl v1), (4, .inr (.inl v4)), (6, .inl v6)] [] m (K25 v4 v6 m)) (h45 : ∀ (m : hM), G mX11_years 7 45 [(0, .inr (.inr (0, 0)))] [] m (K45 m)) (v4 : Int64) (v6 : Int32) (m : hM) : G mX11_years 7 25 [(0, .inr (.inr (0, 0))), (1, .inl v1), (4, .inr (.inl v4)), (6, .inl v6)] [] m (bJX11_years_25 K25 K45 v1 v4 v6 m) := by
  unfold bJX11_years_25
  refine g_iload 3 (kdX11_years 14 rfl) rfl ?_
  refine g_iload_n 1 (kdX11_years 15 rfl) rfl ?_
  refine g_icmp_ge (tgt := 45) (kdX11_years 16 rfl) (by decide) (fun _ => ?_) (fun _ => ?_)
  · exact g_fgt [0] rfl (h45 m)
  · refine g_aload_n 0 (kdX11_years 17 rfl) rfl ?_
    refine g_lload 2 (kdX11_years 18 rfl) rfl ?_
    refine g_calL (ck_V (As := [.inr (.inl v4)]) (S := []) (t := 0) (o := 0) (kdX11_years 19 rfl) iX11_liveYear lX11_185 rc_0 rfl rfl rfl (by decide) (by simp only [List.map, vcat, List.sum_cons, List.sum_nil]; decide)) (CX11_liveYear v4 m) (fun x4 m3 => ?_)
    refine g_lstore (L2 := [(4, .inr (.inl x4)), (0, .inr (.inr (0, 0))), (1, .inl v1), (6, .inl v6)]) (kdX11_years 20 rfl) rfl (by decide) ?_
    refine g_iinc (v := v6 + 1) (L2 := [(6, .inl (v6 + 1)), (4, .inr (.inl x4)), (0, .inr (.inr (0, 0))), (1, .inl v1)]) 3 (kdX11_years 21 rfl) rfl rfl rfl (by decide) ?_
    refine g_goto (tgt := 25) (kdX11_years 22 rfl) (by decide) ?_
    exact g_fgt [2, 3, 1, 0] rfl (h25 x4 (v6 + 1) m3)
def JX11_years_25 (K45 : hM → hR) (v1 : Int32) : Nat → Int64 → Int32 → hM → hR
  | 0, _, _, _ => none
  | f + 1, v4, v6, m => bJX11_years_25 (fun v4 v6 m => JX11_years_25 K45 v1 f v4 v6 m) K45 v1 v4 v6 m
theorem BJX11_years_25 (K45 : hM → hR) (v1 : Int32) (h45 : ∀ (m : hM), G mX11_years 7 45 [(0, .inr (.inr (0, 0)))] [] m (K45 m)) : ∀ (f : Nat) (v4 : Int64) (v6 : Int32) (m : hM), G mX11_years 7 25 [(0, .inr (.inr (0, 0))), (1, .inl v1), (4, .inr (.inl v4)), (6, .inl v6)] [] m (JX11_years_25 K45 v1 f v4 v6 m)
  | 0, _, _, _ => g_none
  | f + 1, v4, v6, m => BbJX11_years_25  _ K45 v1 (fun v4 v6 m => BJX11_years_25  K45 v1 h45 f v4 v6 m) h45 v4 v6 m
def JX11_years (a1 : Int32) (a2 : Int64) (m : hM) : hR :=
  if (m.1 0 0 12) = 0 then (some (some (.inl (-1)), m)) else (calI (JX11_within a1 1 40 m) fun x2 m1 =>
  if x2 = 0 then (some (some (.inl (-1)), m1)) else (JX11_years_25 (fun m5 => some (some (.inl (m5.1 12 40 6)), m5)) a1 FU a2 0 m1))
set_option maxRecDepth 20000 in
theorem CX11_years (a1 : Int32) (a2 : Int64) (m : hM) : Cn mX11_years 7 [.inr (.inr (0, 0)), .inl a1, .inr (.inl a2)] m (JX11_years a1 a2 m) := by
  refine cn_of (by decide +kernel) (by simp only [List.map, vcat, List.sum_cons, List.sum_nil]; decide) ?_
  unfold JX11_years
  show G mX11_years 7 0 [(0, .inr (.inr (0, 0))), (1, .inl a1), (2, .inr (.inl a2))] [] m _
  refine g_aload_n 0 (kdX11_years 0 rfl) rfl ?_
  refine g_get (v := .inl (m.1 0 0 12)) (kdX11_years 1 rfl) fX11_106 rfl ?_
  refine g_if_eq (tgt := 17) (kdX11_years 2 rfl) (by decide) (fun _ => ?_) (fun _ => ?_)
  · refine g_iconst (v := (-1)) (kdX11_years 8 rfl) (by decide) ?_
    exact g_iret rfl (kdX11_years 9 rfl)
  · refine g_iload_n 1 (kdX11_years 3 rfl) rfl ?_
    refine g_iconst (v := 1) (kdX11_years 4 rfl) (by decide) ?_
    refine g_bipush (v := 40) (kdX11_years 5 rfl) (by decide) ?_
    refine g_calI (ck_S (As := [.inl a1, .inl 1, .inl 40]) (S := []) (kdX11_years 6 rfl) iX11_within lX11_110 rfl rfl rfl (by decide) (by simp only [List.map, vcat, List.sum_cons, List.sum_nil]; decide)) (CX11_within a1 1 40 m) (fun x2 m1 => ?_)
    refine g_if_ne (tgt := 19) (kdX11_years 7 rfl) (by decide) (fun _ => ?_) (fun _ => ?_)
    · refine g_lload_n 2 (kdX11_years 10 rfl) rfl ?_
      refine g_lstore (L2 := [(4, .inr (.inl a2)), (0, .inr (.inr (0, 0))), (1, .inl a1), (2, .inr (.inl a2))]) (kdX11_years 11 rfl) rfl (by decide) ?_
      refine g_iconst (v := 0) (kdX11_years 12 rfl) (by decide) ?_
      refine g_istore (L2 := [(6, .inl 0), (4, .inr (.inl a2)), (0, .inr (.inr (0, 0))), (1, .inl a1), (2, .inr (.inl a2))]) (kdX11_years 13 rfl) rfl (by decide) ?_
      refine g_fgt [2, 3, 1, 0] rfl (BJX11_years_25  _ a1 ?_ FU a2 0 m1)
      · intro m5
        refine g_aload_n 0 (kdX11_years 23 rfl) rfl ?_
        refine g_get (v := .inr (.inr (12, 40))) (kdX11_years 24 rfl) fX11_32 rfl ?_
        refine g_get (v := .inl (m5.1 12 40 6)) (kdX11_years 25 rfl) fX11_153 rfl ?_
        exact g_iret rfl (kdX11_years 26 rfl)
    · refine g_iconst (v := (-1)) (kdX11_years 8 rfl) (by decide) ?_
      exact g_iret rfl (kdX11_years 9 rfl)
