abbrev mX4_put : hMt := (yX4_put, cX4_put, 4, none)
def tX4_put : hTb := [(0, .iload_n 1, 1, 1), (1, .iconst 0, 1, 2), (2, .bipush 12, 2, 4), (4, .invokestatic 31, 3, 7), (7, .ifCond .eq 13, 3, 10), (10, .iload_n 2, 1, 11), (11, .iconst 0, 1, 12), (12, .bipush 15, 2, 14), (14, .invokestatic 31, 3, 17), (17, .ifCond .ne 4, 3, 20), (20, .return_, 1, 21), (21, .iload_n 1, 1, 22), (22, .ifCond .ne 22, 3, 25), (25, .aload_n 0, 1, 26), (26, .getfield 15, 3, 29), (29, .iload_n 2, 1, 30), (30, .iload_n 3, 1, 31), (31, .iastore, 1, 32), (32, .aload_n 0, 1, 33), (33, .getfield 9, 3, 36), (36, .iconst 0, 1, 37), (37, .iload_n 2, 1, 38), (38, .iconst 1, 1, 39), (39, .iadd, 1, 40), (40, .iastore, 1, 41), (41, .goto 36, 3, 44), (44, .iload_n 1, 1, 45), (45, .bipush 12, 2, 47), (47, .if_icmp .ne 23, 3, 50), (50, .aload_n 0, 1, 51), (51, .getfield 18, 3, 54), (54, .iload_n 2, 1, 55), (55, .iload_n 3, 1, 56), (56, .iastore, 1, 57), (57, .aload_n 0, 1, 58), (58, .getfield 9, 3, 61), (61, .bipush 12, 2, 63), (63, .iload_n 2, 1, 64), (64, .iconst 1, 1, 65), (65, .iadd, 1, 66), (66, .iastore, 1, 67), (67, .goto 10, 3, 70), (70, .aload_n 0, 1, 71), (71, .getfield 9, 3, 74), (74, .iload_n 1, 1, 75), (75, .iload_n 3, 1, 76), (76, .iastore, 1, 77), (77, .return_, 1, 78)]
theorem ktX4_put : TbOK mX4_put tX4_put := by
  unfold TbOK
  decide +kernel
theorem kdX4_put (k : Nat) {pc : Nat} {i : Instr} {len nx : Nat} (hk : tX4_put[k]? = some (pc, i, len, nx)) : Dc mX4_put pc i len nx := dc_of ktX4_put k hk
theorem iX4_put : MiV mX4_put := ⟨⟨gdw_of (i := 652) (by decide +kernel) (by decide +kernel), gdw_of (i := 115) (by decide +kernel) (by decide +kernel), by decide, by decide, by decide⟩, gdw_of (i := 650) (by decide +kernel) (by decide +kernel), gdw_of (i := 651) (by decide +kernel) (by decide +kernel)⟩
abbrev mX4_copy : hMt := (yX4_copy, cX4_copy, 2, none)
def tX4_copy : hTb := [(0, .aload_n 1, 1, 1), (1, .getfield 9, 3, 4), (4, .iconst 0, 1, 5), (5, .aload_n 0, 1, 6), (6, .getfield 9, 3, 9), (9, .iconst 0, 1, 10), (10, .bipush 13, 2, 12), (12, .invokestatic 35, 3, 15), (15, .aload_n 1, 1, 16), (16, .getfield 15, 3, 19), (19, .iconst 0, 1, 20), (20, .aload_n 0, 1, 21), (21, .getfield 15, 3, 24), (24, .iconst 0, 1, 25), (25, .bipush 16, 2, 27), (27, .invokestatic 35, 3, 30), (30, .aload_n 1, 1, 31), (31, .getfield 18, 3, 34), (34, .iconst 0, 1, 35), (35, .aload_n 0, 1, 36), (36, .getfield 18, 3, 39), (39, .iconst 0, 1, 40), (40, .bipush 16, 2, 42), (42, .invokestatic 35, 3, 45), (45, .return_, 1, 46)]
theorem ktX4_copy : TbOK mX4_copy tX4_copy := by
  unfold TbOK
  decide +kernel
theorem kdX4_copy (k : Nat) {pc : Nat} {i : Instr} {len nx : Nat} (hk : tX4_copy[k]? = some (pc, i, len, nx)) : Dc mX4_copy pc i len nx := dc_of ktX4_copy k hk
theorem iX4_copy : MiV mX4_copy := ⟨⟨gdw_of (i := 713) (by decide +kernel) (by decide +kernel), gdw_of (i := 115) (by decide +kernel) (by decide +kernel), by decide, by decide, by decide⟩, gdw_of (i := 711) (by decide +kernel) (by decide +kernel), gdw_of (i := 712) (by decide +kernel) (by decide +kernel)⟩
abbrev mX4_ruleOf : hMt := (yX4_ruleOf, cX4_ruleOf, 2, some .int)
def tX4_ruleOf : hTb := [(0, .iload_n 1, 1, 1), (1, .iconst 0, 1, 2), (2, .bipush 12, 2, 4), (4, .invokestatic 31, 3, 7), (7, .ifCond .eq 12, 3, 10), (10, .aload_n 0, 1, 11), (11, .getfield 9, 3, 14), (14, .iload_n 1, 1, 15), (15, .iaload, 1, 16), (16, .goto 4, 3, 19), (19, .iconst (-1), 1, 20), (20, .ireturn, 1, 21)]
theorem ktX4_ruleOf : TbOK mX4_ruleOf tX4_ruleOf := by
  unfold TbOK
  decide +kernel
theorem kdX4_ruleOf (k : Nat) {pc : Nat} {i : Instr} {len nx : Nat} (hk : tX4_ruleOf[k]? = some (pc, i, len, nx)) : Dc mX4_ruleOf pc i len nx := dc_of ktX4_ruleOf k hk
theorem iX4_ruleOf : MiV mX4_ruleOf := ⟨⟨gdw_of (i := 731) (by decide +kernel) (by decide +kernel), gdw_of (i := 115) (by decide +kernel) (by decide +kernel), by decide, by decide, by decide⟩, gdw_of (i := 729) (by decide +kernel) (by decide +kernel), gdw_of (i := 730) (by decide +kernel) (by decide +kernel)⟩
abbrev mX4_pulseLength : hMt := (yX4_pulseLength, cX4_pulseLength, 1, some .int)
def tX4_pulseLength : hTb := [(0, .aload_n 0, 1, 1), (1, .getfield 9, 3, 4), (4, .iconst 0, 1, 5), (5, .iaload, 1, 6), (6, .ireturn, 1, 7)]
theorem ktX4_pulseLength : TbOK mX4_pulseLength tX4_pulseLength := by
  unfold TbOK
  decide +kernel
theorem kdX4_pulseLength (k : Nat) {pc : Nat} {i : Instr} {len nx : Nat} (hk : tX4_pulseLength[k]? = some (pc, i, len, nx)) : Dc mX4_pulseLength pc i len nx := dc_of ktX4_pulseLength k hk
theorem iX4_pulseLength : MiV mX4_pulseLength := ⟨⟨gdw_of (i := 665) (by decide +kernel) (by decide +kernel), gdw_of (i := 115) (by decide +kernel) (by decide +kernel), by decide, by decide, by decide⟩, gdw_of (i := 663) (by decide +kernel) (by decide +kernel), gdw_of (i := 664) (by decide +kernel) (by decide +kernel)⟩
abbrev mX4_pulseAt : hMt := (yX4_pulseAt, cX4_pulseAt, 2, some .int)
def tX4_pulseAt : hTb := [(0, .iload_n 1, 1, 1), (1, .ifCond .lt 28, 3, 4), (4, .iload_n 1, 1, 5), (5, .aload_n 0, 1, 6), (6, .getfield 9, 3, 9), (9, .iconst 0, 1, 10), (10, .iaload, 1, 11), (11, .if_icmp .ge 18, 3, 14), (14, .iload_n 1, 1, 15), (15, .bipush 16, 2, 17), (17, .if_icmp .ge 12, 3, 20), (20, .aload_n 0, 1, 21), (21, .getfield 15, 3, 24), (24, .iload_n 1, 1, 25), (25, .iaload, 1, 26), (26, .goto 4, 3, 29), (29, .iconst 0, 1, 30), (30, .ireturn, 1, 31)]
theorem ktX4_pulseAt : TbOK mX4_pulseAt tX4_pulseAt := by
  unfold TbOK
  decide +kernel
theorem kdX4_pulseAt (k : Nat) {pc : Nat} {i : Instr} {len nx : Nat} (hk : tX4_pulseAt[k]? = some (pc, i, len, nx)) : Dc mX4_pulseAt pc i len nx := dc_of ktX4_pulseAt k hk
theorem iX4_pulseAt : MiV mX4_pulseAt := ⟨⟨gdw_of (i := 760) (by decide +kernel) (by decide +kernel), gdw_of (i := 115) (by decide +kernel) (by decide +kernel), by decide, by decide, by decide⟩, gdw_of (i := 758) (by decide +kernel) (by decide +kernel), gdw_of (i := 759) (by decide +kernel) (by decide +kernel)⟩
abbrev mX4_wordLength : hMt := (yX4_wordLength, cX4_wordLength, 1, some .int)
def tX4_wordLength : hTb := [(0, .aload_n 0, 1, 1), (1, .getfield 9, 3, 4), (4, .bipush 12, 2, 6), (6, .iaload, 1, 7), (7, .ireturn, 1, 8)]
theorem ktX4_wordLength : TbOK mX4_wordLength tX4_wordLength := by
  unfold TbOK
  decide +kernel
theorem kdX4_wordLength (k : Nat) {pc : Nat} {i : Instr} {len nx : Nat} (hk : tX4_wordLength[k]? = some (pc, i, len, nx)) : Dc mX4_wordLength pc i len nx := dc_of ktX4_wordLength k hk
theorem iX4_wordLength : MiV mX4_wordLength := ⟨⟨gdw_of (i := 764) (by decide +kernel) (by decide +kernel), gdw_of (i := 115) (by decide +kernel) (by decide +kernel), by decide, by decide, by decide⟩, gdw_of (i := 762) (by decide +kernel) (by decide +kernel), gdw_of (i := 763) (by decide +kernel) (by decide +kernel)⟩
abbrev mX4_wordAt : hMt := (yX4_wordAt, cX4_wordAt, 2, some .int)
def tX4_wordAt : hTb := [(0, .iload_n 1, 1, 1), (1, .ifCond .lt 29, 3, 4), (4, .iload_n 1, 1, 5), (5, .aload_n 0, 1, 6), (6, .getfield 9, 3, 9), (9, .bipush 12, 2, 11), (11, .iaload, 1, 12), (12, .if_icmp .ge 18, 3, 15), (15, .iload_n 1, 1, 16), (16, .bipush 16, 2, 18), (18, .if_icmp .ge 12, 3, 21), (21, .aload_n 0, 1, 22), (22, .getfield 18, 3, 25), (25, .iload_n 1, 1, 26), (26, .iaload, 1, 27), (27, .goto 4, 3, 30), (30, .iconst 0, 1, 31), (31, .ireturn, 1, 32)]
theorem ktX4_wordAt : TbOK mX4_wordAt tX4_wordAt := by
  unfold TbOK
  decide +kernel
theorem kdX4_wordAt (k : Nat) {pc : Nat} {i : Instr} {len nx : Nat} (hk : tX4_wordAt[k]? = some (pc, i, len, nx)) : Dc mX4_wordAt pc i len nx := dc_of ktX4_wordAt k hk
theorem iX4_wordAt : MiV mX4_wordAt := ⟨⟨gdw_of (i := 768) (by decide +kernel) (by decide +kernel), gdw_of (i := 115) (by decide +kernel) (by decide +kernel), by decide, by decide, by decide⟩, gdw_of (i := 766) (by decide +kernel) (by decide +kernel), gdw_of (i := 767) (by decide +kernel) (by decide +kernel)⟩
abbrev mX4_foreTaps : hMt := (yX4_foreTaps, cX4_foreTaps, 1, some .int)
def tX4_foreTaps : hTb := [(0, .aload_n 0, 1, 1), (1, .getfield 9, 3, 4), (4, .iconst 1, 1, 5), (5, .iaload, 1, 6), (6, .ireturn, 1, 7)]
theorem ktX4_foreTaps : TbOK mX4_foreTaps tX4_foreTaps := by
  unfold TbOK
  decide +kernel
theorem kdX4_foreTaps (k : Nat) {pc : Nat} {i : Instr} {len nx : Nat} (hk : tX4_foreTaps[k]? = some (pc, i, len, nx)) : Dc mX4_foreTaps pc i len nx := dc_of ktX4_foreTaps k hk
theorem iX4_foreTaps : MiV mX4_foreTaps := ⟨⟨gdw_of (i := 862) (by decide +kernel) (by decide +kernel), gdw_of (i := 115) (by decide +kernel) (by decide +kernel), by decide, by decide, by decide⟩, gdw_of (i := 860) (by decide +kernel) (by decide +kernel), gdw_of (i := 861) (by decide +kernel) (by decide +kernel)⟩
abbrev mX4_backTaps : hMt := (yX4_backTaps, cX4_backTaps, 1, some .int)
def tX4_backTaps : hTb := [(0, .aload_n 0, 1, 1), (1, .getfield 9, 3, 4), (4, .iconst 2, 1, 5), (5, .iaload, 1, 6), (6, .ireturn, 1, 7)]
theorem ktX4_backTaps : TbOK mX4_backTaps tX4_backTaps := by
  unfold TbOK
  decide +kernel
theorem kdX4_backTaps (k : Nat) {pc : Nat} {i : Instr} {len nx : Nat} (hk : tX4_backTaps[k]? = some (pc, i, len, nx)) : Dc mX4_backTaps pc i len nx := dc_of ktX4_backTaps k hk
theorem iX4_backTaps : MiV mX4_backTaps := ⟨⟨gdw_of (i := 975) (by decide +kernel) (by decide +kernel), gdw_of (i := 115) (by decide +kernel) (by decide +kernel), by decide, by decide, by decide⟩, gdw_of (i := 973) (by decide +kernel) (by decide +kernel), gdw_of (i := 974) (by decide +kernel) (by decide +kernel)⟩
abbrev mX4_allTaps : hMt := (yX4_allTaps, cX4_allTaps, 1, some .int)
def tX4_allTaps : hTb := [(0, .aload_n 0, 1, 1), (1, .getfield 9, 3, 4), (4, .iconst 1, 1, 5), (5, .iaload, 1, 6), (6, .aload_n 0, 1, 7), (7, .getfield 9, 3, 10), (10, .iconst 2, 1, 11), (11, .iaload, 1, 12), (12, .iadd, 1, 13), (13, .ireturn, 1, 14)]
theorem ktX4_allTaps : TbOK mX4_allTaps tX4_allTaps := by
  unfold TbOK
  decide +kernel
theorem kdX4_allTaps (k : Nat) {pc : Nat} {i : Instr} {len nx : Nat} (hk : tX4_allTaps[k]? = some (pc, i, len, nx)) : Dc mX4_allTaps pc i len nx := dc_of ktX4_allTaps k hk
theorem iX4_allTaps : MiV mX4_allTaps := ⟨⟨gdw_of (i := 735) (by decide +kernel) (by decide +kernel), gdw_of (i := 115) (by decide +kernel) (by decide +kernel), by decide, by decide, by decide⟩, gdw_of (i := 733) (by decide +kernel) (by decide +kernel), gdw_of (i := 734) (by decide +kernel) (by decide +kernel)⟩
abbrev mX4_delay : hMt := (yX4_delay, cX4_delay, 1, some .int)
def tX4_delay : hTb := [(0, .aload_n 0, 1, 1), (1, .getfield 9, 3, 4), (4, .iconst 3, 1, 5), (5, .iaload, 1, 6), (6, .ireturn, 1, 7)]
theorem ktX4_delay : TbOK mX4_delay tX4_delay := by
  unfold TbOK
  decide +kernel
theorem kdX4_delay (k : Nat) {pc : Nat} {i : Instr} {len nx : Nat} (hk : tX4_delay[k]? = some (pc, i, len, nx)) : Dc mX4_delay pc i len nx := dc_of ktX4_delay k hk
theorem iX4_delay : MiV mX4_delay := ⟨⟨gdw_of (i := 866) (by decide +kernel) (by decide +kernel), gdw_of (i := 115) (by decide +kernel) (by decide +kernel), by decide, by decide, by decide⟩, gdw_of (i := 864) (by decide +kernel) (by decide +kernel), gdw_of (i := 865) (by decide +kernel) (by decide +kernel)⟩
abbrev mX7_has : hMt := (yX7_has, cX7_has, 2, some .boolean)
def tX7_has : hTb := [(0, .iload_n 1, 1, 1), (1, .ifCond .lt 21, 3, 4), (4, .iload_n 1, 1, 5), (5, .aload_n 0, 1, 6), (6, .getfield 21, 3, 9), (9, .if_icmp .ge 13, 3, 12), (12, .iload_n 1, 1, 13), (13, .bipush 12, 2, 15), (15, .if_icmp .ge 7, 3, 18), (18, .iconst 1, 1, 19), (19, .goto 4, 3, 22), (22, .iconst 0, 1, 23), (23, .ireturn, 1, 24)]
theorem ktX7_has : TbOK mX7_has tX7_has := by
  unfold TbOK
  decide +kernel
theorem kdX7_has (k : Nat) {pc : Nat} {i : Instr} {len nx : Nat} (hk : tX7_has[k]? = some (pc, i, len, nx)) : Dc mX7_has pc i len nx := dc_of ktX7_has k hk
theorem iX7_has : MiV mX7_has := ⟨⟨gdw_of (i := 701) (by decide +kernel) (by decide +kernel), gdw_of (i := 116) (by decide +kernel) (by decide +kernel), by decide, by decide, by decide⟩, gdw_of (i := 699) (by decide +kernel) (by decide +kernel), gdw_of (i := 700) (by decide +kernel) (by decide +kernel)⟩
abbrev mX7_open : hMt := (yX7_open, cX7_open, 2, none)
def tX7_open : hTb := [(0, .aload_n 0, 1, 1), (1, .getfield 21, 3, 4), (4, .iconst 0, 1, 5), (5, .bipush 11, 2, 7), (7, .invokestatic 25, 3, 10), (10, .ifCond .eq 45, 3, 13), (13, .aload_n 0, 1, 14), (14, .getfield 9, 3, 17), (17, .aload_n 0, 1, 18), (18, .getfield 21, 3, 21), (21, .iload_n 1, 1, 22), (22, .iastore, 1, 23), (23, .aload_n 0, 1, 24), (24, .getfield 15, 3, 27), (27, .aload_n 0, 1, 28), (28, .getfield 21, 3, 31), (31, .ldc 29, 2, 33), (33, .iastore, 1, 34), (34, .aload_n 0, 1, 35), (35, .getfield 18, 3, 38), (38, .aload_n 0, 1, 39), (39, .getfield 21, 3, 42), (42, .ldc 29, 2, 44), (44, .iastore, 1, 45), (45, .aload_n 0, 1, 46), (46, .dup, 1, 47), (47, .getfield 21, 3, 50), (50, .iconst 1, 1, 51), (51, .iadd, 1, 52), (52, .putfield 21, 3, 55), (55, .return_, 1, 56)]
theorem ktX7_open : TbOK mX7_open tX7_open := by
  unfold TbOK
  decide +kernel
theorem kdX7_open (k : Nat) {pc : Nat} {i : Instr} {len nx : Nat} (hk : tX7_open[k]? = some (pc, i, len, nx)) : Dc mX7_open pc i len nx := dc_of ktX7_open k hk
theorem iX7_open : MiV mX7_open := ⟨⟨gdw_of (i := 683) (by decide +kernel) (by decide +kernel), gdw_of (i := 116) (by decide +kernel) (by decide +kernel), by decide, by decide, by decide⟩, gdw_of (i := 681) (by decide +kernel) (by decide +kernel), gdw_of (i := 682) (by decide +kernel) (by decide +kernel)⟩
abbrev mX7_put : hMt := (yX7_put, cX7_put, 3, none)
def tX7_put : hTb := [(0, .aload_n 0, 1, 1), (1, .aload_n 0, 1, 2), (2, .getfield 21, 3, 5), (5, .iconst 1, 1, 6), (6, .isub, 1, 7), (7, .invokevirtual 30, 3, 10), (10, .ifCond .eq 34, 3, 13), (13, .iload_n 1, 1, 14), (14, .ifCond .ne 18, 3, 17), (17, .aload_n 0, 1, 18), (18, .getfield 15, 3, 21), (21, .aload_n 0, 1, 22), (22, .getfield 21, 3, 25), (25, .iconst 1, 1, 26), (26, .isub, 1, 27), (27, .iload_n 2, 1, 28), (28, .iastore, 1, 29), (29, .goto 15, 3, 32), (32, .aload_n 0, 1, 33), (33, .getfield 18, 3, 36), (36, .aload_n 0, 1, 37), (37, .getfield 21, 3, 40), (40, .iconst 1, 1, 41), (41, .isub, 1, 42), (42, .iload_n 2, 1, 43), (43, .iastore, 1, 44), (44, .return_, 1, 45)]
theorem ktX7_put : TbOK mX7_put tX7_put := by
  unfold TbOK
  decide +kernel
theorem kdX7_put (k : Nat) {pc : Nat} {i : Instr} {len nx : Nat} (hk : tX7_put[k]? = some (pc, i, len, nx)) : Dc mX7_put pc i len nx := dc_of ktX7_put k hk
theorem iX7_put : MiV mX7_put := ⟨⟨gdw_of (i := 697) (by decide +kernel) (by decide +kernel), gdw_of (i := 116) (by decide +kernel) (by decide +kernel), by decide, by decide, by decide⟩, gdw_of (i := 695) (by decide +kernel) (by decide +kernel), gdw_of (i := 696) (by decide +kernel) (by decide +kernel)⟩
abbrev mX7_part : hMt := (yX7_part, cX7_part, 3, some .int)
def tX7_part : hTb := [(0, .aload_n 0, 1, 1), (1, .iload_n 1, 1, 2), (2, .invokevirtual 30, 3, 5), (5, .ifCond .ne 6, 3, 8), (8, .ldc 29, 2, 10), (10, .ireturn, 1, 11), (11, .iload_n 2, 1, 12), (12, .tableswitch 49 0 2 #[28, 35, 42], 28, 40), (40, .aload_n 0, 1, 41), (41, .getfield 9, 3, 44), (44, .iload_n 1, 1, 45), (45, .iaload, 1, 46), (46, .ireturn, 1, 47), (47, .aload_n 0, 1, 48), (48, .getfield 15, 3, 51), (51, .iload_n 1, 1, 52), (52, .iaload, 1, 53), (53, .ireturn, 1, 54), (54, .aload_n 0, 1, 55), (55, .getfield 18, 3, 58), (58, .iload_n 1, 1, 59), (59, .iaload, 1, 60), (60, .ireturn, 1, 61), (61, .ldc 29, 2, 63), (63, .ireturn, 1, 64)]
theorem ktX7_part : TbOK mX7_part tX7_part := by
  unfold TbOK
  decide +kernel
theorem kdX7_part (k : Nat) {pc : Nat} {i : Instr} {len nx : Nat} (hk : tX7_part[k]? = some (pc, i, len, nx)) : Dc mX7_part pc i len nx := dc_of ktX7_part k hk
theorem iX7_part : MiV mX7_part := ⟨⟨gdw_of (i := 1126) (by decide +kernel) (by decide +kernel), gdw_of (i := 116) (by decide +kernel) (by decide +kernel), by decide, by decide, by decide⟩, gdw_of (i := 1124) (by decide +kernel) (by decide +kernel), gdw_of (i := 1125) (by decide +kernel) (by decide +kernel)⟩
abbrev mX7_copy : hMt := (yX7_copy, cX7_copy, 2, none)
def tX7_copy : hTb := [(0, .aload_n 1, 1, 1), (1, .getfield 9, 3, 4), (4, .iconst 0, 1, 5), (5, .aload_n 0, 1, 6), (6, .getfield 9, 3, 9), (9, .iconst 0, 1, 10), (10, .bipush 12, 2, 12), (12, .invokestatic 34, 3, 15), (15, .aload_n 1, 1, 16), (16, .getfield 15, 3, 19), (19, .iconst 0, 1, 20), (20, .aload_n 0, 1, 21), (21, .getfield 15, 3, 24), (24, .iconst 0, 1, 25), (25, .bipush 12, 2, 27), (27, .invokestatic 34, 3, 30), (30, .aload_n 1, 1, 31), (31, .getfield 18, 3, 34), (34, .iconst 0, 1, 35), (35, .aload_n 0, 1, 36), (36, .getfield 18, 3, 39), (39, .iconst 0, 1, 40), (40, .bipush 12, 2, 42), (42, .invokestatic 34, 3, 45), (45, .aload_n 0, 1, 46), (46, .aload_n 1, 1, 47), (47, .getfield 21, 3, 50), (50, .putfield 21, 3, 53), (53, .return_, 1, 54)]
theorem ktX7_copy : TbOK mX7_copy tX7_copy := by
  unfold TbOK
  decide +kernel
theorem kdX7_copy (k : Nat) {pc : Nat} {i : Instr} {len nx : Nat} (hk : tX7_copy[k]? = some (pc, i, len, nx)) : Dc mX7_copy pc i len nx := dc_of ktX7_copy k hk
theorem iX7_copy : MiV mX7_copy := ⟨⟨gdw_of (i := 744) (by decide +kernel) (by decide +kernel), gdw_of (i := 116) (by decide +kernel) (by decide +kernel), by decide, by decide, by decide⟩, gdw_of (i := 742) (by decide +kernel) (by decide +kernel), gdw_of (i := 743) (by decide +kernel) (by decide +kernel)⟩
abbrev mX10_copy : hMt := (yX10_copy, cX10_copy, 2, none)
def tX10_copy : hTb := [(0, .aload_n 0, 1, 1), (1, .aload_n 1, 1, 2), (2, .getfield 15, 3, 5), (5, .putfield 15, 3, 8), (8, .aload_n 0, 1, 9), (9, .aload_n 1, 1, 10), (10, .getfield 19, 3, 13), (13, .putfield 19, 3, 16), (16, .aload_n 0, 1, 17), (17, .aload_n 1, 1, 18), (18, .getfield 22, 3, 21), (21, .putfield 22, 3, 24), (24, .aload_n 0, 1, 25), (25, .aload_n 1, 1, 26), (26, .getfield 26, 3, 29), (29, .putfield 26, 3, 32), (32, .aload_n 0, 1, 33), (33, .aload_n 1, 1, 34), (34, .getfield 29, 3, 37), (37, .putfield 29, 3, 40), (40, .aload_n 0, 1, 41), (41, .aload_n 1, 1, 42), (42, .getfield 32, 3, 45), (45, .putfield 32, 3, 48), (48, .aload_n 0, 1, 49), (49, .aload_n 1, 1, 50), (50, .getfield 35, 3, 53), (53, .putfield 35, 3, 56), (56, .aload_n 0, 1, 57), (57, .aload_n 1, 1, 58), (58, .getfield 38, 3, 61), (61, .putfield 38, 3, 64), (64, .aload_n 0, 1, 65), (65, .aload_n 1, 1, 66), (66, .getfield 41, 3, 69), (69, .putfield 41, 3, 72), (72, .aload_n 0, 1, 73), (73, .aload_n 1, 1, 74), (74, .getfield 44, 3, 77), (77, .putfield 44, 3, 80), (80, .aload_n 0, 1, 81), (81, .aload_n 1, 1, 82), (82, .getfield 47, 3, 85), (85, .putfield 47, 3, 88), (88, .aload_n 0, 1, 89), (89, .aload_n 1, 1, 90), (90, .getfield 50, 3, 93), (93, .putfield 50, 3, 96), (96, .aload_n 0, 1, 97), (97, .aload_n 1, 1, 98), (98, .getfield 53, 3, 101), (101, .putfield 53, 3, 104), (104, .aload_n 0, 1, 105), (105, .aload_n 1, 1, 106), (106, .getfield 56, 3, 109), (109, .putfield 56, 3, 112), (112, .aload_n 1, 1, 113), (113, .getfield 9, 3, 116), (116, .iconst 0, 1, 117), (117, .aload_n 0, 1, 118), (118, .getfield 9, 3, 121), (121, .iconst 0, 1, 122), (122, .iconst 3, 1, 123), (123, .invokestatic 59, 3, 126), (126, .return_, 1, 127)]
theorem ktX10_copy : TbOK mX10_copy tX10_copy := by
  unfold TbOK
  decide +kernel
theorem kdX10_copy (k : Nat) {pc : Nat} {i : Instr} {len nx : Nat} (hk : tX10_copy[k]? = some (pc, i, len, nx)) : Dc mX10_copy pc i len nx := dc_of ktX10_copy k hk
theorem iX10_copy : MiV mX10_copy := ⟨⟨gdw_of (i := 919) (by decide +kernel) (by decide +kernel), gdw_of (i := 118) (by decide +kernel) (by decide +kernel), by decide, by decide, by decide⟩, gdw_of (i := 917) (by decide +kernel) (by decide +kernel), gdw_of (i := 918) (by decide +kernel) (by decide +kernel)⟩
abbrev mX10_clear : hMt := (yX10_clear, cX10_clear, 2, none)
def tX10_clear : hTb := [(0, .aload_n 0, 1, 1), (1, .iconst 0, 1, 2), (2, .putfield 15, 3, 5), (5, .aload_n 0, 1, 6), (6, .iconst 0, 1, 7), (7, .putfield 19, 3, 10), (10, .aload_n 0, 1, 11), (11, .iconst 0, 1, 12), (12, .putfield 22, 3, 15), (15, .aload_n 0, 1, 16), (16, .iconst 0, 1, 17), (17, .putfield 26, 3, 20), (20, .aload_n 0, 1, 21), (21, .iconst 0, 1, 22), (22, .putfield 29, 3, 25), (25, .aload_n 0, 1, 26), (26, .iconst 0, 1, 27), (27, .putfield 32, 3, 30), (30, .aload_n 0, 1, 31), (31, .iconst 0, 1, 32), (32, .putfield 35, 3, 35), (35, .aload_n 0, 1, 36), (36, .iconst 0, 1, 37), (37, .putfield 38, 3, 40), (40, .aload_n 0, 1, 41), (41, .iconst 0, 1, 42), (42, .putfield 41, 3, 45), (45, .aload_n 0, 1, 46), (46, .iconst 0, 1, 47), (47, .putfield 44, 3, 50), (50, .aload_n 0, 1, 51), (51, .iconst 0, 1, 52), (52, .putfield 47, 3, 55), (55, .aload_n 0, 1, 56), (56, .iconst 0, 1, 57), (57, .putfield 50, 3, 60), (60, .aload_n 0, 1, 61), (61, .iconst 0, 1, 62), (62, .putfield 53, 3, 65), (65, .aload_n 0, 1, 66), (66, .iconst 0, 1, 67), (67, .putfield 56, 3, 70), (70, .iconst 0, 1, 71), (71, .istore_n 1, 1, 72), (72, .iload_n 1, 1, 73), (73, .iconst 3, 1, 74), (74, .if_icmp .ge 16, 3, 77), (77, .aload_n 0, 1, 78), (78, .getfield 9, 3, 81), (81, .iload_n 1, 1, 82), (82, .iconst 0, 1, 83), (83, .iastore, 1, 84), (84, .iinc 1 1, 3, 87), (87, .goto (-15), 3, 90), (90, .return_, 1, 91)]
theorem ktX10_clear : TbOK mX10_clear tX10_clear := by
  unfold TbOK
  decide +kernel
theorem kdX10_clear (k : Nat) {pc : Nat} {i : Instr} {len nx : Nat} (hk : tX10_clear[k]? = some (pc, i, len, nx)) : Dc mX10_clear pc i len nx := dc_of ktX10_clear k hk
theorem iX10_clear : MiV mX10_clear := ⟨⟨gdw_of (i := 727) (by decide +kernel) (by decide +kernel), gdw_of (i := 118) (by decide +kernel) (by decide +kernel), by decide, by decide, by decide⟩, gdw_of (i := 725) (by decide +kernel) (by decide +kernel), gdw_of (i := 726) (by decide +kernel) (by decide +kernel)⟩
abbrev mX10_hear : hMt := (yX10_hear, cX10_hear, 2, none)
def tX10_hear : hTb := [(0, .aload_n 0, 1, 1), (1, .iload_n 1, 1, 2), (2, .ifCond .eq 16, 3, 5), (5, .aload_n 0, 1, 6), (6, .getfield 15, 3, 9), (9, .iconst 1, 1, 10), (10, .iadd, 1, 11), (11, .iconst 4, 1, 12), (12, .invokestatic 65, 3, 15), (15, .goto 4, 3, 18), (18, .iconst 0, 1, 19), (19, .putfield 15, 3, 22), (22, .aload_n 0, 1, 23), (23, .iload_n 1, 1, 24), (24, .ifCond .eq 7, 3, 27), (27, .iconst 0, 1, 28), (28, .goto 13, 3, 31), (31, .aload_n 0, 1, 32), (32, .getfield 19, 3, 35), (35, .iconst 1, 1, 36), (36, .iadd, 1, 37), (37, .iconst 4, 1, 38), (38, .invokestatic 65, 3, 41), (41, .putfield 19, 3, 44), (44, .aload_n 0, 1, 45), (45, .getfield 15, 3, 48), (48, .iconst 4, 1, 49), (49, .if_icmp .ne 8, 3, 52), (52, .aload_n 0, 1, 53), (53, .iconst 1, 1, 54), (54, .putfield 22, 3, 57), (57, .aload_n 0, 1, 58), (58, .getfield 19, 3, 61), (61, .iconst 4, 1, 62), (62, .if_icmp .ne 8, 3, 65), (65, .aload_n 0, 1, 66), (66, .iconst 0, 1, 67), (67, .putfield 22, 3, 70), (70, .return_, 1, 71)]
theorem ktX10_hear : TbOK mX10_hear tX10_hear := by
  unfold TbOK
  decide +kernel
theorem kdX10_hear (k : Nat) {pc : Nat} {i : Instr} {len nx : Nat} (hk : tX10_hear[k]? = some (pc, i, len, nx)) : Dc mX10_hear pc i len nx := dc_of ktX10_hear k hk
theorem iX10_hear : MiV mX10_hear := ⟨⟨gdw_of (i := 994) (by decide +kernel) (by decide +kernel), gdw_of (i := 118) (by decide +kernel) (by decide +kernel), by decide, by decide, by decide⟩, gdw_of (i := 992) (by decide +kernel) (by decide +kernel), gdw_of (i := 993) (by decide +kernel) (by decide +kernel)⟩
abbrev mX10_closeRun : hMt := (yX10_closeRun, cX10_closeRun, 1, none)
def tX10_closeRun : hTb := [(0, .aload_n 0, 1, 1), (1, .dup, 1, 2), (2, .getfield 32, 3, 5), (5, .iconst 1, 1, 6), (6, .iadd, 1, 7), (7, .putfield 32, 3, 10), (10, .aload_n 0, 1, 11), (11, .aload_n 0, 1, 12), (12, .getfield 35, 3, 15), (15, .aload_n 0, 1, 16), (16, .getfield 38, 3, 19), (19, .aload_n 0, 1, 20), (20, .getfield 41, 3, 23), (23, .isub, 1, 24), (24, .invokestatic 71, 3, 27), (27, .putfield 35, 3, 30), (30, .aload_n 0, 1, 31), (31, .iconst 0, 1, 32), (32, .putfield 38, 3, 35), (35, .aload_n 0, 1, 36), (36, .iconst 0, 1, 37), (37, .putfield 41, 3, 40), (40, .return_, 1, 41)]
theorem ktX10_closeRun : TbOK mX10_closeRun tX10_closeRun := by
  unfold TbOK
  decide +kernel
theorem kdX10_closeRun (k : Nat) {pc : Nat} {i : Instr} {len nx : Nat} (hk : tX10_closeRun[k]? = some (pc, i, len, nx)) : Dc mX10_closeRun pc i len nx := dc_of ktX10_closeRun k hk
theorem iX10_closeRun : MiV mX10_closeRun := ⟨⟨gdw_of (i := 1023) (by decide +kernel) (by decide +kernel), gdw_of (i := 118) (by decide +kernel) (by decide +kernel), by decide, by decide, by decide⟩, gdw_of (i := 1022) (by decide +kernel) (by decide +kernel), gdw_of (i := 38) (by decide +kernel) (by decide +kernel)⟩
abbrev mX10_judge : hMt := (yX10_judge, cX10_judge, 3, none)
def tX10_judge : hTb := [(0, .iload_n 1, 1, 1), (1, .ifCond .eq 31, 3, 4), (4, .aload_n 0, 1, 5), (5, .dup, 1, 6), (6, .getfield 26, 3, 9), (9, .iconst 1, 1, 10), (10, .iadd, 1, 11), (11, .putfield 26, 3, 14), (14, .aload_n 0, 1, 15), (15, .dup, 1, 16), (16, .getfield 38, 3, 19), (19, .iconst 1, 1, 20), (20, .iadd, 1, 21), (21, .putfield 38, 3, 24), (24, .aload_n 0, 1, 25), (25, .iconst 0, 1, 26), (26, .putfield 41, 3, 29), (29, .goto 46, 3, 32), (32, .aload_n 0, 1, 33), (33, .getfield 38, 3, 36), (36, .ifCond .le 39, 3, 39), (39, .aload_n 0, 1, 40), (40, .dup, 1, 41), (41, .getfield 38, 3, 44), (44, .iconst 1, 1, 45), (45, .iadd, 1, 46), (46, .putfield 38, 3, 49), (49, .aload_n 0, 1, 50), (50, .dup, 1, 51), (51, .getfield 41, 3, 54), (54, .iconst 1, 1, 55), (55, .iadd, 1, 56), (56, .putfield 41, 3, 59), (59, .aload_n 0, 1, 60), (60, .getfield 41, 3, 63), (63, .iload_n 2, 1, 64), (64, .iconst 1, 1, 65), (65, .invokestatic 71, 3, 68), (68, .if_icmp .lt 7, 3, 71), (71, .aload_n 0, 1, 72), (72, .invokevirtual 74, 3, 75), (75, .return_, 1, 76)]
theorem ktX10_judge : TbOK mX10_judge tX10_judge := by
  unfold TbOK
  decide +kernel
theorem kdX10_judge (k : Nat) {pc : Nat} {i : Instr} {len nx : Nat} (hk : tX10_judge[k]? = some (pc, i, len, nx)) : Dc mX10_judge pc i len nx := dc_of ktX10_judge k hk
theorem iX10_judge : MiV mX10_judge := ⟨⟨gdw_of (i := 1018) (by decide +kernel) (by decide +kernel), gdw_of (i := 118) (by decide +kernel) (by decide +kernel), by decide, by decide, by decide⟩, gdw_of (i := 1016) (by decide +kernel) (by decide +kernel), gdw_of (i := 1017) (by decide +kernel) (by decide +kernel)⟩
abbrev mX10_latestIsWrong : hMt := (yX10_latestIsWrong, cX10_latestIsWrong, 1, some .boolean)
def tX10_latestIsWrong : hTb := [(0, .aload_n 0, 1, 1), (1, .getfield 56, 3, 4), (4, .iconst 4, 1, 5), (5, .iand, 1, 6), (6, .ifCond .eq 7, 3, 9), (9, .iconst 1, 1, 10), (10, .goto 4, 3, 13), (13, .iconst 0, 1, 14), (14, .ireturn, 1, 15)]
theorem ktX10_latestIsWrong : TbOK mX10_latestIsWrong tX10_latestIsWrong := by
  unfold TbOK
  decide +kernel
theorem kdX10_latestIsWrong (k : Nat) {pc : Nat} {i : Instr} {len nx : Nat} (hk : tX10_latestIsWrong[k]? = some (pc, i, len, nx)) : Dc mX10_latestIsWrong pc i len nx := dc_of ktX10_latestIsWrong k hk
theorem iX10_latestIsWrong : MiV mX10_latestIsWrong := ⟨⟨gdw_of (i := 1032) (by decide +kernel) (by decide +kernel), gdw_of (i := 118) (by decide +kernel) (by decide +kernel), by decide, by decide, by decide⟩, gdw_of (i := 1030) (by decide +kernel) (by decide +kernel), gdw_of (i := 1031) (by decide +kernel) (by decide +kernel)⟩
abbrev mX10_zWith : hMt := (yX10_zWith, cX10_zWith, 5, some .int)
def tX10_zWith : hTb := [(0, .aload_n 0, 1, 1), (1, .getfield 50, 3, 4), (4, .istore_n 3, 1, 5), (5, .iconst 0, 1, 6), (6, .istore 4, 2, 8), (8, .iload 4, 2, 10), (10, .iload_n 2, 1, 11), (11, .if_icmp .ge 35, 3, 14), (14, .iload 4, 2, 16), (16, .iconst 3, 1, 17), (17, .if_icmp .ge 29, 3, 20), (20, .iload_n 3, 1, 21), (21, .bipush 64, 2, 23), (23, .aload_n 0, 1, 24), (24, .getfield 9, 3, 27), (27, .iload 4, 2, 29), (29, .iaload, 1, 30), (30, .imul, 1, 31), (31, .iload_n 1, 1, 32), (32, .iload 4, 2, 34), (34, .invokestatic 77, 3, 37), (37, .imul, 1, 38), (38, .isub, 1, 39), (39, .istore_n 3, 1, 40), (40, .iinc 4 1, 3, 43), (43, .goto (-35), 3, 46), (46, .iload_n 3, 1, 47), (47, .ireturn, 1, 48)]
theorem ktX10_zWith : TbOK mX10_zWith tX10_zWith := by
  unfold TbOK
  decide +kernel
theorem kdX10_zWith (k : Nat) {pc : Nat} {i : Instr} {len nx : Nat} (hk : tX10_zWith[k]? = some (pc, i, len, nx)) : Dc mX10_zWith pc i len nx := dc_of ktX10_zWith k hk
theorem iX10_zWith : MiV mX10_zWith := ⟨⟨gdw_of (i := 1262) (by decide +kernel) (by decide +kernel), gdw_of (i := 118) (by decide +kernel) (by decide +kernel), by decide, by decide, by decide⟩, gdw_of (i := 1260) (by decide +kernel) (by decide +kernel), gdw_of (i := 1261) (by decide +kernel) (by decide +kernel)⟩
abbrev mX5_placeOf : hMt := (yX5_placeOf, cX5_placeOf, 3, some .int)
def tX5_placeOf : hTb := [(0, .aload_n 0, 1, 1), (1, .getfield 15, 3, 4), (4, .arraylength, 1, 5), (5, .istore_n 2, 1, 6), (6, .iload_n 2, 1, 7), (7, .ifCond .le 11, 3, 10), (10, .iload_n 1, 1, 11), (11, .iload_n 2, 1, 12), (12, .invokestatic 27, 3, 15), (15, .goto 4, 3, 18), (18, .iconst 0, 1, 19), (19, .ireturn, 1, 20)]
theorem ktX5_placeOf : TbOK mX5_placeOf tX5_placeOf := by
  unfold TbOK
  decide +kernel
theorem kdX5_placeOf (k : Nat) {pc : Nat} {i : Instr} {len nx : Nat} (hk : tX5_placeOf[k]? = some (pc, i, len, nx)) : Dc mX5_placeOf pc i len nx := dc_of ktX5_placeOf k hk
theorem iX5_placeOf : MiV mX5_placeOf := ⟨⟨gdw_of (i := 807) (by decide +kernel) (by decide +kernel), gdw_of (i := 119) (by decide +kernel) (by decide +kernel), by decide, by decide, by decide⟩, gdw_of (i := 806) (by decide +kernel) (by decide +kernel), gdw_of (i := 16) (by decide +kernel) (by decide +kernel)⟩
abbrev mX5_keep : hMt := (yX5_keep, cX5_keep, 4, none)
def tX5_keep : hTb := [(0, .aload_n 0, 1, 1), (1, .iload_n 1, 1, 2), (2, .invokevirtual 30, 3, 5), (5, .istore_n 3, 1, 6), (6, .aload_n 0, 1, 7), (7, .getfield 15, 3, 10), (10, .iload_n 3, 1, 11), (11, .aload_n 2, 1, 12), (12, .getfield 34, 3, 15), (15, .iastore, 1, 16), (16, .aload_n 0, 1, 17), (17, .getfield 21, 3, 20), (20, .iload_n 3, 1, 21), (21, .aload_n 2, 1, 22), (22, .getfield 40, 3, 25), (25, .iastore, 1, 26), (26, .aload_n 0, 1, 27), (27, .getfield 24, 3, 30), (30, .iload_n 3, 1, 31), (31, .aload_n 2, 1, 32), (32, .getfield 43, 3, 35), (35, .iastore, 1, 36), (36, .return_, 1, 37)]
theorem ktX5_keep : TbOK mX5_keep tX5_keep := by
  unfold TbOK
  decide +kernel
theorem kdX5_keep (k : Nat) {pc : Nat} {i : Instr} {len nx : Nat} (hk : tX5_keep[k]? = some (pc, i, len, nx)) : Dc mX5_keep pc i len nx := dc_of ktX5_keep k hk
theorem iX5_keep : MiV mX5_keep := ⟨⟨gdw_of (i := 1028) (by decide +kernel) (by decide +kernel), gdw_of (i := 119) (by decide +kernel) (by decide +kernel), by decide, by decide, by decide⟩, gdw_of (i := 1026) (by decide +kernel) (by decide +kernel), gdw_of (i := 1027) (by decide +kernel) (by decide +kernel)⟩
abbrev mX5_entry : hMt := (yX5_entry, cX5_entry, 4, some .int)
def tX5_entry : hTb := [(0, .aload_n 0, 1, 1), (1, .iload_n 1, 1, 2), (2, .invokevirtual 30, 3, 5), (5, .istore_n 3, 1, 6), (6, .iload_n 2, 1, 7), (7, .tableswitch 46 0 2 #[25, 32, 39], 25, 32), (32, .aload_n 0, 1, 33), (33, .getfield 15, 3, 36), (36, .iload_n 3, 1, 37), (37, .iaload, 1, 38), (38, .ireturn, 1, 39), (39, .aload_n 0, 1, 40), (40, .getfield 21, 3, 43), (43, .iload_n 3, 1, 44), (44, .iaload, 1, 45), (45, .ireturn, 1, 46), (46, .aload_n 0, 1, 47), (47, .getfield 24, 3, 50), (50, .iload_n 3, 1, 51), (51, .iaload, 1, 52), (52, .ireturn, 1, 53), (53, .ldc 45, 2, 55), (55, .ireturn, 1, 56)]
theorem ktX5_entry : TbOK mX5_entry tX5_entry := by
  unfold TbOK
  decide +kernel
theorem kdX5_entry (k : Nat) {pc : Nat} {i : Instr} {len nx : Nat} (hk : tX5_entry[k]? = some (pc, i, len, nx)) : Dc mX5_entry pc i len nx := dc_of ktX5_entry k hk
theorem iX5_entry : MiV mX5_entry := ⟨⟨gdw_of (i := 803) (by decide +kernel) (by decide +kernel), gdw_of (i := 119) (by decide +kernel) (by decide +kernel), by decide, by decide, by decide⟩, gdw_of (i := 801) (by decide +kernel) (by decide +kernel), gdw_of (i := 802) (by decide +kernel) (by decide +kernel)⟩
abbrev mX5_copyLatest : hMt := (yX5_copyLatest, cX5_copyLatest, 6, none)
def tX5_copyLatest : hTb := [(0, .iload_n 2, 1, 1), (1, .bipush 60, 2, 3), (3, .isub, 1, 4), (4, .iconst 0, 1, 5), (5, .invokestatic 9, 3, 8), (8, .istore_n 3, 1, 9), (9, .iload_n 3, 1, 10), (10, .iload_n 2, 1, 11), (11, .if_icmp .ge 65, 3, 14), (14, .aload_n 1, 1, 15), (15, .iload_n 3, 1, 16), (16, .invokevirtual 30, 3, 19), (19, .istore 4, 2, 21), (21, .aload_n 0, 1, 22), (22, .iload_n 3, 1, 23), (23, .invokevirtual 30, 3, 26), (26, .istore 5, 2, 28), (28, .aload_n 0, 1, 29), (29, .getfield 15, 3, 32), (32, .iload 5, 2, 34), (34, .aload_n 1, 1, 35), (35, .getfield 15, 3, 38), (38, .iload 4, 2, 40), (40, .iaload, 1, 41), (41, .iastore, 1, 42), (42, .aload_n 0, 1, 43), (43, .getfield 21, 3, 46), (46, .iload 5, 2, 48), (48, .aload_n 1, 1, 49), (49, .getfield 21, 3, 52), (52, .iload 4, 2, 54), (54, .iaload, 1, 55), (55, .iastore, 1, 56), (56, .aload_n 0, 1, 57), (57, .getfield 24, 3, 60), (60, .iload 5, 2, 62), (62, .aload_n 1, 1, 63), (63, .getfield 24, 3, 66), (66, .iload 4, 2, 68), (68, .iaload, 1, 69), (69, .iastore, 1, 70), (70, .iinc 3 1, 3, 73), (73, .goto (-64), 3, 76), (76, .return_, 1, 77)]
theorem ktX5_copyLatest : TbOK mX5_copyLatest tX5_copyLatest := by
  unfold TbOK
  decide +kernel
theorem kdX5_copyLatest (k : Nat) {pc : Nat} {i : Instr} {len nx : Nat} (hk : tX5_copyLatest[k]? = some (pc, i, len, nx)) : Dc mX5_copyLatest pc i len nx := dc_of ktX5_copyLatest k hk
theorem iX5_copyLatest : MiV mX5_copyLatest := ⟨⟨gdw_of (i := 1110) (by decide +kernel) (by decide +kernel), gdw_of (i := 119) (by decide +kernel) (by decide +kernel), by decide, by decide, by decide⟩, gdw_of (i := 1108) (by decide +kernel) (by decide +kernel), gdw_of (i := 1109) (by decide +kernel) (by decide +kernel)⟩
theorem lX11_114 : Lk RX11 114 mX4_ruleOf := Or.inl (gdw_of (i := 750) (by decide +kernel) (by decide +kernel))
theorem lX11_119 : Lk RX11 119 mX4_pulseLength := Or.inl (gdw_of (i := 756) (by decide +kernel) (by decide +kernel))
theorem lX11_122 : Lk RX11 122 mX4_pulseAt := Or.inl (gdw_of (i := 757) (by decide +kernel) (by decide +kernel))
theorem lX11_125 : Lk RX11 125 mX4_wordLength := Or.inl (gdw_of (i := 761) (by decide +kernel) (by decide +kernel))
theorem lX11_128 : Lk RX11 128 mX4_wordAt := Or.inl (gdw_of (i := 765) (by decide +kernel) (by decide +kernel))
theorem lX11_156 : Lk RX11 156 mX5_entry := Or.inl (gdw_of (i := 800) (by decide +kernel) (by decide +kernel))
theorem lX11_196 : Lk RX11 196 mX5_copyLatest := Or.inl (gdw_of (i := 1107) (by decide +kernel) (by decide +kernel))
theorem lX11_206 : Lk RX11 206 mX7_part := Or.inl (gdw_of (i := 1123) (by decide +kernel) (by decide +kernel))
theorem lX11_292 : Lk RX11 292 mX4_backTaps := Or.inl (gdw_of (i := 1258) (by decide +kernel) (by decide +kernel))
theorem lX11_295 : Lk RX11 295 mX10_zWith := Or.inl (gdw_of (i := 1259) (by decide +kernel) (by decide +kernel))
theorem lX11_345 : Lk RX11 345 mX4_copy := Or.inl (gdw_of (i := 710) (by decide +kernel) (by decide +kernel))
theorem lX11_351 : Lk RX11 351 mX4_allTaps := Or.inl (gdw_of (i := 732) (by decide +kernel) (by decide +kernel))
theorem lX11_358 : Lk RX11 358 mX7_copy := Or.inl (gdw_of (i := 741) (by decide +kernel) (by decide +kernel))
theorem lX11_388 : Lk RX11 388 mX7_has := Or.inl (gdw_of (i := 1140) (by decide +kernel) (by decide +kernel))
theorem lX11_400 : Lk RX11 400 mX5_keep := Or.inl (gdw_of (i := 1025) (by decide +kernel) (by decide +kernel))
theorem lX11_404 : Lk RX11 404 mX10_latestIsWrong := Or.inl (gdw_of (i := 1029) (by decide +kernel) (by decide +kernel))
theorem lX11_440 : Lk RX11 440 mX4_delay := Or.inl (gdw_of (i := 884) (by decide +kernel) (by decide +kernel))
theorem lX1_27 : Lk RX1 27 mX4_backTaps := Or.inl (gdw_of (i := 1208) (by decide +kernel) (by decide +kernel))
theorem lX1_49 : Lk RX1 49 mX4_foreTaps := Or.inl (gdw_of (i := 1213) (by decide +kernel) (by decide +kernel))
theorem lX1_69 : Lk RX1 69 mX4_delay := Or.inl (gdw_of (i := 1220) (by decide +kernel) (by decide +kernel))
theorem lX3_21 : Lk RX3 21 mX4_foreTaps := Or.inl (gdw_of (i := 859) (by decide +kernel) (by decide +kernel))
theorem lX3_27 : Lk RX3 27 mX4_delay := Or.inl (gdw_of (i := 863) (by decide +kernel) (by decide +kernel))
theorem lX3_34 : Lk RX3 34 mX4_pulseLength := Or.inl (gdw_of (i := 870) (by decide +kernel) (by decide +kernel))
theorem lX3_37 : Lk RX3 37 mX4_pulseAt := Or.inl (gdw_of (i := 871) (by decide +kernel) (by decide +kernel))
theorem lX3_41 : Lk RX3 41 mX4_allTaps := Or.inl (gdw_of (i := 855) (by decide +kernel) (by decide +kernel))
theorem lX5_30 : Lk RX5 30 mX5_placeOf := Or.inl (gdw_of (i := 804) (by decide +kernel) (by decide +kernel))
theorem lX6_62 : Lk RX6 62 mX4_pulseLength := Or.inl (gdw_of (i := 662) (by decide +kernel) (by decide +kernel))
theorem lX6_116 : Lk RX6 116 mX4_put := Or.inl (gdw_of (i := 649) (by decide +kernel) (by decide +kernel))
theorem lX6_131 : Lk RX6 131 mX7_open := Or.inl (gdw_of (i := 680) (by decide +kernel) (by decide +kernel))
theorem lX6_144 : Lk RX6 144 mX7_put := Or.inl (gdw_of (i := 694) (by decide +kernel) (by decide +kernel))
theorem lX7_30 : Lk RX7 30 mX7_has := Or.inl (gdw_of (i := 698) (by decide +kernel) (by decide +kernel))
theorem lX8_38 : Lk RX8 38 mX10_clear := Or.inl (gdw_of (i := 724) (by decide +kernel) (by decide +kernel))
theorem lX8_51 : Lk RX8 51 mX4_ruleOf := Or.inl (gdw_of (i := 728) (by decide +kernel) (by decide +kernel))
theorem lX8_92 : Lk RX8 92 mX10_copy := Or.inl (gdw_of (i := 916) (by decide +kernel) (by decide +kernel))
theorem lX8_151 : Lk RX8 151 mX4_wordLength := Or.inl (gdw_of (i := 937) (by decide +kernel) (by decide +kernel))
theorem lX8_154 : Lk RX8 154 mX4_wordAt := Or.inl (gdw_of (i := 938) (by decide +kernel) (by decide +kernel))
theorem lX8_187 : Lk RX8 187 mX10_hear := Or.inl (gdw_of (i := 991) (by decide +kernel) (by decide +kernel))
theorem lX8_195 : Lk RX8 195 mX4_backTaps := Or.inl (gdw_of (i := 972) (by decide +kernel) (by decide +kernel))
theorem lX8_198 : Lk RX8 198 mX10_judge := Or.inl (gdw_of (i := 1015) (by decide +kernel) (by decide +kernel))
theorem lX8_220 : Lk RX8 220 mX4_delay := Or.inl (gdw_of (i := 980) (by decide +kernel) (by decide +kernel))
theorem lX8_223 : Lk RX8 223 mX4_pulseAt := Or.inl (gdw_of (i := 962) (by decide +kernel) (by decide +kernel))
theorem lX8_226 : Lk RX8 226 mX4_foreTaps := Or.inl (gdw_of (i := 967) (by decide +kernel) (by decide +kernel))
theorem lX10_74 : Lk RX10 74 mX10_closeRun := Or.inl (gdw_of (i := 1020) (by decide +kernel) (by decide +kernel))
def JX4_put (n : Nat) (a1 : Int32) (a2 : Int32) (a3 : Int32) (m : hM) : hR :=
  calI (JX11_within a1 0 12 m) fun x2 m1 =>
  if x2 = 0 then (some (none, m1)) else (calI (JX11_within a2 0 15 m1) fun x4 m3 =>
  if x4 = 0 then (some (none, m3)) else (if a1 = 0 then (ast m3 6 n a2 a3 fun m8 =>
  ast m8 5 n 0 (a2 + 1) fun m9 =>
  some (none, m9)) else (if a1 = 12 then (ast m3 7 n a2 a3 fun m6 =>
  ast m6 5 n 12 (a2 + 1) fun m7 =>
  some (none, m7)) else (ast m3 5 n a1 a3 fun m5 =>
  some (none, m5)))))
set_option maxRecDepth 20000 in
theorem CX4_put (n : Nat) (a1 : Int32) (a2 : Int32) (a3 : Int32) (m : hM) : Cn mX4_put 1 [.inr (.inr (4, n)), .inl a1, .inl a2, .inl a3] m (JX4_put n a1 a2 a3 m) := by
  refine cn_of (by decide +kernel) (by simp only [List.map, vcat, List.sum_cons, List.sum_nil]; decide) ?_
  unfold JX4_put
  show G mX4_put 1 0 [(0, .inr (.inr (4, n))), (1, .inl a1), (2, .inl a2), (3, .inl a3)] [] m _
  refine g_iload_n 1 (kdX4_put 0 rfl) rfl ?_
  refine g_iconst (v := 0) (kdX4_put 1 rfl) (by decide) ?_
  refine g_bipush (v := 12) (kdX4_put 2 rfl) (by decide) ?_
  refine g_calI (ck_S (As := [.inl a1, .inl 0, .inl 12]) (S := []) (kdX4_put 3 rfl) iX11_within lX4_31 rfl rfl rfl (by decide) (by simp only [List.map, vcat, List.sum_cons, List.sum_nil]; decide)) (CX11_within a1 0 12 m) (fun x2 m1 => ?_)
  refine g_if_eq (tgt := 20) (kdX4_put 4 rfl) (by decide) (fun _ => ?_) (fun _ => ?_)
  · exact g_vret rfl (kdX4_put 10 rfl)
  · refine g_iload_n 2 (kdX4_put 5 rfl) rfl ?_
    refine g_iconst (v := 0) (kdX4_put 6 rfl) (by decide) ?_
    refine g_bipush (v := 15) (kdX4_put 7 rfl) (by decide) ?_
    refine g_calI (ck_S (As := [.inl a2, .inl 0, .inl 15]) (S := []) (kdX4_put 8 rfl) iX11_within lX4_31 rfl rfl rfl (by decide) (by simp only [List.map, vcat, List.sum_cons, List.sum_nil]; decide)) (CX11_within a2 0 15 m1) (fun x4 m3 => ?_)
    refine g_if_ne (tgt := 21) (kdX4_put 9 rfl) (by decide) (fun _ => ?_) (fun _ => ?_)
    · refine g_iload_n 1 (kdX4_put 11 rfl) rfl ?_
      refine g_if_ne (tgt := 44) (kdX4_put 12 rfl) (by decide) (fun _ => ?_) (fun _ => ?_)
      · refine g_iload_n 1 (kdX4_put 26 rfl) rfl ?_
        refine g_bipush (v := 12) (kdX4_put 27 rfl) (by decide) ?_
        refine g_icmp_ne (tgt := 70) (kdX4_put 28 rfl) (by decide) (fun _ => ?_) (fun _ => ?_)
        · refine g_aload_n 0 (kdX4_put 42 rfl) rfl ?_
          refine g_get (v := .inr (.inr (5, n))) (kdX4_put 43 rfl) fX4_9 rfl ?_
          refine g_iload_n 1 (kdX4_put 44 rfl) rfl ?_
          refine g_iload_n 3 (kdX4_put 45 rfl) rfl ?_
          refine g_iast (kdX4_put 46 rfl) (fun m5 => ?_)
          exact g_vret rfl (kdX4_put 47 rfl)
        · refine g_aload_n 0 (kdX4_put 29 rfl) rfl ?_
          refine g_get (v := .inr (.inr (7, n))) (kdX4_put 30 rfl) fX4_18 rfl ?_
          refine g_iload_n 2 (kdX4_put 31 rfl) rfl ?_
          refine g_iload_n 3 (kdX4_put 32 rfl) rfl ?_
          refine g_iast (kdX4_put 33 rfl) (fun m6 => ?_)
          refine g_aload_n 0 (kdX4_put 34 rfl) rfl ?_
          refine g_get (v := .inr (.inr (5, n))) (kdX4_put 35 rfl) fX4_9 rfl ?_
          refine g_bipush (v := 12) (kdX4_put 36 rfl) (by decide) ?_
          refine g_iload_n 2 (kdX4_put 37 rfl) rfl ?_
          refine g_iconst (v := 1) (kdX4_put 38 rfl) (by decide) ?_
          refine g_iadd (kdX4_put 39 rfl) ?_
          refine g_iast (kdX4_put 40 rfl) (fun m7 => ?_)
          refine g_goto (tgt := 77) (kdX4_put 41 rfl) (by decide) ?_
          exact g_vret rfl (kdX4_put 47 rfl)
      · refine g_aload_n 0 (kdX4_put 13 rfl) rfl ?_
        refine g_get (v := .inr (.inr (6, n))) (kdX4_put 14 rfl) fX4_15 rfl ?_
        refine g_iload_n 2 (kdX4_put 15 rfl) rfl ?_
        refine g_iload_n 3 (kdX4_put 16 rfl) rfl ?_
        refine g_iast (kdX4_put 17 rfl) (fun m8 => ?_)
        refine g_aload_n 0 (kdX4_put 18 rfl) rfl ?_
        refine g_get (v := .inr (.inr (5, n))) (kdX4_put 19 rfl) fX4_9 rfl ?_
        refine g_iconst (v := 0) (kdX4_put 20 rfl) (by decide) ?_
        refine g_iload_n 2 (kdX4_put 21 rfl) rfl ?_
        refine g_iconst (v := 1) (kdX4_put 22 rfl) (by decide) ?_
        refine g_iadd (kdX4_put 23 rfl) ?_
        refine g_iast (kdX4_put 24 rfl) (fun m9 => ?_)
        refine g_goto (tgt := 77) (kdX4_put 25 rfl) (by decide) ?_
        exact g_vret rfl (kdX4_put 47 rfl)
    · exact g_vret rfl (kdX4_put 10 rfl)
def JX4_copy (n : Nat) (n1 : Nat) (m : hM) : hR :=
  acp m 5 n1 0 5 n 0 13 fun m1 =>
  acp m1 6 n1 0 6 n 0 16 fun m2 =>
  acp m2 7 n1 0 7 n 0 16 fun m3 =>
  some (none, m3)
set_option maxRecDepth 20000 in
theorem CX4_copy (n : Nat) (n1 : Nat) (m : hM) : Cn mX4_copy 1 [.inr (.inr (4, n)), .inr (.inr (4, n1))] m (JX4_copy n n1 m) := by
  refine cn_of (by decide +kernel) (by simp only [List.map, vcat, List.sum_cons, List.sum_nil]; decide) ?_
  unfold JX4_copy
  show G mX4_copy 1 0 [(0, .inr (.inr (4, n))), (1, .inr (.inr (4, n1)))] [] m _
  refine g_aload_n 1 (kdX4_copy 0 rfl) rfl ?_
  refine g_get (v := .inr (.inr (5, n1))) (kdX4_copy 1 rfl) fX4_9 rfl ?_
  refine g_iconst (v := 0) (kdX4_copy 2 rfl) (by decide) ?_
  refine g_aload_n 0 (kdX4_copy 3 rfl) rfl ?_
  refine g_get (v := .inr (.inr (5, n))) (kdX4_copy 4 rfl) fX4_9 rfl ?_
  refine g_iconst (v := 0) (kdX4_copy 5 rfl) (by decide) ?_
  refine g_bipush (v := 13) (kdX4_copy 6 rfl) (by decide) ?_
  refine g_acp (kdX4_copy 7 rfl) lX4_35 acW_ok (by decide) (by decide) (fun m1 => ?_)
  refine g_aload_n 1 (kdX4_copy 8 rfl) rfl ?_
  refine g_get (v := .inr (.inr (6, n1))) (kdX4_copy 9 rfl) fX4_15 rfl ?_
  refine g_iconst (v := 0) (kdX4_copy 10 rfl) (by decide) ?_
  refine g_aload_n 0 (kdX4_copy 11 rfl) rfl ?_
  refine g_get (v := .inr (.inr (6, n))) (kdX4_copy 12 rfl) fX4_15 rfl ?_
  refine g_iconst (v := 0) (kdX4_copy 13 rfl) (by decide) ?_
  refine g_bipush (v := 16) (kdX4_copy 14 rfl) (by decide) ?_
  refine g_acp (kdX4_copy 15 rfl) lX4_35 acW_ok (by decide) (by decide) (fun m2 => ?_)
  refine g_aload_n 1 (kdX4_copy 16 rfl) rfl ?_
  refine g_get (v := .inr (.inr (7, n1))) (kdX4_copy 17 rfl) fX4_18 rfl ?_
  refine g_iconst (v := 0) (kdX4_copy 18 rfl) (by decide) ?_
  refine g_aload_n 0 (kdX4_copy 19 rfl) rfl ?_
  refine g_get (v := .inr (.inr (7, n))) (kdX4_copy 20 rfl) fX4_18 rfl ?_
  refine g_iconst (v := 0) (kdX4_copy 21 rfl) (by decide) ?_
  refine g_bipush (v := 16) (kdX4_copy 22 rfl) (by decide) ?_
  refine g_acp (kdX4_copy 23 rfl) lX4_35 acW_ok (by decide) (by decide) (fun m3 => ?_)
  exact g_vret rfl (kdX4_copy 24 rfl)
def JX4_ruleOf (n : Nat) (a1 : Int32) (m : hM) : hR :=
  calI (JX11_within a1 0 12 m) fun x2 m1 =>
  if x2 = 0 then (some (some (.inl (-1)), m1)) else (ald m1 5 n a1 fun x3 =>
  some (some (.inl x3), m1))
set_option maxRecDepth 20000 in
theorem CX4_ruleOf (n : Nat) (a1 : Int32) (m : hM) : Cn mX4_ruleOf 1 [.inr (.inr (4, n)), .inl a1] m (JX4_ruleOf n a1 m) := by
  refine cn_of (by decide +kernel) (by simp only [List.map, vcat, List.sum_cons, List.sum_nil]; decide) ?_
  unfold JX4_ruleOf
  show G mX4_ruleOf 1 0 [(0, .inr (.inr (4, n))), (1, .inl a1)] [] m _
  refine g_iload_n 1 (kdX4_ruleOf 0 rfl) rfl ?_
  refine g_iconst (v := 0) (kdX4_ruleOf 1 rfl) (by decide) ?_
  refine g_bipush (v := 12) (kdX4_ruleOf 2 rfl) (by decide) ?_
  refine g_calI (ck_S (As := [.inl a1, .inl 0, .inl 12]) (S := []) (kdX4_ruleOf 3 rfl) iX11_within lX4_31 rfl rfl rfl (by decide) (by simp only [List.map, vcat, List.sum_cons, List.sum_nil]; decide)) (CX11_within a1 0 12 m) (fun x2 m1 => ?_)
  refine g_if_eq (tgt := 19) (kdX4_ruleOf 4 rfl) (by decide) (fun _ => ?_) (fun _ => ?_)
  · refine g_iconst (v := (-1)) (kdX4_ruleOf 10 rfl) (by decide) ?_
    exact g_iret rfl (kdX4_ruleOf 11 rfl)
  · refine g_aload_n 0 (kdX4_ruleOf 5 rfl) rfl ?_
    refine g_get (v := .inr (.inr (5, n))) (kdX4_ruleOf 6 rfl) fX4_9 rfl ?_
    refine g_iload_n 1 (kdX4_ruleOf 7 rfl) rfl ?_
    refine g_iald (kdX4_ruleOf 8 rfl) (fun x3 => ?_)
    refine g_goto (tgt := 20) (kdX4_ruleOf 9 rfl) (by decide) ?_
    exact g_iret rfl (kdX4_ruleOf 11 rfl)
def JX4_pulseLength (n : Nat) (m : hM) : hR :=
  ald m 5 n 0 fun x1 =>
  some (some (.inl x1), m)
set_option maxRecDepth 20000 in
theorem CX4_pulseLength (n : Nat) (m : hM) : Cn mX4_pulseLength 0 [.inr (.inr (4, n))] m (JX4_pulseLength n m) := by
  refine cn_of (by decide +kernel) (by simp only [List.map, vcat, List.sum_cons, List.sum_nil]; decide) ?_
  unfold JX4_pulseLength
  show G mX4_pulseLength 0 0 [(0, .inr (.inr (4, n)))] [] m _
  refine g_aload_n 0 (kdX4_pulseLength 0 rfl) rfl ?_
  refine g_get (v := .inr (.inr (5, n))) (kdX4_pulseLength 1 rfl) fX4_9 rfl ?_
  refine g_iconst (v := 0) (kdX4_pulseLength 2 rfl) (by decide) ?_
  refine g_iald (kdX4_pulseLength 3 rfl) (fun x1 => ?_)
  exact g_iret rfl (kdX4_pulseLength 4 rfl)
def JX4_pulseAt (n : Nat) (a1 : Int32) (m : hM) : hR :=
  if a1 < 0 then (some (some (.inl 0), m)) else (ald m 5 n 0 fun x1 =>
  if x1 ≤ a1 then (some (some (.inl 0), m)) else (if 16 ≤ a1 then (some (some (.inl 0), m)) else (ald m 6 n a1 fun x2 =>
  some (some (.inl x2), m))))
set_option maxRecDepth 20000 in
theorem CX4_pulseAt (n : Nat) (a1 : Int32) (m : hM) : Cn mX4_pulseAt 0 [.inr (.inr (4, n)), .inl a1] m (JX4_pulseAt n a1 m) := by
  refine cn_of (by decide +kernel) (by simp only [List.map, vcat, List.sum_cons, List.sum_nil]; decide) ?_
  unfold JX4_pulseAt
  show G mX4_pulseAt 0 0 [(0, .inr (.inr (4, n))), (1, .inl a1)] [] m _
  refine g_iload_n 1 (kdX4_pulseAt 0 rfl) rfl ?_
  refine g_if_lt (tgt := 29) (kdX4_pulseAt 1 rfl) (by decide) (fun _ => ?_) (fun _ => ?_)
  · refine g_iconst (v := 0) (kdX4_pulseAt 16 rfl) (by decide) ?_
    exact g_iret rfl (kdX4_pulseAt 17 rfl)
  · refine g_iload_n 1 (kdX4_pulseAt 2 rfl) rfl ?_
    refine g_aload_n 0 (kdX4_pulseAt 3 rfl) rfl ?_
    refine g_get (v := .inr (.inr (5, n))) (kdX4_pulseAt 4 rfl) fX4_9 rfl ?_
    refine g_iconst (v := 0) (kdX4_pulseAt 5 rfl) (by decide) ?_
    refine g_iald (kdX4_pulseAt 6 rfl) (fun x1 => ?_)
    refine g_icmp_ge (tgt := 29) (kdX4_pulseAt 7 rfl) (by decide) (fun _ => ?_) (fun _ => ?_)
    · refine g_iconst (v := 0) (kdX4_pulseAt 16 rfl) (by decide) ?_
      exact g_iret rfl (kdX4_pulseAt 17 rfl)
    · refine g_iload_n 1 (kdX4_pulseAt 8 rfl) rfl ?_
      refine g_bipush (v := 16) (kdX4_pulseAt 9 rfl) (by decide) ?_
      refine g_icmp_ge (tgt := 29) (kdX4_pulseAt 10 rfl) (by decide) (fun _ => ?_) (fun _ => ?_)
      · refine g_iconst (v := 0) (kdX4_pulseAt 16 rfl) (by decide) ?_
        exact g_iret rfl (kdX4_pulseAt 17 rfl)
      · refine g_aload_n 0 (kdX4_pulseAt 11 rfl) rfl ?_
        refine g_get (v := .inr (.inr (6, n))) (kdX4_pulseAt 12 rfl) fX4_15 rfl ?_
        refine g_iload_n 1 (kdX4_pulseAt 13 rfl) rfl ?_
        refine g_iald (kdX4_pulseAt 14 rfl) (fun x2 => ?_)
        refine g_goto (tgt := 30) (kdX4_pulseAt 15 rfl) (by decide) ?_
        exact g_iret rfl (kdX4_pulseAt 17 rfl)
def JX4_wordLength (n : Nat) (m : hM) : hR :=
  ald m 5 n 12 fun x1 =>
  some (some (.inl x1), m)
set_option maxRecDepth 20000 in
theorem CX4_wordLength (n : Nat) (m : hM) : Cn mX4_wordLength 0 [.inr (.inr (4, n))] m (JX4_wordLength n m) := by
  refine cn_of (by decide +kernel) (by simp only [List.map, vcat, List.sum_cons, List.sum_nil]; decide) ?_
  unfold JX4_wordLength
  show G mX4_wordLength 0 0 [(0, .inr (.inr (4, n)))] [] m _
  refine g_aload_n 0 (kdX4_wordLength 0 rfl) rfl ?_
  refine g_get (v := .inr (.inr (5, n))) (kdX4_wordLength 1 rfl) fX4_9 rfl ?_
  refine g_bipush (v := 12) (kdX4_wordLength 2 rfl) (by decide) ?_
  refine g_iald (kdX4_wordLength 3 rfl) (fun x1 => ?_)
  exact g_iret rfl (kdX4_wordLength 4 rfl)
def JX4_wordAt (n : Nat) (a1 : Int32) (m : hM) : hR :=
  if a1 < 0 then (some (some (.inl 0), m)) else (ald m 5 n 12 fun x1 =>
  if x1 ≤ a1 then (some (some (.inl 0), m)) else (if 16 ≤ a1 then (some (some (.inl 0), m)) else (ald m 7 n a1 fun x2 =>
  some (some (.inl x2), m))))
set_option maxRecDepth 20000 in
theorem CX4_wordAt (n : Nat) (a1 : Int32) (m : hM) : Cn mX4_wordAt 0 [.inr (.inr (4, n)), .inl a1] m (JX4_wordAt n a1 m) := by
  refine cn_of (by decide +kernel) (by simp only [List.map, vcat, List.sum_cons, List.sum_nil]; decide) ?_
  unfold JX4_wordAt
  show G mX4_wordAt 0 0 [(0, .inr (.inr (4, n))), (1, .inl a1)] [] m _
  refine g_iload_n 1 (kdX4_wordAt 0 rfl) rfl ?_
  refine g_if_lt (tgt := 30) (kdX4_wordAt 1 rfl) (by decide) (fun _ => ?_) (fun _ => ?_)
  · refine g_iconst (v := 0) (kdX4_wordAt 16 rfl) (by decide) ?_
    exact g_iret rfl (kdX4_wordAt 17 rfl)
  · refine g_iload_n 1 (kdX4_wordAt 2 rfl) rfl ?_
    refine g_aload_n 0 (kdX4_wordAt 3 rfl) rfl ?_
    refine g_get (v := .inr (.inr (5, n))) (kdX4_wordAt 4 rfl) fX4_9 rfl ?_
    refine g_bipush (v := 12) (kdX4_wordAt 5 rfl) (by decide) ?_
    refine g_iald (kdX4_wordAt 6 rfl) (fun x1 => ?_)
    refine g_icmp_ge (tgt := 30) (kdX4_wordAt 7 rfl) (by decide) (fun _ => ?_) (fun _ => ?_)
    · refine g_iconst (v := 0) (kdX4_wordAt 16 rfl) (by decide) ?_
      exact g_iret rfl (kdX4_wordAt 17 rfl)
    · refine g_iload_n 1 (kdX4_wordAt 8 rfl) rfl ?_
      refine g_bipush (v := 16) (kdX4_wordAt 9 rfl) (by decide) ?_
      refine g_icmp_ge (tgt := 30) (kdX4_wordAt 10 rfl) (by decide) (fun _ => ?_) (fun _ => ?_)
      · refine g_iconst (v := 0) (kdX4_wordAt 16 rfl) (by decide) ?_
        exact g_iret rfl (kdX4_wordAt 17 rfl)
      · refine g_aload_n 0 (kdX4_wordAt 11 rfl) rfl ?_
        refine g_get (v := .inr (.inr (7, n))) (kdX4_wordAt 12 rfl) fX4_18 rfl ?_
        refine g_iload_n 1 (kdX4_wordAt 13 rfl) rfl ?_
        refine g_iald (kdX4_wordAt 14 rfl) (fun x2 => ?_)
        refine g_goto (tgt := 31) (kdX4_wordAt 15 rfl) (by decide) ?_
        exact g_iret rfl (kdX4_wordAt 17 rfl)
def JX4_foreTaps (n : Nat) (m : hM) : hR :=
  ald m 5 n 1 fun x1 =>
  some (some (.inl x1), m)
set_option maxRecDepth 20000 in
theorem CX4_foreTaps (n : Nat) (m : hM) : Cn mX4_foreTaps 0 [.inr (.inr (4, n))] m (JX4_foreTaps n m) := by
  refine cn_of (by decide +kernel) (by simp only [List.map, vcat, List.sum_cons, List.sum_nil]; decide) ?_
  unfold JX4_foreTaps
  show G mX4_foreTaps 0 0 [(0, .inr (.inr (4, n)))] [] m _
  refine g_aload_n 0 (kdX4_foreTaps 0 rfl) rfl ?_
  refine g_get (v := .inr (.inr (5, n))) (kdX4_foreTaps 1 rfl) fX4_9 rfl ?_
  refine g_iconst (v := 1) (kdX4_foreTaps 2 rfl) (by decide) ?_
  refine g_iald (kdX4_foreTaps 3 rfl) (fun x1 => ?_)
  exact g_iret rfl (kdX4_foreTaps 4 rfl)
def JX4_backTaps (n : Nat) (m : hM) : hR :=
  ald m 5 n 2 fun x1 =>
  some (some (.inl x1), m)
set_option maxRecDepth 20000 in
theorem CX4_backTaps (n : Nat) (m : hM) : Cn mX4_backTaps 0 [.inr (.inr (4, n))] m (JX4_backTaps n m) := by
  refine cn_of (by decide +kernel) (by simp only [List.map, vcat, List.sum_cons, List.sum_nil]; decide) ?_
  unfold JX4_backTaps
  show G mX4_backTaps 0 0 [(0, .inr (.inr (4, n)))] [] m _
  refine g_aload_n 0 (kdX4_backTaps 0 rfl) rfl ?_
  refine g_get (v := .inr (.inr (5, n))) (kdX4_backTaps 1 rfl) fX4_9 rfl ?_
  refine g_iconst (v := 2) (kdX4_backTaps 2 rfl) (by decide) ?_
  refine g_iald (kdX4_backTaps 3 rfl) (fun x1 => ?_)
  exact g_iret rfl (kdX4_backTaps 4 rfl)
def JX4_allTaps (n : Nat) (m : hM) : hR :=
  ald m 5 n 1 fun x1 =>
  ald m 5 n 2 fun x2 =>
  some (some (.inl (x1 + x2)), m)
set_option maxRecDepth 20000 in
theorem CX4_allTaps (n : Nat) (m : hM) : Cn mX4_allTaps 0 [.inr (.inr (4, n))] m (JX4_allTaps n m) := by
  refine cn_of (by decide +kernel) (by simp only [List.map, vcat, List.sum_cons, List.sum_nil]; decide) ?_
  unfold JX4_allTaps
  show G mX4_allTaps 0 0 [(0, .inr (.inr (4, n)))] [] m _
  refine g_aload_n 0 (kdX4_allTaps 0 rfl) rfl ?_
  refine g_get (v := .inr (.inr (5, n))) (kdX4_allTaps 1 rfl) fX4_9 rfl ?_
  refine g_iconst (v := 1) (kdX4_allTaps 2 rfl) (by decide) ?_
  refine g_iald (kdX4_allTaps 3 rfl) (fun x1 => ?_)
  refine g_aload_n 0 (kdX4_allTaps 4 rfl) rfl ?_
  refine g_get (v := .inr (.inr (5, n))) (kdX4_allTaps 5 rfl) fX4_9 rfl ?_
  refine g_iconst (v := 2) (kdX4_allTaps 6 rfl) (by decide) ?_
  refine g_iald (kdX4_allTaps 7 rfl) (fun x2 => ?_)
  refine g_iadd (kdX4_allTaps 8 rfl) ?_
  exact g_iret rfl (kdX4_allTaps 9 rfl)
def JX4_delay (n : Nat) (m : hM) : hR :=
  ald m 5 n 3 fun x1 =>
  some (some (.inl x1), m)
set_option maxRecDepth 20000 in
theorem CX4_delay (n : Nat) (m : hM) : Cn mX4_delay 0 [.inr (.inr (4, n))] m (JX4_delay n m) := by
  refine cn_of (by decide +kernel) (by simp only [List.map, vcat, List.sum_cons, List.sum_nil]; decide) ?_
  unfold JX4_delay
  show G mX4_delay 0 0 [(0, .inr (.inr (4, n)))] [] m _
  refine g_aload_n 0 (kdX4_delay 0 rfl) rfl ?_
  refine g_get (v := .inr (.inr (5, n))) (kdX4_delay 1 rfl) fX4_9 rfl ?_
  refine g_iconst (v := 3) (kdX4_delay 2 rfl) (by decide) ?_
  refine g_iald (kdX4_delay 3 rfl) (fun x1 => ?_)
  exact g_iret rfl (kdX4_delay 4 rfl)
def JX7_has (n : Nat) (a1 : Int32) (m : hM) : hR :=
  if a1 < 0 then (jretZ 0 m) else (if (m.1 8 n 3) ≤ a1 then (jretZ 0 m) else (if 12 ≤ a1 then (jretZ 0 m) else (jretZ 1 m)))
set_option maxRecDepth 20000 in
theorem CX7_has (n : Nat) (a1 : Int32) (m : hM) : Cn mX7_has 0 [.inr (.inr (8, n)), .inl a1] m (JX7_has n a1 m) := by
  refine cn_of (by decide +kernel) (by simp only [List.map, vcat, List.sum_cons, List.sum_nil]; decide) ?_
  unfold JX7_has
  show G mX7_has 0 0 [(0, .inr (.inr (8, n))), (1, .inl a1)] [] m _
  refine g_iload_n 1 (kdX7_has 0 rfl) rfl ?_
  refine g_if_lt (tgt := 22) (kdX7_has 1 rfl) (by decide) (fun _ => ?_) (fun _ => ?_)
  · refine g_iconst (v := 0) (kdX7_has 11 rfl) (by decide) ?_
    exact g_zret rfl (kdX7_has 12 rfl)
  · refine g_iload_n 1 (kdX7_has 2 rfl) rfl ?_
    refine g_aload_n 0 (kdX7_has 3 rfl) rfl ?_
    refine g_get (v := .inl (m.1 8 n 3)) (kdX7_has 4 rfl) fX7_21 rfl ?_
    refine g_icmp_ge (tgt := 22) (kdX7_has 5 rfl) (by decide) (fun _ => ?_) (fun _ => ?_)
    · refine g_iconst (v := 0) (kdX7_has 11 rfl) (by decide) ?_
      exact g_zret rfl (kdX7_has 12 rfl)
    · refine g_iload_n 1 (kdX7_has 6 rfl) rfl ?_
      refine g_bipush (v := 12) (kdX7_has 7 rfl) (by decide) ?_
      refine g_icmp_ge (tgt := 22) (kdX7_has 8 rfl) (by decide) (fun _ => ?_) (fun _ => ?_)
      · refine g_iconst (v := 0) (kdX7_has 11 rfl) (by decide) ?_
        exact g_zret rfl (kdX7_has 12 rfl)
      · refine g_iconst (v := 1) (kdX7_has 9 rfl) (by decide) ?_
        refine g_goto (tgt := 23) (kdX7_has 10 rfl) (by decide) ?_
        exact g_zret rfl (kdX7_has 12 rfl)
def JX7_open (n : Nat) (a1 : Int32) (m : hM) : hR :=
  calI (JX11_within (m.1 8 n 3) 0 11 m) fun x2 m1 =>
  if x2 = 0 then (some (none, m1)) else (ast m1 9 n (m1.1 8 n 3) a1 fun m3 =>
  ast m3 10 n (m3.1 8 n 3) (-1000000000) fun m4 =>
  ast m4 11 n (m4.1 8 n 3) (-1000000000) fun m5 =>
  stI m5 8 n 3 ((m5.1 8 n 3) + 1) fun m6 =>
  some (none, m6))
set_option maxRecDepth 20000 in
theorem CX7_open (n : Nat) (a1 : Int32) (m : hM) : Cn mX7_open 1 [.inr (.inr (8, n)), .inl a1] m (JX7_open n a1 m) := by
  refine cn_of (by decide +kernel) (by simp only [List.map, vcat, List.sum_cons, List.sum_nil]; decide) ?_
  unfold JX7_open
  show G mX7_open 1 0 [(0, .inr (.inr (8, n))), (1, .inl a1)] [] m _
  refine g_aload_n 0 (kdX7_open 0 rfl) rfl ?_
  refine g_get (v := .inl (m.1 8 n 3)) (kdX7_open 1 rfl) fX7_21 rfl ?_
  refine g_iconst (v := 0) (kdX7_open 2 rfl) (by decide) ?_
  refine g_bipush (v := 11) (kdX7_open 3 rfl) (by decide) ?_
  refine g_calI (ck_S (As := [.inl (m.1 8 n 3), .inl 0, .inl 11]) (S := []) (kdX7_open 4 rfl) iX11_within lX7_25 rfl rfl rfl (by decide) (by simp only [List.map, vcat, List.sum_cons, List.sum_nil]; decide)) (CX11_within (m.1 8 n 3) 0 11 m) (fun x2 m1 => ?_)
  refine g_if_eq (tgt := 55) (kdX7_open 5 rfl) (by decide) (fun _ => ?_) (fun _ => ?_)
  · exact g_vret rfl (kdX7_open 30 rfl)
  · refine g_aload_n 0 (kdX7_open 6 rfl) rfl ?_
    refine g_get (v := .inr (.inr (9, n))) (kdX7_open 7 rfl) fX7_9 rfl ?_
    refine g_aload_n 0 (kdX7_open 8 rfl) rfl ?_
    refine g_get (v := .inl (m1.1 8 n 3)) (kdX7_open 9 rfl) fX7_21 rfl ?_
    refine g_iload_n 1 (kdX7_open 10 rfl) rfl ?_
    refine g_iast (kdX7_open 11 rfl) (fun m3 => ?_)
    refine g_aload_n 0 (kdX7_open 12 rfl) rfl ?_
    refine g_get (v := .inr (.inr (10, n))) (kdX7_open 13 rfl) fX7_15 rfl ?_
    refine g_aload_n 0 (kdX7_open 14 rfl) rfl ?_
    refine g_get (v := .inl (m3.1 8 n 3)) (kdX7_open 15 rfl) fX7_21 rfl ?_
    refine g_ldc (kdX7_open 16 rfl) cX7_29 ?_
    refine g_iast (kdX7_open 17 rfl) (fun m4 => ?_)
    refine g_aload_n 0 (kdX7_open 18 rfl) rfl ?_
    refine g_get (v := .inr (.inr (11, n))) (kdX7_open 19 rfl) fX7_18 rfl ?_
    refine g_aload_n 0 (kdX7_open 20 rfl) rfl ?_
    refine g_get (v := .inl (m4.1 8 n 3)) (kdX7_open 21 rfl) fX7_21 rfl ?_
    refine g_ldc (kdX7_open 22 rfl) cX7_29 ?_
    refine g_iast (kdX7_open 23 rfl) (fun m5 => ?_)
    refine g_aload_n 0 (kdX7_open 24 rfl) rfl ?_
    refine g_dup (kdX7_open 25 rfl) rfl ?_
    refine g_get (v := .inl (m5.1 8 n 3)) (kdX7_open 26 rfl) fX7_21 rfl ?_
    refine g_iconst (v := 1) (kdX7_open 27 rfl) (by decide) ?_
    refine g_iadd (kdX7_open 28 rfl) ?_
    refine g_putI (kdX7_open 29 rfl) fX7_21 rfl (fun m6 => ?_)
    exact g_vret rfl (kdX7_open 30 rfl)
def JX7_put (n : Nat) (a1 : Int32) (a2 : Int32) (m : hM) : hR :=
  calI (JX7_has n ((m.1 8 n 3) - 1) m) fun x2 m1 =>
  if x2 = 0 then (some (none, m1)) else (if a1 = 0 then (ast m1 10 n ((m1.1 8 n 3) - 1) a2 fun m4 =>
  some (none, m4)) else (ast m1 11 n ((m1.1 8 n 3) - 1) a2 fun m3 =>
  some (none, m3)))
set_option maxRecDepth 20000 in
theorem CX7_put (n : Nat) (a1 : Int32) (a2 : Int32) (m : hM) : Cn mX7_put 1 [.inr (.inr (8, n)), .inl a1, .inl a2] m (JX7_put n a1 a2 m) := by
  refine cn_of (by decide +kernel) (by simp only [List.map, vcat, List.sum_cons, List.sum_nil]; decide) ?_
  unfold JX7_put
  show G mX7_put 1 0 [(0, .inr (.inr (8, n))), (1, .inl a1), (2, .inl a2)] [] m _
  refine g_aload_n 0 (kdX7_put 0 rfl) rfl ?_
  refine g_aload_n 0 (kdX7_put 1 rfl) rfl ?_
  refine g_get (v := .inl (m.1 8 n 3)) (kdX7_put 2 rfl) fX7_21 rfl ?_
  refine g_iconst (v := 1) (kdX7_put 3 rfl) (by decide) ?_
  refine g_isub (kdX7_put 4 rfl) ?_
  refine g_calI (ck_V (As := [.inl ((m.1 8 n 3) - 1)]) (S := []) (t := 8) (o := n) (kdX7_put 5 rfl) iX7_has lX7_30 rc_8 rfl rfl rfl (by decide) (by simp only [List.map, vcat, List.sum_cons, List.sum_nil]; decide)) (CX7_has n ((m.1 8 n 3) - 1) m) (fun x2 m1 => ?_)
  refine g_if_eq (tgt := 44) (kdX7_put 6 rfl) (by decide) (fun _ => ?_) (fun _ => ?_)
  · exact g_vret rfl (kdX7_put 26 rfl)
  · refine g_iload_n 1 (kdX7_put 7 rfl) rfl ?_
    refine g_if_ne (tgt := 32) (kdX7_put 8 rfl) (by decide) (fun _ => ?_) (fun _ => ?_)
    · refine g_aload_n 0 (kdX7_put 18 rfl) rfl ?_
      refine g_get (v := .inr (.inr (11, n))) (kdX7_put 19 rfl) fX7_18 rfl ?_
      refine g_aload_n 0 (kdX7_put 20 rfl) rfl ?_
      refine g_get (v := .inl (m1.1 8 n 3)) (kdX7_put 21 rfl) fX7_21 rfl ?_
      refine g_iconst (v := 1) (kdX7_put 22 rfl) (by decide) ?_
      refine g_isub (kdX7_put 23 rfl) ?_
      refine g_iload_n 2 (kdX7_put 24 rfl) rfl ?_
      refine g_iast (kdX7_put 25 rfl) (fun m3 => ?_)
      exact g_vret rfl (kdX7_put 26 rfl)
    · refine g_aload_n 0 (kdX7_put 9 rfl) rfl ?_
      refine g_get (v := .inr (.inr (10, n))) (kdX7_put 10 rfl) fX7_15 rfl ?_
      refine g_aload_n 0 (kdX7_put 11 rfl) rfl ?_
      refine g_get (v := .inl (m1.1 8 n 3)) (kdX7_put 12 rfl) fX7_21 rfl ?_
      refine g_iconst (v := 1) (kdX7_put 13 rfl) (by decide) ?_
      refine g_isub (kdX7_put 14 rfl) ?_
      refine g_iload_n 2 (kdX7_put 15 rfl) rfl ?_
      refine g_iast (kdX7_put 16 rfl) (fun m4 => ?_)
      refine g_goto (tgt := 44) (kdX7_put 17 rfl) (by decide) ?_
      exact g_vret rfl (kdX7_put 26 rfl)
def JX7_part (n : Nat) (a1 : Int32) (a2 : Int32) (m : hM) : hR :=
  calI (JX7_has n a1 m) fun x2 m1 =>
  if x2 = 0 then (some (some (.inl (-1000000000)), m1)) else (swL a2 [(0, ald m1 9 n a1 fun x3 =>
  some (some (.inl x3), m1)), (1, ald m1 10 n a1 fun x4 =>
  some (some (.inl x4), m1)), (2, ald m1 11 n a1 fun x5 =>
  some (some (.inl x5), m1))] (some (some (.inl (-1000000000)), m1)))
set_option maxRecDepth 20000 in
theorem CX7_part (n : Nat) (a1 : Int32) (a2 : Int32) (m : hM) : Cn mX7_part 1 [.inr (.inr (8, n)), .inl a1, .inl a2] m (JX7_part n a1 a2 m) := by
  refine cn_of (by decide +kernel) (by simp only [List.map, vcat, List.sum_cons, List.sum_nil]; decide) ?_
  unfold JX7_part
  show G mX7_part 1 0 [(0, .inr (.inr (8, n))), (1, .inl a1), (2, .inl a2)] [] m _
  refine g_aload_n 0 (kdX7_part 0 rfl) rfl ?_
  refine g_iload_n 1 (kdX7_part 1 rfl) rfl ?_
  refine g_calI (ck_V (As := [.inl a1]) (S := []) (t := 8) (o := n) (kdX7_part 2 rfl) iX7_has lX7_30 rc_8 rfl rfl rfl (by decide) (by simp only [List.map, vcat, List.sum_cons, List.sum_nil]; decide)) (CX7_has n a1 m) (fun x2 m1 => ?_)
  refine g_if_ne (tgt := 11) (kdX7_part 3 rfl) (by decide) (fun _ => ?_) (fun _ => ?_)
  · refine g_iload_n 2 (kdX7_part 6 rfl) rfl ?_
    refine g_table (offs := [28, 35, 42]) (dt := 61) (kdX7_part 7 rfl) (by simp only [swK]; decide) rfl (by decide) ⟨⟨40, by decide, ?_⟩, ⟨47, by decide, ?_⟩, ⟨54, by decide, ?_⟩, trivial⟩ ?_
    · refine g_aload_n 0 (kdX7_part 8 rfl) rfl ?_
      refine g_get (v := .inr (.inr (9, n))) (kdX7_part 9 rfl) fX7_9 rfl ?_
      refine g_iload_n 1 (kdX7_part 10 rfl) rfl ?_
      refine g_iald (kdX7_part 11 rfl) (fun x3 => ?_)
      exact g_iret rfl (kdX7_part 12 rfl)
    · refine g_aload_n 0 (kdX7_part 13 rfl) rfl ?_
      refine g_get (v := .inr (.inr (10, n))) (kdX7_part 14 rfl) fX7_15 rfl ?_
      refine g_iload_n 1 (kdX7_part 15 rfl) rfl ?_
      refine g_iald (kdX7_part 16 rfl) (fun x4 => ?_)
      exact g_iret rfl (kdX7_part 17 rfl)
    · refine g_aload_n 0 (kdX7_part 18 rfl) rfl ?_
      refine g_get (v := .inr (.inr (11, n))) (kdX7_part 19 rfl) fX7_18 rfl ?_
      refine g_iload_n 1 (kdX7_part 20 rfl) rfl ?_
      refine g_iald (kdX7_part 21 rfl) (fun x5 => ?_)
      exact g_iret rfl (kdX7_part 22 rfl)
    · refine g_ldc (kdX7_part 23 rfl) cX7_29 ?_
      exact g_iret rfl (kdX7_part 24 rfl)
  · refine g_ldc (kdX7_part 4 rfl) cX7_29 ?_
    exact g_iret rfl (kdX7_part 5 rfl)
def JX7_copy (n : Nat) (n1 : Nat) (m : hM) : hR :=
  acp m 9 n1 0 9 n 0 12 fun m1 =>
  acp m1 10 n1 0 10 n 0 12 fun m2 =>
  acp m2 11 n1 0 11 n 0 12 fun m3 =>
  stI m3 8 n 3 (m3.1 8 n1 3) fun m4 =>
  some (none, m4)
set_option maxRecDepth 20000 in
theorem CX7_copy (n : Nat) (n1 : Nat) (m : hM) : Cn mX7_copy 1 [.inr (.inr (8, n)), .inr (.inr (8, n1))] m (JX7_copy n n1 m) := by
  refine cn_of (by decide +kernel) (by simp only [List.map, vcat, List.sum_cons, List.sum_nil]; decide) ?_
  unfold JX7_copy
  show G mX7_copy 1 0 [(0, .inr (.inr (8, n))), (1, .inr (.inr (8, n1)))] [] m _
  refine g_aload_n 1 (kdX7_copy 0 rfl) rfl ?_
  refine g_get (v := .inr (.inr (9, n1))) (kdX7_copy 1 rfl) fX7_9 rfl ?_
  refine g_iconst (v := 0) (kdX7_copy 2 rfl) (by decide) ?_
  refine g_aload_n 0 (kdX7_copy 3 rfl) rfl ?_
  refine g_get (v := .inr (.inr (9, n))) (kdX7_copy 4 rfl) fX7_9 rfl ?_
  refine g_iconst (v := 0) (kdX7_copy 5 rfl) (by decide) ?_
  refine g_bipush (v := 12) (kdX7_copy 6 rfl) (by decide) ?_
  refine g_acp (kdX7_copy 7 rfl) lX7_34 acW_ok (by decide) (by decide) (fun m1 => ?_)
  refine g_aload_n 1 (kdX7_copy 8 rfl) rfl ?_
  refine g_get (v := .inr (.inr (10, n1))) (kdX7_copy 9 rfl) fX7_15 rfl ?_
  refine g_iconst (v := 0) (kdX7_copy 10 rfl) (by decide) ?_
  refine g_aload_n 0 (kdX7_copy 11 rfl) rfl ?_
  refine g_get (v := .inr (.inr (10, n))) (kdX7_copy 12 rfl) fX7_15 rfl ?_
  refine g_iconst (v := 0) (kdX7_copy 13 rfl) (by decide) ?_
  refine g_bipush (v := 12) (kdX7_copy 14 rfl) (by decide) ?_
  refine g_acp (kdX7_copy 15 rfl) lX7_34 acW_ok (by decide) (by decide) (fun m2 => ?_)
  refine g_aload_n 1 (kdX7_copy 16 rfl) rfl ?_
  refine g_get (v := .inr (.inr (11, n1))) (kdX7_copy 17 rfl) fX7_18 rfl ?_
  refine g_iconst (v := 0) (kdX7_copy 18 rfl) (by decide) ?_
  refine g_aload_n 0 (kdX7_copy 19 rfl) rfl ?_
  refine g_get (v := .inr (.inr (11, n))) (kdX7_copy 20 rfl) fX7_18 rfl ?_
  refine g_iconst (v := 0) (kdX7_copy 21 rfl) (by decide) ?_
  refine g_bipush (v := 12) (kdX7_copy 22 rfl) (by decide) ?_
  refine g_acp (kdX7_copy 23 rfl) lX7_34 acW_ok (by decide) (by decide) (fun m3 => ?_)
  refine g_aload_n 0 (kdX7_copy 24 rfl) rfl ?_
  refine g_aload_n 1 (kdX7_copy 25 rfl) rfl ?_
  refine g_get (v := .inl (m3.1 8 n1 3)) (kdX7_copy 26 rfl) fX7_21 rfl ?_
  refine g_putI (kdX7_copy 27 rfl) fX7_21 rfl (fun m4 => ?_)
  exact g_vret rfl (kdX7_copy 28 rfl)
def JX10_copy (n : Nat) (n1 : Nat) (m : hM) : hR :=
  stI m 18 n 0 (m.1 18 n1 0) fun m1 =>
  stI m1 18 n 1 (m1.1 18 n1 1) fun m2 =>
  stZ m2 18 n 2 (m2.1 18 n1 2) fun m3 =>
  stI m3 18 n 3 (m3.1 18 n1 3) fun m4 =>
  stI m4 18 n 4 (m4.1 18 n1 4) fun m5 =>
  stI m5 18 n 5 (m5.1 18 n1 5) fun m6 =>
  stI m6 18 n 6 (m6.1 18 n1 6) fun m7 =>
  stI m7 18 n 7 (m7.1 18 n1 7) fun m8 =>
  stI m8 18 n 8 (m8.1 18 n1 8) fun m9 =>
  stI m9 18 n 9 (m9.1 18 n1 9) fun m10 =>
  stI m10 18 n 10 (m10.1 18 n1 10) fun m11 =>
  stI m11 18 n 11 (m11.1 18 n1 11) fun m12 =>
  stI m12 18 n 12 (m12.1 18 n1 12) fun m13 =>
  stI m13 18 n 13 (m13.1 18 n1 13) fun m14 =>
  acp m14 19 n1 0 19 n 0 3 fun m15 =>
  some (none, m15)
set_option maxRecDepth 20000 in
theorem CX10_copy (n : Nat) (n1 : Nat) (m : hM) : Cn mX10_copy 1 [.inr (.inr (18, n)), .inr (.inr (18, n1))] m (JX10_copy n n1 m) := by
  refine cn_of (by decide +kernel) (by simp only [List.map, vcat, List.sum_cons, List.sum_nil]; decide) ?_
  unfold JX10_copy
  show G mX10_copy 1 0 [(0, .inr (.inr (18, n))), (1, .inr (.inr (18, n1)))] [] m _
  refine g_aload_n 0 (kdX10_copy 0 rfl) rfl ?_
  refine g_aload_n 1 (kdX10_copy 1 rfl) rfl ?_
  refine g_get (v := .inl (m.1 18 n1 0)) (kdX10_copy 2 rfl) fX10_15 rfl ?_
  refine g_putI (kdX10_copy 3 rfl) fX10_15 rfl (fun m1 => ?_)
  refine g_aload_n 0 (kdX10_copy 4 rfl) rfl ?_
  refine g_aload_n 1 (kdX10_copy 5 rfl) rfl ?_
  refine g_get (v := .inl (m1.1 18 n1 1)) (kdX10_copy 6 rfl) fX10_19 rfl ?_
  refine g_putI (kdX10_copy 7 rfl) fX10_19 rfl (fun m2 => ?_)
  refine g_aload_n 0 (kdX10_copy 8 rfl) rfl ?_
  refine g_aload_n 1 (kdX10_copy 9 rfl) rfl ?_
  refine g_get (v := .inl (m2.1 18 n1 2)) (kdX10_copy 10 rfl) fX10_22 rfl ?_
  refine g_putZ (kdX10_copy 11 rfl) fX10_22 rfl (fun m3 => ?_)
  refine g_aload_n 0 (kdX10_copy 12 rfl) rfl ?_
  refine g_aload_n 1 (kdX10_copy 13 rfl) rfl ?_
  refine g_get (v := .inl (m3.1 18 n1 3)) (kdX10_copy 14 rfl) fX10_26 rfl ?_
  refine g_putI (kdX10_copy 15 rfl) fX10_26 rfl (fun m4 => ?_)
  refine g_aload_n 0 (kdX10_copy 16 rfl) rfl ?_
  refine g_aload_n 1 (kdX10_copy 17 rfl) rfl ?_
  refine g_get (v := .inl (m4.1 18 n1 4)) (kdX10_copy 18 rfl) fX10_29 rfl ?_
  refine g_putI (kdX10_copy 19 rfl) fX10_29 rfl (fun m5 => ?_)
  refine g_aload_n 0 (kdX10_copy 20 rfl) rfl ?_
  refine g_aload_n 1 (kdX10_copy 21 rfl) rfl ?_
  refine g_get (v := .inl (m5.1 18 n1 5)) (kdX10_copy 22 rfl) fX10_32 rfl ?_
  refine g_putI (kdX10_copy 23 rfl) fX10_32 rfl (fun m6 => ?_)
  refine g_aload_n 0 (kdX10_copy 24 rfl) rfl ?_
  refine g_aload_n 1 (kdX10_copy 25 rfl) rfl ?_
  refine g_get (v := .inl (m6.1 18 n1 6)) (kdX10_copy 26 rfl) fX10_35 rfl ?_
  refine g_putI (kdX10_copy 27 rfl) fX10_35 rfl (fun m7 => ?_)
  refine g_aload_n 0 (kdX10_copy 28 rfl) rfl ?_
  refine g_aload_n 1 (kdX10_copy 29 rfl) rfl ?_
  refine g_get (v := .inl (m7.1 18 n1 7)) (kdX10_copy 30 rfl) fX10_38 rfl ?_
  refine g_putI (kdX10_copy 31 rfl) fX10_38 rfl (fun m8 => ?_)
  refine g_aload_n 0 (kdX10_copy 32 rfl) rfl ?_
  refine g_aload_n 1 (kdX10_copy 33 rfl) rfl ?_
  refine g_get (v := .inl (m8.1 18 n1 8)) (kdX10_copy 34 rfl) fX10_41 rfl ?_
  refine g_putI (kdX10_copy 35 rfl) fX10_41 rfl (fun m9 => ?_)
  refine g_aload_n 0 (kdX10_copy 36 rfl) rfl ?_
  refine g_aload_n 1 (kdX10_copy 37 rfl) rfl ?_
  refine g_get (v := .inl (m9.1 18 n1 9)) (kdX10_copy 38 rfl) fX10_44 rfl ?_
  refine g_putI (kdX10_copy 39 rfl) fX10_44 rfl (fun m10 => ?_)
  refine g_aload_n 0 (kdX10_copy 40 rfl) rfl ?_
  refine g_aload_n 1 (kdX10_copy 41 rfl) rfl ?_
  refine g_get (v := .inl (m10.1 18 n1 10)) (kdX10_copy 42 rfl) fX10_47 rfl ?_
  refine g_putI (kdX10_copy 43 rfl) fX10_47 rfl (fun m11 => ?_)
  refine g_aload_n 0 (kdX10_copy 44 rfl) rfl ?_
  refine g_aload_n 1 (kdX10_copy 45 rfl) rfl ?_
  refine g_get (v := .inl (m11.1 18 n1 11)) (kdX10_copy 46 rfl) fX10_50 rfl ?_
  refine g_putI (kdX10_copy 47 rfl) fX10_50 rfl (fun m12 => ?_)
  refine g_aload_n 0 (kdX10_copy 48 rfl) rfl ?_
  refine g_aload_n 1 (kdX10_copy 49 rfl) rfl ?_
  refine g_get (v := .inl (m12.1 18 n1 12)) (kdX10_copy 50 rfl) fX10_53 rfl ?_
  refine g_putI (kdX10_copy 51 rfl) fX10_53 rfl (fun m13 => ?_)
  refine g_aload_n 0 (kdX10_copy 52 rfl) rfl ?_
  refine g_aload_n 1 (kdX10_copy 53 rfl) rfl ?_
  refine g_get (v := .inl (m13.1 18 n1 13)) (kdX10_copy 54 rfl) fX10_56 rfl ?_
  refine g_putI (kdX10_copy 55 rfl) fX10_56 rfl (fun m14 => ?_)
  refine g_aload_n 1 (kdX10_copy 56 rfl) rfl ?_
  refine g_get (v := .inr (.inr (19, n1))) (kdX10_copy 57 rfl) fX10_9 rfl ?_
  refine g_iconst (v := 0) (kdX10_copy 58 rfl) (by decide) ?_
  refine g_aload_n 0 (kdX10_copy 59 rfl) rfl ?_
  refine g_get (v := .inr (.inr (19, n))) (kdX10_copy 60 rfl) fX10_9 rfl ?_
  refine g_iconst (v := 0) (kdX10_copy 61 rfl) (by decide) ?_
  refine g_iconst (v := 3) (kdX10_copy 62 rfl) (by decide) ?_
  refine g_acp (kdX10_copy 63 rfl) lX10_59 acW_ok (by decide) (by decide) (fun m15 => ?_)
  exact g_vret rfl (kdX10_copy 64 rfl)
def bJX10_clear_72 (K72 : Int32 → hM → hR) (K90 : hM → hR) (w0 : Nat) (v1 : Int32) (m : hM) : hR :=
  if 3 ≤ v1 then (K90 m) else (ast m 19 w0 v1 0 fun m15 =>
  K72 (v1 + 1) m15)
set_option maxRecDepth 20000 in
theorem BbJX10_clear_72 (K72 : Int32 → hM → hR) (K90 : hM → hR) (w0 : Nat) (h72 : ∀ (v1 : Int32) (m : hM), G mX10_clear 0 72 [(0, .inr (.inr (18, w0))), (1, .inl v1)] [] m (K72 v1 m)) (h90 : ∀ (m : hM), G mX10_clear 0 90 [] [] m (K90 m)) (v1 : Int32) (m : hM) : G mX10_clear 0 72 [(0, .inr (.inr (18, w0))), (1, .inl v1)] [] m (bJX10_clear_72 K72 K90 w0 v1 m) := by
  unfold bJX10_clear_72
  refine g_iload_n 1 (kdX10_clear 44 rfl) rfl ?_
  refine g_iconst (v := 3) (kdX10_clear 45 rfl) (by decide) ?_
  refine g_icmp_ge (tgt := 90) (kdX10_clear 46 rfl) (by decide) (fun _ => ?_) (fun _ => ?_)
  · exact g_fgt [] rfl (h90 m)
  · refine g_aload_n 0 (kdX10_clear 47 rfl) rfl ?_
    refine g_get (v := .inr (.inr (19, w0))) (kdX10_clear 48 rfl) fX10_9 rfl ?_
    refine g_iload_n 1 (kdX10_clear 49 rfl) rfl ?_
    refine g_iconst (v := 0) (kdX10_clear 50 rfl) (by decide) ?_
    refine g_iast (kdX10_clear 51 rfl) (fun m15 => ?_)
    refine g_iinc (v := v1 + 1) (L2 := [(1, .inl (v1 + 1)), (0, .inr (.inr (18, w0)))]) 1 (kdX10_clear 52 rfl) rfl rfl rfl (by decide) ?_
    refine g_goto (tgt := 72) (kdX10_clear 53 rfl) (by decide) ?_
    exact g_fgt [1, 0] rfl (h72 (v1 + 1) m15)
def JX10_clear_72 (K90 : hM → hR) (w0 : Nat) : Nat → Int32 → hM → hR
  | 0, _, _ => none
  | f + 1, v1, m => bJX10_clear_72 (fun v1 m => JX10_clear_72 K90 w0 f v1 m) K90 w0 v1 m
theorem BJX10_clear_72 (K90 : hM → hR) (w0 : Nat) (h90 : ∀ (m : hM), G mX10_clear 0 90 [] [] m (K90 m)) : ∀ (f : Nat) (v1 : Int32) (m : hM), G mX10_clear 0 72 [(0, .inr (.inr (18, w0))), (1, .inl v1)] [] m (JX10_clear_72 K90 w0 f v1 m)
  | 0, _, _ => g_none
  | f + 1, v1, m => BbJX10_clear_72  _ K90 w0 (fun v1 m => BJX10_clear_72  K90 w0 h90 f v1 m) h90 v1 m
def JX10_clear (n : Nat) (m : hM) : hR :=
  stI m 18 n 0 0 fun m1 =>
  stI m1 18 n 1 0 fun m2 =>
  stZ m2 18 n 2 0 fun m3 =>
  stI m3 18 n 3 0 fun m4 =>
  stI m4 18 n 4 0 fun m5 =>
  stI m5 18 n 5 0 fun m6 =>
  stI m6 18 n 6 0 fun m7 =>
  stI m7 18 n 7 0 fun m8 =>
  stI m8 18 n 8 0 fun m9 =>
  stI m9 18 n 9 0 fun m10 =>
  stI m10 18 n 10 0 fun m11 =>
  stI m11 18 n 11 0 fun m12 =>
  stI m12 18 n 12 0 fun m13 =>
  stI m13 18 n 13 0 fun m14 =>
  JX10_clear_72 (fun m16 => some (none, m16)) n FU 0 m14
set_option maxRecDepth 20000 in
theorem CX10_clear (n : Nat) (m : hM) : Cn mX10_clear 0 [.inr (.inr (18, n))] m (JX10_clear n m) := by
  refine cn_of (by decide +kernel) (by simp only [List.map, vcat, List.sum_cons, List.sum_nil]; decide) ?_
  unfold JX10_clear
  show G mX10_clear 0 0 [(0, .inr (.inr (18, n)))] [] m _
  refine g_aload_n 0 (kdX10_clear 0 rfl) rfl ?_
  refine g_iconst (v := 0) (kdX10_clear 1 rfl) (by decide) ?_
  refine g_putI (kdX10_clear 2 rfl) fX10_15 rfl (fun m1 => ?_)
  refine g_aload_n 0 (kdX10_clear 3 rfl) rfl ?_
  refine g_iconst (v := 0) (kdX10_clear 4 rfl) (by decide) ?_
  refine g_putI (kdX10_clear 5 rfl) fX10_19 rfl (fun m2 => ?_)
  refine g_aload_n 0 (kdX10_clear 6 rfl) rfl ?_
  refine g_iconst (v := 0) (kdX10_clear 7 rfl) (by decide) ?_
  refine g_putZ (kdX10_clear 8 rfl) fX10_22 rfl (fun m3 => ?_)
  refine g_aload_n 0 (kdX10_clear 9 rfl) rfl ?_
  refine g_iconst (v := 0) (kdX10_clear 10 rfl) (by decide) ?_
  refine g_putI (kdX10_clear 11 rfl) fX10_26 rfl (fun m4 => ?_)
  refine g_aload_n 0 (kdX10_clear 12 rfl) rfl ?_
  refine g_iconst (v := 0) (kdX10_clear 13 rfl) (by decide) ?_
  refine g_putI (kdX10_clear 14 rfl) fX10_29 rfl (fun m5 => ?_)
  refine g_aload_n 0 (kdX10_clear 15 rfl) rfl ?_
  refine g_iconst (v := 0) (kdX10_clear 16 rfl) (by decide) ?_
  refine g_putI (kdX10_clear 17 rfl) fX10_32 rfl (fun m6 => ?_)
  refine g_aload_n 0 (kdX10_clear 18 rfl) rfl ?_
  refine g_iconst (v := 0) (kdX10_clear 19 rfl) (by decide) ?_
  refine g_putI (kdX10_clear 20 rfl) fX10_35 rfl (fun m7 => ?_)
  refine g_aload_n 0 (kdX10_clear 21 rfl) rfl ?_
  refine g_iconst (v := 0) (kdX10_clear 22 rfl) (by decide) ?_
  refine g_putI (kdX10_clear 23 rfl) fX10_38 rfl (fun m8 => ?_)
  refine g_aload_n 0 (kdX10_clear 24 rfl) rfl ?_
  refine g_iconst (v := 0) (kdX10_clear 25 rfl) (by decide) ?_
  refine g_putI (kdX10_clear 26 rfl) fX10_41 rfl (fun m9 => ?_)
  refine g_aload_n 0 (kdX10_clear 27 rfl) rfl ?_
  refine g_iconst (v := 0) (kdX10_clear 28 rfl) (by decide) ?_
  refine g_putI (kdX10_clear 29 rfl) fX10_44 rfl (fun m10 => ?_)
  refine g_aload_n 0 (kdX10_clear 30 rfl) rfl ?_
  refine g_iconst (v := 0) (kdX10_clear 31 rfl) (by decide) ?_
  refine g_putI (kdX10_clear 32 rfl) fX10_47 rfl (fun m11 => ?_)
  refine g_aload_n 0 (kdX10_clear 33 rfl) rfl ?_
  refine g_iconst (v := 0) (kdX10_clear 34 rfl) (by decide) ?_
  refine g_putI (kdX10_clear 35 rfl) fX10_50 rfl (fun m12 => ?_)
  refine g_aload_n 0 (kdX10_clear 36 rfl) rfl ?_
  refine g_iconst (v := 0) (kdX10_clear 37 rfl) (by decide) ?_
  refine g_putI (kdX10_clear 38 rfl) fX10_53 rfl (fun m13 => ?_)
  refine g_aload_n 0 (kdX10_clear 39 rfl) rfl ?_
  refine g_iconst (v := 0) (kdX10_clear 40 rfl) (by decide) ?_
  refine g_putI (kdX10_clear 41 rfl) fX10_56 rfl (fun m14 => ?_)
  refine g_iconst (v := 0) (kdX10_clear 42 rfl) (by decide) ?_
  refine g_istore_n (L2 := [(1, .inl 0), (0, .inr (.inr (18, n)))]) (kdX10_clear 43 rfl) rfl (by decide) ?_
  refine g_fgt [1, 0] rfl (BJX10_clear_72  _ n ?_ FU 0 m14)
  · intro m16
    exact g_vret rfl (kdX10_clear 54 rfl)
def JX10_hear_57 (w0 : Nat) (m : hM) : hR :=
  if (m.1 18 w0 1) = 4 then (stZ m 18 w0 2 0 fun m5 =>
  some (none, m5)) else (some (none, m))
set_option maxRecDepth 20000 in
theorem BX10_hear_57 (w0 : Nat) (m : hM) : G mX10_hear 1 57 [(0, .inr (.inr (18, w0)))] [] m (JX10_hear_57 w0 m) := by
  unfold JX10_hear_57
  refine g_aload_n 0 (kdX10_hear 31 rfl) rfl ?_
  refine g_get (v := .inl (m.1 18 w0 1)) (kdX10_hear 32 rfl) fX10_19 rfl ?_
  refine g_iconst (v := 4) (kdX10_hear 33 rfl) (by decide) ?_
  refine g_icmp_ne (tgt := 70) (kdX10_hear 34 rfl) (by decide) (fun _ => ?_) (fun _ => ?_)
  · exact g_vret rfl (kdX10_hear 38 rfl)
  · refine g_aload_n 0 (kdX10_hear 35 rfl) rfl ?_
    refine g_iconst (v := 0) (kdX10_hear 36 rfl) (by decide) ?_
    refine g_putZ (kdX10_hear 37 rfl) fX10_22 rfl (fun m5 => ?_)
    exact g_vret rfl (kdX10_hear 38 rfl)
def JX10_hear_41 (w0 : Nat) (v100 : Int32) (w101 : Nat) (m : hM) : hR :=
  stI m 18 w101 1 v100 fun m4 =>
  if (m4.1 18 w0 0) = 4 then (stZ m4 18 w0 2 1 fun m6 =>
  JX10_hear_57 w0 m6) else (JX10_hear_57 w0 m4)
set_option maxRecDepth 20000 in
theorem BX10_hear_41 (w0 : Nat) (v100 : Int32) (w101 : Nat) (m : hM) : G mX10_hear 1 41 [(0, .inr (.inr (18, w0)))] [.inl v100, .inr (.inr (18, w101))] m (JX10_hear_41 w0 v100 w101 m) := by
  unfold JX10_hear_41
  refine g_putI (kdX10_hear 23 rfl) fX10_19 rfl (fun m4 => ?_)
  refine g_aload_n 0 (kdX10_hear 24 rfl) rfl ?_
  refine g_get (v := .inl (m4.1 18 w0 0)) (kdX10_hear 25 rfl) fX10_15 rfl ?_
  refine g_iconst (v := 4) (kdX10_hear 26 rfl) (by decide) ?_
  refine g_icmp_ne (tgt := 57) (kdX10_hear 27 rfl) (by decide) (fun _ => ?_) (fun _ => ?_)
  · exact g_fgt [0] rfl (BX10_hear_57 w0 m4)
  · refine g_aload_n 0 (kdX10_hear 28 rfl) rfl ?_
    refine g_iconst (v := 1) (kdX10_hear 29 rfl) (by decide) ?_
    refine g_putZ (kdX10_hear 30 rfl) fX10_22 rfl (fun m6 => ?_)
    exact g_fgt [0] rfl (BX10_hear_57 w0 m6)
def JX10_hear_19 (w0 : Nat) (v1 : Int32) (v100 : Int32) (w101 : Nat) (m : hM) : hR :=
  stI m 18 w101 0 v100 fun m1 =>
  if v1 = 0 then (calI (JJ9_min_7cf53 ((m1.1 18 w0 1) + 1) 4 m1) fun x3 m2 =>
  JX10_hear_41 w0 x3 w0 m2) else (JX10_hear_41 w0 0 w0 m1)
set_option maxRecDepth 20000 in
theorem BX10_hear_19 (w0 : Nat) (v1 : Int32) (v100 : Int32) (w101 : Nat) (m : hM) : G mX10_hear 1 19 [(0, .inr (.inr (18, w0))), (1, .inl v1)] [.inl v100, .inr (.inr (18, w101))] m (JX10_hear_19 w0 v1 v100 w101 m) := by
  unfold JX10_hear_19
  refine g_putI (kdX10_hear 11 rfl) fX10_15 rfl (fun m1 => ?_)
  refine g_aload_n 0 (kdX10_hear 12 rfl) rfl ?_
  refine g_iload_n 1 (kdX10_hear 13 rfl) rfl ?_
  refine g_if_eq (tgt := 31) (kdX10_hear 14 rfl) (by decide) (fun _ => ?_) (fun _ => ?_)
  · refine g_aload_n 0 (kdX10_hear 17 rfl) rfl ?_
    refine g_get (v := .inl (m1.1 18 w0 1)) (kdX10_hear 18 rfl) fX10_19 rfl ?_
    refine g_iconst (v := 1) (kdX10_hear 19 rfl) (by decide) ?_
    refine g_iadd (kdX10_hear 20 rfl) ?_
    refine g_iconst (v := 4) (kdX10_hear 21 rfl) (by decide) ?_
    refine g_calI (ck_S (As := [.inl ((m1.1 18 w0 1) + 1), .inl 4]) (S := [.inr (.inr (18, w0))]) (kdX10_hear 22 rfl) iJ9_min_7cf53 lX10_65 rfl rfl rfl (by decide) (by simp only [List.map, vcat, List.sum_cons, List.sum_nil]; decide)) (CJ9_min_7cf53 ((m1.1 18 w0 1) + 1) 4 m1) (fun x3 m2 => ?_)
    exact g_fgt [0] rfl (BX10_hear_41 w0 x3 w0 m2)
  · refine g_iconst (v := 0) (kdX10_hear 15 rfl) (by decide) ?_
    refine g_goto (tgt := 41) (kdX10_hear 16 rfl) (by decide) ?_
    exact g_fgt [0] rfl (BX10_hear_41 w0 0 w0 m1)
def JX10_hear (n : Nat) (a1 : Int32) (m : hM) : hR :=
  if a1 = 0 then (JX10_hear_19 n a1 0 n m) else (calI (JJ9_min_7cf53 ((m.1 18 n 0) + 1) 4 m) fun x8 m7 =>
  JX10_hear_19 n a1 x8 n m7)
set_option maxRecDepth 20000 in
theorem CX10_hear (n : Nat) (a1 : Int32) (m : hM) : Cn mX10_hear 1 [.inr (.inr (18, n)), .inl a1] m (JX10_hear n a1 m) := by
  refine cn_of (by decide +kernel) (by simp only [List.map, vcat, List.sum_cons, List.sum_nil]; decide) ?_
  unfold JX10_hear
  show G mX10_hear 1 0 [(0, .inr (.inr (18, n))), (1, .inl a1)] [] m _
  refine g_aload_n 0 (kdX10_hear 0 rfl) rfl ?_
  refine g_iload_n 1 (kdX10_hear 1 rfl) rfl ?_
  refine g_if_eq (tgt := 18) (kdX10_hear 2 rfl) (by decide) (fun _ => ?_) (fun _ => ?_)
  · refine g_iconst (v := 0) (kdX10_hear 10 rfl) (by decide) ?_
    exact g_fgt [0, 1] rfl (BX10_hear_19 n a1 0 n m)
  · refine g_aload_n 0 (kdX10_hear 3 rfl) rfl ?_
    refine g_get (v := .inl (m.1 18 n 0)) (kdX10_hear 4 rfl) fX10_15 rfl ?_
    refine g_iconst (v := 1) (kdX10_hear 5 rfl) (by decide) ?_
    refine g_iadd (kdX10_hear 6 rfl) ?_
    refine g_iconst (v := 4) (kdX10_hear 7 rfl) (by decide) ?_
    refine g_calI (ck_S (As := [.inl ((m.1 18 n 0) + 1), .inl 4]) (S := [.inr (.inr (18, n))]) (kdX10_hear 8 rfl) iJ9_min_7cf53 lX10_65 rfl rfl rfl (by decide) (by simp only [List.map, vcat, List.sum_cons, List.sum_nil]; decide)) (CJ9_min_7cf53 ((m.1 18 n 0) + 1) 4 m) (fun x8 m7 => ?_)
    refine g_goto (tgt := 19) (kdX10_hear 9 rfl) (by decide) ?_
    exact g_fgt [0, 1] rfl (BX10_hear_19 n a1 x8 n m7)
def JX10_closeRun (n : Nat) (m : hM) : hR :=
  stI m 18 n 5 ((m.1 18 n 5) + 1) fun m1 =>
  calI (JJ9_max_7cf53 (m1.1 18 n 6) ((m1.1 18 n 7) - (m1.1 18 n 8)) m1) fun x3 m2 =>
  stI m2 18 n 6 x3 fun m4 =>
  stI m4 18 n 7 0 fun m5 =>
  stI m5 18 n 8 0 fun m6 =>
  some (none, m6)
set_option maxRecDepth 20000 in
theorem CX10_closeRun (n : Nat) (m : hM) : Cn mX10_closeRun 1 [.inr (.inr (18, n))] m (JX10_closeRun n m) := by
  refine cn_of (by decide +kernel) (by simp only [List.map, vcat, List.sum_cons, List.sum_nil]; decide) ?_
  unfold JX10_closeRun
  show G mX10_closeRun 1 0 [(0, .inr (.inr (18, n)))] [] m _
  refine g_aload_n 0 (kdX10_closeRun 0 rfl) rfl ?_
  refine g_dup (kdX10_closeRun 1 rfl) rfl ?_
  refine g_get (v := .inl (m.1 18 n 5)) (kdX10_closeRun 2 rfl) fX10_32 rfl ?_
  refine g_iconst (v := 1) (kdX10_closeRun 3 rfl) (by decide) ?_
  refine g_iadd (kdX10_closeRun 4 rfl) ?_
  refine g_putI (kdX10_closeRun 5 rfl) fX10_32 rfl (fun m1 => ?_)
  refine g_aload_n 0 (kdX10_closeRun 6 rfl) rfl ?_
  refine g_aload_n 0 (kdX10_closeRun 7 rfl) rfl ?_
  refine g_get (v := .inl (m1.1 18 n 6)) (kdX10_closeRun 8 rfl) fX10_35 rfl ?_
  refine g_aload_n 0 (kdX10_closeRun 9 rfl) rfl ?_
  refine g_get (v := .inl (m1.1 18 n 7)) (kdX10_closeRun 10 rfl) fX10_38 rfl ?_
  refine g_aload_n 0 (kdX10_closeRun 11 rfl) rfl ?_
  refine g_get (v := .inl (m1.1 18 n 8)) (kdX10_closeRun 12 rfl) fX10_41 rfl ?_
  refine g_isub (kdX10_closeRun 13 rfl) ?_
  refine g_calI (ck_S (As := [.inl (m1.1 18 n 6), .inl ((m1.1 18 n 7) - (m1.1 18 n 8))]) (S := [.inr (.inr (18, n))]) (kdX10_closeRun 14 rfl) iJ9_max_7cf53 lX10_71 rfl rfl rfl (by decide) (by simp only [List.map, vcat, List.sum_cons, List.sum_nil]; decide)) (CJ9_max_7cf53 (m1.1 18 n 6) ((m1.1 18 n 7) - (m1.1 18 n 8)) m1) (fun x3 m2 => ?_)
  refine g_putI (kdX10_closeRun 15 rfl) fX10_35 rfl (fun m4 => ?_)
  refine g_aload_n 0 (kdX10_closeRun 16 rfl) rfl ?_
  refine g_iconst (v := 0) (kdX10_closeRun 17 rfl) (by decide) ?_
  refine g_putI (kdX10_closeRun 18 rfl) fX10_38 rfl (fun m5 => ?_)
  refine g_aload_n 0 (kdX10_closeRun 19 rfl) rfl ?_
  refine g_iconst (v := 0) (kdX10_closeRun 20 rfl) (by decide) ?_
  refine g_putI (kdX10_closeRun 21 rfl) fX10_41 rfl (fun m6 => ?_)
  exact g_vret rfl (kdX10_closeRun 22 rfl)
def JX10_judge (n : Nat) (a1 : Int32) (a2 : Int32) (m : hM) : hR :=
  if a1 = 0 then (if (m.1 18 n 7) ≤ 0 then (some (none, m)) else (stI m 18 n 7 ((m.1 18 n 7) + 1) fun m1 =>
  stI m1 18 n 8 ((m1.1 18 n 8) + 1) fun m2 =>
  calI (JJ9_max_7cf53 a2 1 m2) fun x4 m3 =>
  if (m2.1 18 n 8) < x4 then (some (none, m3)) else (calV (JX10_closeRun n m3) fun m5 =>
  some (none, m5)))) else (stI m 18 n 3 ((m.1 18 n 3) + 1) fun m6 =>
  stI m6 18 n 7 ((m6.1 18 n 7) + 1) fun m7 =>
  stI m7 18 n 8 0 fun m8 =>
  some (none, m8))
set_option maxRecDepth 20000 in
theorem CX10_judge (n : Nat) (a1 : Int32) (a2 : Int32) (m : hM) : Cn mX10_judge 2 [.inr (.inr (18, n)), .inl a1, .inl a2] m (JX10_judge n a1 a2 m) := by
  refine cn_of (by decide +kernel) (by simp only [List.map, vcat, List.sum_cons, List.sum_nil]; decide) ?_
  unfold JX10_judge
  show G mX10_judge 2 0 [(0, .inr (.inr (18, n))), (1, .inl a1), (2, .inl a2)] [] m _
  refine g_iload_n 1 (kdX10_judge 0 rfl) rfl ?_
  refine g_if_eq (tgt := 32) (kdX10_judge 1 rfl) (by decide) (fun _ => ?_) (fun _ => ?_)
  · refine g_aload_n 0 (kdX10_judge 18 rfl) rfl ?_
    refine g_get (v := .inl (m.1 18 n 7)) (kdX10_judge 19 rfl) fX10_38 rfl ?_
    refine g_if_le (tgt := 75) (kdX10_judge 20 rfl) (by decide) (fun _ => ?_) (fun _ => ?_)
    · exact g_vret rfl (kdX10_judge 41 rfl)
    · refine g_aload_n 0 (kdX10_judge 21 rfl) rfl ?_
      refine g_dup (kdX10_judge 22 rfl) rfl ?_
      refine g_get (v := .inl (m.1 18 n 7)) (kdX10_judge 23 rfl) fX10_38 rfl ?_
      refine g_iconst (v := 1) (kdX10_judge 24 rfl) (by decide) ?_
      refine g_iadd (kdX10_judge 25 rfl) ?_
      refine g_putI (kdX10_judge 26 rfl) fX10_38 rfl (fun m1 => ?_)
      refine g_aload_n 0 (kdX10_judge 27 rfl) rfl ?_
      refine g_dup (kdX10_judge 28 rfl) rfl ?_
      refine g_get (v := .inl (m1.1 18 n 8)) (kdX10_judge 29 rfl) fX10_41 rfl ?_
      refine g_iconst (v := 1) (kdX10_judge 30 rfl) (by decide) ?_
      refine g_iadd (kdX10_judge 31 rfl) ?_
      refine g_putI (kdX10_judge 32 rfl) fX10_41 rfl (fun m2 => ?_)
      refine g_aload_n 0 (kdX10_judge 33 rfl) rfl ?_
      refine g_get (v := .inl (m2.1 18 n 8)) (kdX10_judge 34 rfl) fX10_41 rfl ?_
      refine g_iload_n 2 (kdX10_judge 35 rfl) rfl ?_
      refine g_iconst (v := 1) (kdX10_judge 36 rfl) (by decide) ?_
      refine g_calI (ck_S (As := [.inl a2, .inl 1]) (S := [.inl (m2.1 18 n 8)]) (kdX10_judge 37 rfl) iJ9_max_7cf53 lX10_71 rfl rfl rfl (by decide) (by simp only [List.map, vcat, List.sum_cons, List.sum_nil]; decide)) (CJ9_max_7cf53 a2 1 m2) (fun x4 m3 => ?_)
      refine g_icmp_lt (tgt := 75) (kdX10_judge 38 rfl) (by decide) (fun _ => ?_) (fun _ => ?_)
      · exact g_vret rfl (kdX10_judge 41 rfl)
      · refine g_aload_n 0 (kdX10_judge 39 rfl) rfl ?_
        refine g_calV (ck_V (As := []) (S := []) (t := 18) (o := n) (kdX10_judge 40 rfl) iX10_closeRun lX10_74 rc_18 rfl rfl rfl (by decide) (by simp only [List.map, vcat, List.sum_cons, List.sum_nil]; decide)) (CX10_closeRun n m3) (fun m5 => ?_)
        exact g_vret rfl (kdX10_judge 41 rfl)
  · refine g_aload_n 0 (kdX10_judge 2 rfl) rfl ?_
    refine g_dup (kdX10_judge 3 rfl) rfl ?_
    refine g_get (v := .inl (m.1 18 n 3)) (kdX10_judge 4 rfl) fX10_26 rfl ?_
    refine g_iconst (v := 1) (kdX10_judge 5 rfl) (by decide) ?_
    refine g_iadd (kdX10_judge 6 rfl) ?_
    refine g_putI (kdX10_judge 7 rfl) fX10_26 rfl (fun m6 => ?_)
    refine g_aload_n 0 (kdX10_judge 8 rfl) rfl ?_
    refine g_dup (kdX10_judge 9 rfl) rfl ?_
    refine g_get (v := .inl (m6.1 18 n 7)) (kdX10_judge 10 rfl) fX10_38 rfl ?_
    refine g_iconst (v := 1) (kdX10_judge 11 rfl) (by decide) ?_
    refine g_iadd (kdX10_judge 12 rfl) ?_
    refine g_putI (kdX10_judge 13 rfl) fX10_38 rfl (fun m7 => ?_)
    refine g_aload_n 0 (kdX10_judge 14 rfl) rfl ?_
    refine g_iconst (v := 0) (kdX10_judge 15 rfl) (by decide) ?_
    refine g_putI (kdX10_judge 16 rfl) fX10_41 rfl (fun m8 => ?_)
    refine g_goto (tgt := 75) (kdX10_judge 17 rfl) (by decide) ?_
    exact g_vret rfl (kdX10_judge 41 rfl)
def JX10_latestIsWrong (n : Nat) (m : hM) : hR :=
  if ((m.1 18 n 13) &&& 4) = 0 then (jretZ 0 m) else (jretZ 1 m)
set_option maxRecDepth 20000 in
theorem CX10_latestIsWrong (n : Nat) (m : hM) : Cn mX10_latestIsWrong 0 [.inr (.inr (18, n))] m (JX10_latestIsWrong n m) := by
  refine cn_of (by decide +kernel) (by simp only [List.map, vcat, List.sum_cons, List.sum_nil]; decide) ?_
  unfold JX10_latestIsWrong
  show G mX10_latestIsWrong 0 0 [(0, .inr (.inr (18, n)))] [] m _
  refine g_aload_n 0 (kdX10_latestIsWrong 0 rfl) rfl ?_
  refine g_get (v := .inl (m.1 18 n 13)) (kdX10_latestIsWrong 1 rfl) fX10_56 rfl ?_
  refine g_iconst (v := 4) (kdX10_latestIsWrong 2 rfl) (by decide) ?_
  refine g_iand (kdX10_latestIsWrong 3 rfl) ?_
  refine g_if_eq (tgt := 13) (kdX10_latestIsWrong 4 rfl) (by decide) (fun _ => ?_) (fun _ => ?_)
  · refine g_iconst (v := 0) (kdX10_latestIsWrong 7 rfl) (by decide) ?_
    exact g_zret rfl (kdX10_latestIsWrong 8 rfl)
  · refine g_iconst (v := 1) (kdX10_latestIsWrong 5 rfl) (by decide) ?_
    refine g_goto (tgt := 14) (kdX10_latestIsWrong 6 rfl) (by decide) ?_
    exact g_zret rfl (kdX10_latestIsWrong 8 rfl)
def bJX10_zWith_8 (K8 : Int32 → Int32 → hM → hR) (K46 : Int32 → hM → hR) (w0 : Nat) (v1 : Int32) (v2 : Int32) (v3 : Int32) (v4 : Int32) (m : hM) : hR :=
  if v2 ≤ v4 then (K46 v3 m) else (if 3 ≤ v4 then (K46 v3 m) else (ald m 19 w0 v4 fun x2 =>
  calI (JX11_bitSign v1 v4 m) fun x4 m3 =>
  lt (v3 - ((64 * x2) * x4)) fun x5 =>
  K8 x5 (v4 + 1) m3))
set_option maxRecDepth 20000 in
theorem BbJX10_zWith_8 (K8 : Int32 → Int32 → hM → hR) (K46 : Int32 → hM → hR) (w0 : Nat) (v1 : Int32) (v2 : Int32) (h8 : ∀ (v3 : Int32) (v4 : Int32) (m : hM), G mX10_zWith 1 8 [(0, .inr (.inr (18, w0))), (1, .inl v1), (2, .inl v2), (3, .inl v3), (4, .inl v4)] [] m (K8 v3 v4 m)) (h46 : ∀ (v3 : Int32) (m : hM), G mX10_zWith 1 46 [(3, .inl v3)] [] m (K46 v3 m)) (v3 : Int32) (v4 : Int32) (m : hM) : G mX10_zWith 1 8 [(0, .inr (.inr (18, w0))), (1, .inl v1), (2, .inl v2), (3, .inl v3), (4, .inl v4)] [] m (bJX10_zWith_8 K8 K46 w0 v1 v2 v3 v4 m) := by
  unfold bJX10_zWith_8
  refine g_iload 4 (kdX10_zWith 5 rfl) rfl ?_
  refine g_iload_n 2 (kdX10_zWith 6 rfl) rfl ?_
  refine g_icmp_ge (tgt := 46) (kdX10_zWith 7 rfl) (by decide) (fun _ => ?_) (fun _ => ?_)
  · exact g_fgt [3] rfl (h46 v3 m)
  · refine g_iload 4 (kdX10_zWith 8 rfl) rfl ?_
    refine g_iconst (v := 3) (kdX10_zWith 9 rfl) (by decide) ?_
    refine g_icmp_ge (tgt := 46) (kdX10_zWith 10 rfl) (by decide) (fun _ => ?_) (fun _ => ?_)
    · exact g_fgt [3] rfl (h46 v3 m)
    · refine g_iload_n 3 (kdX10_zWith 11 rfl) rfl ?_
      refine g_bipush (v := 64) (kdX10_zWith 12 rfl) (by decide) ?_
      refine g_aload_n 0 (kdX10_zWith 13 rfl) rfl ?_
      refine g_get (v := .inr (.inr (19, w0))) (kdX10_zWith 14 rfl) fX10_9 rfl ?_
      refine g_iload 4 (kdX10_zWith 15 rfl) rfl ?_
      refine g_iald (kdX10_zWith 16 rfl) (fun x2 => ?_)
      refine g_imul (kdX10_zWith 17 rfl) ?_
      refine g_iload_n 1 (kdX10_zWith 18 rfl) rfl ?_
      refine g_iload 4 (kdX10_zWith 19 rfl) rfl ?_
      refine g_calI (ck_S (As := [.inl v1, .inl v4]) (S := [.inl (64 * x2), .inl v3]) (kdX10_zWith 20 rfl) iX11_bitSign lX10_77 rfl rfl rfl (by decide) (by simp only [List.map, vcat, List.sum_cons, List.sum_nil]; decide)) (CX11_bitSign v1 v4 m) (fun x4 m3 => ?_)
      refine g_imul (kdX10_zWith 21 rfl) ?_
      refine g_isub (kdX10_zWith 22 rfl) ?_
      refine g_lt (fun x5 => ?_)
      refine g_istore_n (L2 := [(3, .inl x5), (0, .inr (.inr (18, w0))), (1, .inl v1), (2, .inl v2), (4, .inl v4)]) (kdX10_zWith 23 rfl) rfl (by decide) ?_
      refine g_iinc (v := v4 + 1) (L2 := [(4, .inl (v4 + 1)), (3, .inl x5), (0, .inr (.inr (18, w0))), (1, .inl v1), (2, .inl v2)]) 4 (kdX10_zWith 24 rfl) rfl rfl rfl (by decide) ?_
      refine g_goto (tgt := 8) (kdX10_zWith 25 rfl) (by decide) ?_
      exact g_fgt [2, 3, 4, 1, 0] rfl (h8 x5 (v4 + 1) m3)
def JX10_zWith_8 (K46 : Int32 → hM → hR) (w0 : Nat) (v1 : Int32) (v2 : Int32) : Nat → Int32 → Int32 → hM → hR
  | 0, _, _, _ => none
  | f + 1, v3, v4, m => bJX10_zWith_8 (fun v3 v4 m => JX10_zWith_8 K46 w0 v1 v2 f v3 v4 m) K46 w0 v1 v2 v3 v4 m
theorem BJX10_zWith_8 (K46 : Int32 → hM → hR) (w0 : Nat) (v1 : Int32) (v2 : Int32) (h46 : ∀ (v3 : Int32) (m : hM), G mX10_zWith 1 46 [(3, .inl v3)] [] m (K46 v3 m)) : ∀ (f : Nat) (v3 : Int32) (v4 : Int32) (m : hM), G mX10_zWith 1 8 [(0, .inr (.inr (18, w0))), (1, .inl v1), (2, .inl v2), (3, .inl v3), (4, .inl v4)] [] m (JX10_zWith_8 K46 w0 v1 v2 f v3 v4 m)
  | 0, _, _, _ => g_none
  | f + 1, v3, v4, m => BbJX10_zWith_8  _ K46 w0 v1 v2 (fun v3 v4 m => BJX10_zWith_8  K46 w0 v1 v2 h46 f v3 v4 m) h46 v3 v4 m
def JX10_zWith (n : Nat) (a1 : Int32) (a2 : Int32) (m : hM) : hR :=
  lt (m.1 18 n 11) fun x1 =>
  JX10_zWith_8 (fun v3 m6 => some (some (.inl v3), m6)) n a1 a2 FU x1 0 m
set_option maxRecDepth 20000 in
theorem CX10_zWith (n : Nat) (a1 : Int32) (a2 : Int32) (m : hM) : Cn mX10_zWith 1 [.inr (.inr (18, n)), .inl a1, .inl a2] m (JX10_zWith n a1 a2 m) := by
  refine cn_of (by decide +kernel) (by simp only [List.map, vcat, List.sum_cons, List.sum_nil]; decide) ?_
  unfold JX10_zWith
  show G mX10_zWith 1 0 [(0, .inr (.inr (18, n))), (1, .inl a1), (2, .inl a2)] [] m _
  refine g_aload_n 0 (kdX10_zWith 0 rfl) rfl ?_
  refine g_get (v := .inl (m.1 18 n 11)) (kdX10_zWith 1 rfl) fX10_50 rfl ?_
  refine g_lt (fun x1 => ?_)
  refine g_istore_n (L2 := [(3, .inl x1), (0, .inr (.inr (18, n))), (1, .inl a1), (2, .inl a2)]) (kdX10_zWith 2 rfl) rfl (by decide) ?_
  refine g_iconst (v := 0) (kdX10_zWith 3 rfl) (by decide) ?_
  refine g_istore (L2 := [(4, .inl 0), (3, .inl x1), (0, .inr (.inr (18, n))), (1, .inl a1), (2, .inl a2)]) (kdX10_zWith 4 rfl) rfl (by decide) ?_
  refine g_fgt [2, 3, 4, 1, 0] rfl (BJX10_zWith_8  _ n a1 a2 ?_ FU x1 0 m)
  · intro v3 m6
    refine g_iload_n 0 (kdX10_zWith 26 rfl) rfl ?_
    exact g_iret rfl (kdX10_zWith 27 rfl)
def JX5_placeOf (n : Nat) (a1 : Int32) (m : hM) : hR :=
  alenJ 21 n fun x1 =>
  if x1 ≤ 0 then (some (some (.inl 0), m)) else (calI (JJ9_floorMod_7cf53 a1 x1 m) fun x3 m2 =>
  some (some (.inl x3), m2))
set_option maxRecDepth 20000 in
theorem CX5_placeOf (n : Nat) (a1 : Int32) (m : hM) : Cn mX5_placeOf 1 [.inr (.inr (20, n)), .inl a1] m (JX5_placeOf n a1 m) := by
  refine cn_of (by decide +kernel) (by simp only [List.map, vcat, List.sum_cons, List.sum_nil]; decide) ?_
  unfold JX5_placeOf
  show G mX5_placeOf 1 0 [(0, .inr (.inr (20, n))), (1, .inl a1)] [] m _
  refine g_aload_n 0 (kdX5_placeOf 0 rfl) rfl ?_
  refine g_get (v := .inr (.inr (21, n))) (kdX5_placeOf 1 rfl) fX5_15 rfl ?_
  refine g_alen (kdX5_placeOf 2 rfl) (fun x1 => ?_)
  refine g_istore_n (L2 := [(2, .inl x1), (0, .inr (.inr (20, n))), (1, .inl a1)]) (kdX5_placeOf 3 rfl) rfl (by decide) ?_
  refine g_iload_n 0 (kdX5_placeOf 4 rfl) rfl ?_
  refine g_if_le (tgt := 18) (kdX5_placeOf 5 rfl) (by decide) (fun _ => ?_) (fun _ => ?_)
  · refine g_iconst (v := 0) (kdX5_placeOf 10 rfl) (by decide) ?_
    exact g_iret rfl (kdX5_placeOf 11 rfl)
  · refine g_iload_n 2 (kdX5_placeOf 6 rfl) rfl ?_
    refine g_iload_n 0 (kdX5_placeOf 7 rfl) rfl ?_
    refine g_calI (ck_S (As := [.inl a1, .inl x1]) (S := []) (kdX5_placeOf 8 rfl) iJ9_floorMod_7cf53 lX5_27 rfl rfl rfl (by decide) (by simp only [List.map, vcat, List.sum_cons, List.sum_nil]; decide)) (CJ9_floorMod_7cf53 a1 x1 m) (fun x3 m2 => ?_)
    refine g_goto (tgt := 19) (kdX5_placeOf 9 rfl) (by decide) ?_
    exact g_iret rfl (kdX5_placeOf 11 rfl)
def JX5_keep (n : Nat) (a1 : Int32) (n2 : Nat) (m : hM) : hR :=
  calI (JX5_placeOf n a1 m) fun x2 m1 =>
  ast m1 21 n x2 (m1.1 18 n2 9) fun m3 =>
  ast m3 22 n x2 (m3.1 18 n2 10) fun m4 =>
  ast m4 23 n x2 (m4.1 18 n2 13) fun m5 =>
  some (none, m5)
set_option maxRecDepth 20000 in
theorem CX5_keep (n : Nat) (a1 : Int32) (n2 : Nat) (m : hM) : Cn mX5_keep 2 [.inr (.inr (20, n)), .inl a1, .inr (.inr (18, n2))] m (JX5_keep n a1 n2 m) := by
  refine cn_of (by decide +kernel) (by simp only [List.map, vcat, List.sum_cons, List.sum_nil]; decide) ?_
  unfold JX5_keep
  show G mX5_keep 2 0 [(0, .inr (.inr (20, n))), (1, .inl a1), (2, .inr (.inr (18, n2)))] [] m _
  refine g_aload_n 0 (kdX5_keep 0 rfl) rfl ?_
  refine g_iload_n 1 (kdX5_keep 1 rfl) rfl ?_
  refine g_calI (ck_V (As := [.inl a1]) (S := []) (t := 20) (o := n) (kdX5_keep 2 rfl) iX5_placeOf lX5_30 rc_20 rfl rfl rfl (by decide) (by simp only [List.map, vcat, List.sum_cons, List.sum_nil]; decide)) (CX5_placeOf n a1 m) (fun x2 m1 => ?_)
  refine g_istore_n (L2 := [(3, .inl x2), (0, .inr (.inr (20, n))), (1, .inl a1), (2, .inr (.inr (18, n2)))]) (kdX5_keep 3 rfl) rfl (by decide) ?_
  refine g_aload_n 1 (kdX5_keep 4 rfl) rfl ?_
  refine g_get (v := .inr (.inr (21, n))) (kdX5_keep 5 rfl) fX5_15 rfl ?_
  refine g_iload_n 0 (kdX5_keep 6 rfl) rfl ?_
  refine g_aload_n 3 (kdX5_keep 7 rfl) rfl ?_
  refine g_get (v := .inl (m1.1 18 n2 9)) (kdX5_keep 8 rfl) fX5_34 rfl ?_
  refine g_iast (kdX5_keep 9 rfl) (fun m3 => ?_)
  refine g_aload_n 1 (kdX5_keep 10 rfl) rfl ?_
  refine g_get (v := .inr (.inr (22, n))) (kdX5_keep 11 rfl) fX5_21 rfl ?_
  refine g_iload_n 0 (kdX5_keep 12 rfl) rfl ?_
  refine g_aload_n 3 (kdX5_keep 13 rfl) rfl ?_
  refine g_get (v := .inl (m3.1 18 n2 10)) (kdX5_keep 14 rfl) fX5_40 rfl ?_
  refine g_iast (kdX5_keep 15 rfl) (fun m4 => ?_)
  refine g_aload_n 1 (kdX5_keep 16 rfl) rfl ?_
  refine g_get (v := .inr (.inr (23, n))) (kdX5_keep 17 rfl) fX5_24 rfl ?_
  refine g_iload_n 0 (kdX5_keep 18 rfl) rfl ?_
  refine g_aload_n 3 (kdX5_keep 19 rfl) rfl ?_
  refine g_get (v := .inl (m4.1 18 n2 13)) (kdX5_keep 20 rfl) fX5_43 rfl ?_
  refine g_iast (kdX5_keep 21 rfl) (fun m5 => ?_)
  exact g_vret rfl (kdX5_keep 22 rfl)
def JX5_entry (n : Nat) (a1 : Int32) (a2 : Int32) (m : hM) : hR :=
  calI (JX5_placeOf n a1 m) fun x2 m1 =>
  swL a2 [(0, ald m1 21 n x2 fun x3 =>
  some (some (.inl x3), m1)), (1, ald m1 22 n x2 fun x4 =>
  some (some (.inl x4), m1)), (2, ald m1 23 n x2 fun x5 =>
  some (some (.inl x5), m1))] (some (some (.inl (-1000000000)), m1))
set_option maxRecDepth 20000 in
theorem CX5_entry (n : Nat) (a1 : Int32) (a2 : Int32) (m : hM) : Cn mX5_entry 2 [.inr (.inr (20, n)), .inl a1, .inl a2] m (JX5_entry n a1 a2 m) := by
  refine cn_of (by decide +kernel) (by simp only [List.map, vcat, List.sum_cons, List.sum_nil]; decide) ?_
  unfold JX5_entry
  show G mX5_entry 2 0 [(0, .inr (.inr (20, n))), (1, .inl a1), (2, .inl a2)] [] m _
  refine g_aload_n 0 (kdX5_entry 0 rfl) rfl ?_
  refine g_iload_n 1 (kdX5_entry 1 rfl) rfl ?_
  refine g_calI (ck_V (As := [.inl a1]) (S := []) (t := 20) (o := n) (kdX5_entry 2 rfl) iX5_placeOf lX5_30 rc_20 rfl rfl rfl (by decide) (by simp only [List.map, vcat, List.sum_cons, List.sum_nil]; decide)) (CX5_placeOf n a1 m) (fun x2 m1 => ?_)
  refine g_istore_n (L2 := [(3, .inl x2), (0, .inr (.inr (20, n))), (1, .inl a1), (2, .inl a2)]) (kdX5_entry 3 rfl) rfl (by decide) ?_
  refine g_iload_n 3 (kdX5_entry 4 rfl) rfl ?_
  refine g_table (offs := [25, 32, 39]) (dt := 53) (kdX5_entry 5 rfl) (by simp only [swK]; decide) rfl (by decide) ⟨⟨32, by decide, ?_⟩, ⟨39, by decide, ?_⟩, ⟨46, by decide, ?_⟩, trivial⟩ ?_
  · refine g_aload_n 1 (kdX5_entry 6 rfl) rfl ?_
    refine g_get (v := .inr (.inr (21, n))) (kdX5_entry 7 rfl) fX5_15 rfl ?_
    refine g_iload_n 0 (kdX5_entry 8 rfl) rfl ?_
    refine g_iald (kdX5_entry 9 rfl) (fun x3 => ?_)
    exact g_iret rfl (kdX5_entry 10 rfl)
  · refine g_aload_n 1 (kdX5_entry 11 rfl) rfl ?_
    refine g_get (v := .inr (.inr (22, n))) (kdX5_entry 12 rfl) fX5_21 rfl ?_
    refine g_iload_n 0 (kdX5_entry 13 rfl) rfl ?_
    refine g_iald (kdX5_entry 14 rfl) (fun x4 => ?_)
    exact g_iret rfl (kdX5_entry 15 rfl)
  · refine g_aload_n 1 (kdX5_entry 16 rfl) rfl ?_
    refine g_get (v := .inr (.inr (23, n))) (kdX5_entry 17 rfl) fX5_24 rfl ?_
    refine g_iload_n 0 (kdX5_entry 18 rfl) rfl ?_
    refine g_iald (kdX5_entry 19 rfl) (fun x5 => ?_)
    exact g_iret rfl (kdX5_entry 20 rfl)
  · refine g_ldc (kdX5_entry 21 rfl) cX5_45 ?_
    exact g_iret rfl (kdX5_entry 22 rfl)
def bJX5_copyLatest_9 (K9 : Int32 → hM → hR) (K76 : hM → hR) (w0 : Nat) (w1 : Nat) (v2 : Int32) (v3 : Int32) (m : hM) : hR :=
  if v2 ≤ v3 then (K76 m) else (calI (JX5_placeOf w1 v3 m) fun x4 m3 =>
  calI (JX5_placeOf w0 v3 m3) fun x6 m5 =>
  ald m5 21 w1 x4 fun x7 =>
  ast m5 21 w0 x6 x7 fun m8 =>
  ald m8 22 w1 x4 fun x9 =>
  ast m8 22 w0 x6 x9 fun m10 =>
  ald m10 23 w1 x4 fun x11 =>
  ast m10 23 w0 x6 x11 fun m12 =>
  K9 (v3 + 1) m12)
set_option maxRecDepth 20000 in
theorem BbJX5_copyLatest_9 (K9 : Int32 → hM → hR) (K76 : hM → hR) (w0 : Nat) (w1 : Nat) (v2 : Int32) (h9 : ∀ (v3 : Int32) (m : hM), G mX5_copyLatest 2 9 [(0, .inr (.inr (20, w0))), (1, .inr (.inr (20, w1))), (2, .inl v2), (3, .inl v3)] [] m (K9 v3 m)) (h76 : ∀ (m : hM), G mX5_copyLatest 2 76 [] [] m (K76 m)) (v3 : Int32) (m : hM) : G mX5_copyLatest 2 9 [(0, .inr (.inr (20, w0))), (1, .inr (.inr (20, w1))), (2, .inl v2), (3, .inl v3)] [] m (bJX5_copyLatest_9 K9 K76 w0 w1 v2 v3 m) := by
  unfold bJX5_copyLatest_9
  refine g_iload_n 3 (kdX5_copyLatest 6 rfl) rfl ?_
  refine g_iload_n 2 (kdX5_copyLatest 7 rfl) rfl ?_
  refine g_icmp_ge (tgt := 76) (kdX5_copyLatest 8 rfl) (by decide) (fun _ => ?_) (fun _ => ?_)
  · exact g_fgt [] rfl (h76 m)
  · refine g_aload_n 1 (kdX5_copyLatest 9 rfl) rfl ?_
    refine g_iload_n 3 (kdX5_copyLatest 10 rfl) rfl ?_
    refine g_calI (ck_V (As := [.inl v3]) (S := []) (t := 20) (o := w1) (kdX5_copyLatest 11 rfl) iX5_placeOf lX5_30 rc_20 rfl rfl rfl (by decide) (by simp only [List.map, vcat, List.sum_cons, List.sum_nil]; decide)) (CX5_placeOf w1 v3 m) (fun x4 m3 => ?_)
    refine g_istore (L2 := [(4, .inl x4), (0, .inr (.inr (20, w0))), (1, .inr (.inr (20, w1))), (2, .inl v2), (3, .inl v3)]) (kdX5_copyLatest 12 rfl) rfl (by decide) ?_
    refine g_aload_n 1 (kdX5_copyLatest 13 rfl) rfl ?_
    refine g_iload_n 4 (kdX5_copyLatest 14 rfl) rfl ?_
    refine g_calI (ck_V (As := [.inl v3]) (S := []) (t := 20) (o := w0) (kdX5_copyLatest 15 rfl) iX5_placeOf lX5_30 rc_20 rfl rfl rfl (by decide) (by simp only [List.map, vcat, List.sum_cons, List.sum_nil]; decide)) (CX5_placeOf w0 v3 m3) (fun x6 m5 => ?_)
    refine g_istore (L2 := [(5, .inl x6), (4, .inl x4), (0, .inr (.inr (20, w0))), (1, .inr (.inr (20, w1))), (2, .inl v2), (3, .inl v3)]) (kdX5_copyLatest 16 rfl) rfl (by decide) ?_
    refine g_aload_n 2 (kdX5_copyLatest 17 rfl) rfl ?_
    refine g_get (v := .inr (.inr (21, w0))) (kdX5_copyLatest 18 rfl) fX5_15 rfl ?_
    refine g_iload 0 (kdX5_copyLatest 19 rfl) rfl ?_
    refine g_aload_n 3 (kdX5_copyLatest 20 rfl) rfl ?_
    refine g_get (v := .inr (.inr (21, w1))) (kdX5_copyLatest 21 rfl) fX5_15 rfl ?_
    refine g_iload 1 (kdX5_copyLatest 22 rfl) rfl ?_
    refine g_iald (kdX5_copyLatest 23 rfl) (fun x7 => ?_)
    refine g_iast (kdX5_copyLatest 24 rfl) (fun m8 => ?_)
    refine g_aload_n 2 (kdX5_copyLatest 25 rfl) rfl ?_
    refine g_get (v := .inr (.inr (22, w0))) (kdX5_copyLatest 26 rfl) fX5_21 rfl ?_
    refine g_iload 0 (kdX5_copyLatest 27 rfl) rfl ?_
    refine g_aload_n 3 (kdX5_copyLatest 28 rfl) rfl ?_
    refine g_get (v := .inr (.inr (22, w1))) (kdX5_copyLatest 29 rfl) fX5_21 rfl ?_
    refine g_iload 1 (kdX5_copyLatest 30 rfl) rfl ?_
    refine g_iald (kdX5_copyLatest 31 rfl) (fun x9 => ?_)
    refine g_iast (kdX5_copyLatest 32 rfl) (fun m10 => ?_)
    refine g_aload_n 2 (kdX5_copyLatest 33 rfl) rfl ?_
    refine g_get (v := .inr (.inr (23, w0))) (kdX5_copyLatest 34 rfl) fX5_24 rfl ?_
    refine g_iload 0 (kdX5_copyLatest 35 rfl) rfl ?_
    refine g_aload_n 3 (kdX5_copyLatest 36 rfl) rfl ?_
    refine g_get (v := .inr (.inr (23, w1))) (kdX5_copyLatest 37 rfl) fX5_24 rfl ?_
    refine g_iload 1 (kdX5_copyLatest 38 rfl) rfl ?_
    refine g_iald (kdX5_copyLatest 39 rfl) (fun x11 => ?_)
    refine g_iast (kdX5_copyLatest 40 rfl) (fun m12 => ?_)
    refine g_iinc (v := v3 + 1) (L2 := [(3, .inl (v3 + 1)), (5, .inl x6), (4, .inl x4), (0, .inr (.inr (20, w0))), (1, .inr (.inr (20, w1))), (2, .inl v2)]) 5 (kdX5_copyLatest 41 rfl) rfl rfl rfl (by decide) ?_
    refine g_goto (tgt := 9) (kdX5_copyLatest 42 rfl) (by decide) ?_
    exact g_fgt [3, 4, 5, 0] rfl (h9 (v3 + 1) m12)
def JX5_copyLatest_9 (K76 : hM → hR) (w0 : Nat) (w1 : Nat) (v2 : Int32) : Nat → Int32 → hM → hR
  | 0, _, _ => none
  | f + 1, v3, m => bJX5_copyLatest_9 (fun v3 m => JX5_copyLatest_9 K76 w0 w1 v2 f v3 m) K76 w0 w1 v2 v3 m
theorem BJX5_copyLatest_9 (K76 : hM → hR) (w0 : Nat) (w1 : Nat) (v2 : Int32) (h76 : ∀ (m : hM), G mX5_copyLatest 2 76 [] [] m (K76 m)) : ∀ (f : Nat) (v3 : Int32) (m : hM), G mX5_copyLatest 2 9 [(0, .inr (.inr (20, w0))), (1, .inr (.inr (20, w1))), (2, .inl v2), (3, .inl v3)] [] m (JX5_copyLatest_9 K76 w0 w1 v2 f v3 m)
  | 0, _, _ => g_none
  | f + 1, v3, m => BbJX5_copyLatest_9  _ K76 w0 w1 v2 (fun v3 m => BJX5_copyLatest_9  K76 w0 w1 v2 h76 f v3 m) h76 v3 m
def JX5_copyLatest (n : Nat) (n1 : Nat) (a2 : Int32) (m : hM) : hR :=
  calI (JJ9_max_7cf53 (a2 - 60) 0 m) fun x2 m1 =>
  JX5_copyLatest_9 (fun m13 => some (none, m13)) n n1 a2 FU x2 m1
set_option maxRecDepth 20000 in
theorem CX5_copyLatest (n : Nat) (n1 : Nat) (a2 : Int32) (m : hM) : Cn mX5_copyLatest 2 [.inr (.inr (20, n)), .inr (.inr (20, n1)), .inl a2] m (JX5_copyLatest n n1 a2 m) := by
  refine cn_of (by decide +kernel) (by simp only [List.map, vcat, List.sum_cons, List.sum_nil]; decide) ?_
  unfold JX5_copyLatest
  show G mX5_copyLatest 2 0 [(0, .inr (.inr (20, n))), (1, .inr (.inr (20, n1))), (2, .inl a2)] [] m _
  refine g_iload_n 2 (kdX5_copyLatest 0 rfl) rfl ?_
  refine g_bipush (v := 60) (kdX5_copyLatest 1 rfl) (by decide) ?_
  refine g_isub (kdX5_copyLatest 2 rfl) ?_
  refine g_iconst (v := 0) (kdX5_copyLatest 3 rfl) (by decide) ?_
  refine g_calI (ck_S (As := [.inl (a2 - 60), .inl 0]) (S := []) (kdX5_copyLatest 4 rfl) iJ9_max_7cf53 lX5_9 rfl rfl rfl (by decide) (by simp only [List.map, vcat, List.sum_cons, List.sum_nil]; decide)) (CJ9_max_7cf53 (a2 - 60) 0 m) (fun x2 m1 => ?_)
  refine g_istore_n (L2 := [(3, .inl x2), (0, .inr (.inr (20, n))), (1, .inr (.inr (20, n1))), (2, .inl a2)]) (kdX5_copyLatest 5 rfl) rfl (by decide) ?_
  refine g_fgt [1, 2, 3, 0] rfl (BJX5_copyLatest_9  _ n n1 a2 ?_ FU x2 m1)
  · intro m13
    exact g_vret rfl (kdX5_copyLatest 43 rfl)
