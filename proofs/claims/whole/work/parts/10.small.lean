abbrev mJ9_floorDiv_7cf53 : hMt := (yJ9_floorDiv_7cf53, cJ9_floorDiv_7cf53, 3, some .int)
def tJ9_floorDiv_7cf53 : hTb := [(0, .iload_n 0, 1, 1), (1, .iload_n 1, 1, 2), (2, .idiv, 1, 3), (3, .istore_n 2, 1, 4), (4, .iload_n 0, 1, 5), (5, .iload_n 1, 1, 6), (6, .ixor, 1, 7), (7, .ifCond .ge 14, 3, 10), (10, .iload_n 2, 1, 11), (11, .iload_n 1, 1, 12), (12, .imul, 1, 13), (13, .iload_n 0, 1, 14), (14, .if_icmp .eq 7, 3, 17), (17, .iload_n 2, 1, 18), (18, .iconst 1, 1, 19), (19, .isub, 1, 20), (20, .ireturn, 1, 21), (21, .iload_n 2, 1, 22), (22, .ireturn, 1, 23)]
theorem ktJ9_floorDiv_7cf53 : TbOK mJ9_floorDiv_7cf53 tJ9_floorDiv_7cf53 := by
  unfold TbOK
  decide +kernel
theorem kdJ9_floorDiv_7cf53 (k : Nat) {pc : Nat} {i : Instr} {len nx : Nat} (hk : tJ9_floorDiv_7cf53[k]? = some (pc, i, len, nx)) : Dc mJ9_floorDiv_7cf53 pc i len nx := dc_of ktJ9_floorDiv_7cf53 k hk
theorem iJ9_floorDiv_7cf53 : MiS mJ9_floorDiv_7cf53 := ⟨⟨gdw_of (i := 1175) (by decide +kernel) (by decide +kernel), gdw_of (i := 120) (by decide +kernel) (by decide +kernel), by decide, by decide, by decide⟩, gdw_of (i := 1174) (by decide +kernel) (by decide +kernel)⟩
abbrev mJ9_floorMod_7cf53 : hMt := (yJ9_floorMod_7cf53, cJ9_floorMod_7cf53, 3, some .int)
def tJ9_floorMod_7cf53 : hTb := [(0, .iload_n 0, 1, 1), (1, .iload_n 1, 1, 2), (2, .irem, 1, 3), (3, .istore_n 2, 1, 4), (4, .iload_n 0, 1, 5), (5, .iload_n 1, 1, 6), (6, .ixor, 1, 7), (7, .ifCond .ge 11, 3, 10), (10, .iload_n 2, 1, 11), (11, .ifCond .eq 7, 3, 14), (14, .iload_n 2, 1, 15), (15, .iload_n 1, 1, 16), (16, .iadd, 1, 17), (17, .ireturn, 1, 18), (18, .iload_n 2, 1, 19), (19, .ireturn, 1, 20)]
theorem ktJ9_floorMod_7cf53 : TbOK mJ9_floorMod_7cf53 tJ9_floorMod_7cf53 := by
  unfold TbOK
  decide +kernel
theorem kdJ9_floorMod_7cf53 (k : Nat) {pc : Nat} {i : Instr} {len nx : Nat} (hk : tJ9_floorMod_7cf53[k]? = some (pc, i, len, nx)) : Dc mJ9_floorMod_7cf53 pc i len nx := dc_of ktJ9_floorMod_7cf53 k hk
theorem iJ9_floorMod_7cf53 : MiS mJ9_floorMod_7cf53 := ⟨⟨gdw_of (i := 810) (by decide +kernel) (by decide +kernel), gdw_of (i := 120) (by decide +kernel) (by decide +kernel), by decide, by decide, by decide⟩, gdw_of (i := 809) (by decide +kernel) (by decide +kernel)⟩
abbrev mJ9_max_7cf53 : hMt := (yJ9_max_7cf53, cJ9_max_7cf53, 2, some .int)
def tJ9_max_7cf53 : hTb := [(0, .iload_n 0, 1, 1), (1, .iload_n 1, 1, 2), (2, .if_icmp .lt 7, 3, 5), (5, .iload_n 0, 1, 6), (6, .goto 4, 3, 9), (9, .iload_n 1, 1, 10), (10, .ireturn, 1, 11)]
theorem ktJ9_max_7cf53 : TbOK mJ9_max_7cf53 tJ9_max_7cf53 := by
  unfold TbOK
  decide +kernel
theorem kdJ9_max_7cf53 (k : Nat) {pc : Nat} {i : Instr} {len nx : Nat} (hk : tJ9_max_7cf53[k]? = some (pc, i, len, nx)) : Dc mJ9_max_7cf53 pc i len nx := dc_of ktJ9_max_7cf53 k hk
theorem iJ9_max_7cf53 : MiS mJ9_max_7cf53 := ⟨⟨gdw_of (i := 390) (by decide +kernel) (by decide +kernel), gdw_of (i := 120) (by decide +kernel) (by decide +kernel), by decide, by decide, by decide⟩, gdw_of (i := 389) (by decide +kernel) (by decide +kernel)⟩
abbrev mJ9_min_7cf53 : hMt := (yJ9_min_7cf53, cJ9_min_7cf53, 2, some .int)
def tJ9_min_7cf53 : hTb := [(0, .iload_n 0, 1, 1), (1, .iload_n 1, 1, 2), (2, .if_icmp .gt 7, 3, 5), (5, .iload_n 0, 1, 6), (6, .goto 4, 3, 9), (9, .iload_n 1, 1, 10), (10, .ireturn, 1, 11)]
theorem ktJ9_min_7cf53 : TbOK mJ9_min_7cf53 tJ9_min_7cf53 := by
  unfold TbOK
  decide +kernel
theorem kdJ9_min_7cf53 (k : Nat) {pc : Nat} {i : Instr} {len nx : Nat} (hk : tJ9_min_7cf53[k]? = some (pc, i, len, nx)) : Dc mJ9_min_7cf53 pc i len nx := dc_of ktJ9_min_7cf53 k hk
theorem iJ9_min_7cf53 : MiS mJ9_min_7cf53 := ⟨⟨gdw_of (i := 648) (by decide +kernel) (by decide +kernel), gdw_of (i := 120) (by decide +kernel) (by decide +kernel), by decide, by decide, by decide⟩, gdw_of (i := 647) (by decide +kernel) (by decide +kernel)⟩
abbrev mX11_within : hMt := (yX11_within, cX11_within, 3, some .boolean)
def tX11_within : hTb := [(0, .iload_n 0, 1, 1), (1, .iload_n 1, 1, 2), (2, .if_icmp .lt 12, 3, 5), (5, .iload_n 0, 1, 6), (6, .iload_n 2, 1, 7), (7, .if_icmp .gt 7, 3, 10), (10, .iconst 1, 1, 11), (11, .goto 4, 3, 14), (14, .iconst 0, 1, 15), (15, .ireturn, 1, 16)]
theorem ktX11_within : TbOK mX11_within tX11_within := by
  unfold TbOK
  decide +kernel
theorem kdX11_within (k : Nat) {pc : Nat} {i : Instr} {len nx : Nat} (hk : tX11_within[k]? = some (pc, i, len, nx)) : Dc mX11_within pc i len nx := dc_of ktX11_within k hk
theorem iX11_within : MiS mX11_within := ⟨⟨gdw_of (i := 538) (by decide +kernel) (by decide +kernel), gdw_of (i := 113) (by decide +kernel) (by decide +kernel), by decide, by decide, by decide⟩, gdw_of (i := 537) (by decide +kernel) (by decide +kernel)⟩
abbrev mX11_signOf : hMt := (yX11_signOf, cX11_signOf, 1, some .int)
def tX11_signOf : hTb := [(0, .iload_n 0, 1, 1), (1, .ifCond .le 7, 3, 4), (4, .iconst 1, 1, 5), (5, .goto 12, 3, 8), (8, .iload_n 0, 1, 9), (9, .ifCond .ge 7, 3, 12), (12, .iconst (-1), 1, 13), (13, .goto 4, 3, 16), (16, .iconst 0, 1, 17), (17, .ireturn, 1, 18)]
theorem ktX11_signOf : TbOK mX11_signOf tX11_signOf := by
  unfold TbOK
  decide +kernel
theorem kdX11_signOf (k : Nat) {pc : Nat} {i : Instr} {len nx : Nat} (hk : tX11_signOf[k]? = some (pc, i, len, nx)) : Dc mX11_signOf pc i len nx := dc_of ktX11_signOf k hk
theorem iX11_signOf : MiS mX11_signOf := ⟨⟨gdw_of (i := 983) (by decide +kernel) (by decide +kernel), gdw_of (i := 113) (by decide +kernel) (by decide +kernel), by decide, by decide, by decide⟩, gdw_of (i := 982) (by decide +kernel) (by decide +kernel)⟩
abbrev mX11_sizeOf : hMt := (yX11_sizeOf, cX11_sizeOf, 1, some .int)
def tX11_sizeOf : hTb := [(0, .iload_n 0, 1, 1), (1, .ifCond .ge 8, 3, 4), (4, .iload_n 0, 1, 5), (5, .ineg, 1, 6), (6, .goto 4, 3, 9), (9, .iload_n 0, 1, 10), (10, .ireturn, 1, 11)]
theorem ktX11_sizeOf : TbOK mX11_sizeOf tX11_sizeOf := by
  unfold TbOK
  decide +kernel
theorem kdX11_sizeOf (k : Nat) {pc : Nat} {i : Instr} {len nx : Nat} (hk : tX11_sizeOf[k]? = some (pc, i, len, nx)) : Dc mX11_sizeOf pc i len nx := dc_of ktX11_sizeOf k hk
theorem iX11_sizeOf : MiS mX11_sizeOf := ⟨⟨gdw_of (i := 990) (by decide +kernel) (by decide +kernel), gdw_of (i := 113) (by decide +kernel) (by decide +kernel), by decide, by decide, by decide⟩, gdw_of (i := 989) (by decide +kernel) (by decide +kernel)⟩
abbrev mX11_bitSign : hMt := (yX11_bitSign, cX11_bitSign, 2, some .int)
def tX11_bitSign : hTb := [(0, .iload_n 0, 1, 1), (1, .iload_n 1, 1, 2), (2, .ishr, 1, 3), (3, .iconst 1, 1, 4), (4, .iand, 1, 5), (5, .iconst 1, 1, 6), (6, .if_icmp .ne 7, 3, 9), (9, .iconst 1, 1, 10), (10, .goto 4, 3, 13), (13, .iconst (-1), 1, 14), (14, .ireturn, 1, 15)]
theorem ktX11_bitSign : TbOK mX11_bitSign tX11_bitSign := by
  unfold TbOK
  decide +kernel
theorem kdX11_bitSign (k : Nat) {pc : Nat} {i : Instr} {len nx : Nat} (hk : tX11_bitSign[k]? = some (pc, i, len, nx)) : Dc mX11_bitSign pc i len nx := dc_of ktX11_bitSign k hk
theorem iX11_bitSign : MiS mX11_bitSign := ⟨⟨gdw_of (i := 869) (by decide +kernel) (by decide +kernel), gdw_of (i := 113) (by decide +kernel) (by decide +kernel), by decide, by decide, by decide⟩, gdw_of (i := 868) (by decide +kernel) (by decide +kernel)⟩
abbrev mX11_turned : hMt := (yX11_turned, cX11_turned, 2, some .long)
def tX11_turned : hTb := [(0, .lload_n 0, 1, 1), (1, .ldc2_w 446, 3, 4), (4, .lmul, 1, 5), (5, .ldc2_w 448, 3, 8), (8, .ladd, 1, 9), (9, .lreturn, 1, 10)]
theorem ktX11_turned : TbOK mX11_turned tX11_turned := by
  unfold TbOK
  decide +kernel
theorem kdX11_turned (k : Nat) {pc : Nat} {i : Instr} {len nx : Nat} (hk : tX11_turned[k]? = some (pc, i, len, nx)) : Dc mX11_turned pc i len nx := dc_of ktX11_turned k hk
theorem iX11_turned : MiS mX11_turned := ⟨⟨gdw_of (i := 948) (by decide +kernel) (by decide +kernel), gdw_of (i := 113) (by decide +kernel) (by decide +kernel), by decide, by decide, by decide⟩, gdw_of (i := 947) (by decide +kernel) (by decide +kernel)⟩
abbrev mX11_drawn : hMt := (yX11_drawn, cX11_drawn, 3, some .int)
def tX11_drawn : hTb := [(0, .iload_n 2, 1, 1), (1, .ifCond .le 14, 3, 4), (4, .lload_n 0, 1, 5), (5, .bipush 33, 2, 7), (7, .lushr, 1, 8), (8, .iload_n 2, 1, 9), (9, .i2l, 1, 10), (10, .lrem, 1, 11), (11, .l2i, 1, 12), (12, .goto 4, 3, 15), (15, .iconst 0, 1, 16), (16, .ireturn, 1, 17)]
theorem ktX11_drawn : TbOK mX11_drawn tX11_drawn := by
  unfold TbOK
  decide +kernel
theorem kdX11_drawn (k : Nat) {pc : Nat} {i : Instr} {len nx : Nat} (hk : tX11_drawn[k]? = some (pc, i, len, nx)) : Dc mX11_drawn pc i len nx := dc_of ktX11_drawn k hk
theorem iX11_drawn : MiS mX11_drawn := ⟨⟨gdw_of (i := 953) (by decide +kernel) (by decide +kernel), gdw_of (i := 113) (by decide +kernel) (by decide +kernel), by decide, by decide, by decide⟩, gdw_of (i := 952) (by decide +kernel) (by decide +kernel)⟩
abbrev mX11_push : hMt := (yX11_push, cX11_push, 3, none)
def tX11_push : hTb := [(0, .aload_n 0, 1, 1), (1, .arraylength, 1, 2), (2, .iconst 1, 1, 3), (3, .isub, 1, 4), (4, .istore_n 2, 1, 5), (5, .iload_n 2, 1, 6), (6, .ifCond .le 17, 3, 9), (9, .aload_n 0, 1, 10), (10, .iload_n 2, 1, 11), (11, .aload_n 0, 1, 12), (12, .iload_n 2, 1, 13), (13, .iconst 1, 1, 14), (14, .isub, 1, 15), (15, .iaload, 1, 16), (16, .iastore, 1, 17), (17, .iinc 2 (-1), 3, 20), (20, .goto (-15), 3, 23), (23, .aload_n 0, 1, 24), (24, .arraylength, 1, 25), (25, .ifCond .le 7, 3, 28), (28, .aload_n 0, 1, 29), (29, .iconst 0, 1, 30), (30, .iload_n 1, 1, 31), (31, .iastore, 1, 32), (32, .return_, 1, 33)]
theorem ktX11_push : TbOK mX11_push tX11_push := by
  unfold TbOK
  decide +kernel
theorem kdX11_push (k : Nat) {pc : Nat} {i : Instr} {len nx : Nat} (hk : tX11_push[k]? = some (pc, i, len, nx)) : Dc mX11_push pc i len nx := dc_of ktX11_push k hk
theorem iX11_push : MiS mX11_push := ⟨⟨gdw_of (i := 941) (by decide +kernel) (by decide +kernel), gdw_of (i := 113) (by decide +kernel) (by decide +kernel), by decide, by decide, by decide⟩, gdw_of (i := 940) (by decide +kernel) (by decide +kernel)⟩
abbrev mX11_moved : hMt := (yX11_moved, cX11_moved, 5, some .int)
def tX11_moved : hTb := [(0, .iload_n 0, 1, 1), (1, .iload_n 1, 1, 2), (2, .iadd, 1, 3), (3, .istore 4, 2, 5), (5, .iload 4, 2, 7), (7, .iload_n 2, 1, 8), (8, .if_icmp .ge 7, 3, 11), (11, .iload_n 2, 1, 12), (12, .goto 15, 3, 15), (15, .iload 4, 2, 17), (17, .iload_n 3, 1, 18), (18, .if_icmp .le 7, 3, 21), (21, .iload_n 3, 1, 22), (22, .goto 5, 3, 25), (25, .iload 4, 2, 27), (27, .ireturn, 1, 28)]
theorem ktX11_moved : TbOK mX11_moved tX11_moved := by
  unfold TbOK
  decide +kernel
theorem kdX11_moved (k : Nat) {pc : Nat} {i : Instr} {len nx : Nat} (hk : tX11_moved[k]? = some (pc, i, len, nx)) : Dc mX11_moved pc i len nx := dc_of ktX11_moved k hk
theorem iX11_moved : MiS mX11_moved := ⟨⟨gdw_of (i := 1006) (by decide +kernel) (by decide +kernel), gdw_of (i := 113) (by decide +kernel) (by decide +kernel), by decide, by decide, by decide⟩, gdw_of (i := 1005) (by decide +kernel) (by decide +kernel)⟩
theorem lX11_110 : Lk RX11 110 mX11_within := Or.inl (gdw_of (i := 740) (by decide +kernel) (by decide +kernel))
theorem lX11_260 : Lk RX11 260 mJ9_floorDiv_7cf53 := Or.inl (gdw_of (i := 1173) (by decide +kernel) (by decide +kernel))
theorem lX11_319 : Lk RX11 319 mX11_sizeOf := Or.inl (gdw_of (i := 1309) (by decide +kernel) (by decide +kernel))
theorem lX11_361 : Lk RX11 361 mJ9_min_7cf53 := Or.inl (gdw_of (i := 799) (by decide +kernel) (by decide +kernel))
theorem lX11_426 : Lk RX11 426 mJ9_floorMod_7cf53 := Or.inl (gdw_of (i := 910) (by decide +kernel) (by decide +kernel))
theorem lX11_429 : Lk RX11 429 mX11_turned := Or.inl (gdw_of (i := 1093) (by decide +kernel) (by decide +kernel))
theorem lX11_432 : Lk RX11 432 mX11_drawn := Or.inl (gdw_of (i := 1094) (by decide +kernel) (by decide +kernel))
theorem lX11_443 : Lk RX11 443 mX11_bitSign := Or.inl (gdw_of (i := 885) (by decide +kernel) (by decide +kernel))
theorem lX0_61 : Lk RX0 61 mX11_within := Or.inr (by decide +kernel)
theorem lX0_74 : Lk RX0 74 mX11_sizeOf := Or.inr (by decide +kernel)
theorem lX1_65 : Lk RX1 65 mX11_bitSign := Or.inr (by decide +kernel)
theorem lX1_80 : Lk RX1 80 mJ9_max_7cf53 := Or.inl (gdw_of (i := 1231) (by decide +kernel) (by decide +kernel))
theorem lX1_85 : Lk RX1 85 mX11_within := Or.inr (by decide +kernel)
theorem lX3_30 : Lk RX3 30 mX11_bitSign := Or.inr (by decide +kernel)
theorem lX3_62 : Lk RX3 62 mJ9_min_7cf53 := Or.inl (gdw_of (i := 886) (by decide +kernel) (by decide +kernel))
theorem lX3_68 : Lk RX3 68 mJ9_max_7cf53 := Or.inl (gdw_of (i := 892) (by decide +kernel) (by decide +kernel))
theorem lX3_92 : Lk RX3 92 mX11_within := Or.inr (by decide +kernel)
theorem lX3_99 : Lk RX3 99 mJ9_floorDiv_7cf53 := Or.inl (gdw_of (i := 1190) (by decide +kernel) (by decide +kernel))
theorem lX3_102 : Lk RX3 102 mX11_sizeOf := Or.inr (by decide +kernel)
theorem lX4_31 : Lk RX4 31 mX11_within := Or.inr (by decide +kernel)
theorem lX5_9 : Lk RX5 9 mJ9_max_7cf53 := Or.inl (gdw_of (i := 388) (by decide +kernel) (by decide +kernel))
theorem lX5_27 : Lk RX5 27 mJ9_floorMod_7cf53 := Or.inl (gdw_of (i := 808) (by decide +kernel) (by decide +kernel))
theorem lX6_45 : Lk RX6 45 mX11_within := Or.inr (by decide +kernel)
theorem lX6_154 : Lk RX6 154 mJ9_min_7cf53 := Or.inl (gdw_of (i := 646) (by decide +kernel) (by decide +kernel))
theorem lX7_25 : Lk RX7 25 mX11_within := Or.inr (by decide +kernel)
theorem lX8_124 : Lk RX8 124 mX11_within := Or.inr (by decide +kernel)
theorem lX8_147 : Lk RX8 147 mX11_push := Or.inr (by decide +kernel)
theorem lX8_157 : Lk RX8 157 mX11_turned := Or.inr (by decide +kernel)
theorem lX8_161 : Lk RX8 161 mX11_drawn := Or.inr (by decide +kernel)
theorem lX8_178 : Lk RX8 178 mX11_signOf := Or.inr (by decide +kernel)
theorem lX8_184 : Lk RX8 184 mX11_sizeOf := Or.inr (by decide +kernel)
theorem lX8_214 : Lk RX8 214 mJ9_max_7cf53 := Or.inl (gdw_of (i := 1024) (by decide +kernel) (by decide +kernel))
theorem lX8_245 : Lk RX8 245 mX11_moved := Or.inr (by decide +kernel)
theorem lX10_65 : Lk RX10 65 mJ9_min_7cf53 := Or.inl (gdw_of (i := 995) (by decide +kernel) (by decide +kernel))
theorem lX10_71 : Lk RX10 71 mJ9_max_7cf53 := Or.inl (gdw_of (i := 1019) (by decide +kernel) (by decide +kernel))
theorem lX10_77 : Lk RX10 77 mX11_bitSign := Or.inr (by decide +kernel)
theorem lX12_234 : Lk RX12 234 mJ9_min_7cf53 := Or.inl (gdw_of (i := 1727) (by decide +kernel) (by decide +kernel))
theorem lX12_253 : Lk RX12 253 mJ9_max_7cf53 := Or.inl (gdw_of (i := 1716) (by decide +kernel) (by decide +kernel))
theorem lX12_368 : Lk RX12 368 mJ9_floorDiv_7cf53 := Or.inl (gdw_of (i := 1901) (by decide +kernel) (by decide +kernel))
def JJ9_floorDiv_7cf53 (a1 : Int32) (a2 : Int32) (m : hM) : hR :=
  jidiv a1 a2 fun x1 =>
  if 0 ≤ (a1 ^^^ a2) then (some (some (.inl x1), m)) else (if (x1 * a2) = a1 then (some (some (.inl x1), m)) else (some (some (.inl (x1 - 1)), m)))
set_option maxRecDepth 20000 in
theorem CJ9_floorDiv_7cf53 (a1 : Int32) (a2 : Int32) (m : hM) : Cn mJ9_floorDiv_7cf53 0 [.inl a1, .inl a2] m (JJ9_floorDiv_7cf53 a1 a2 m) := by
  refine cn_of (by decide +kernel) (by simp only [List.map, vcat, List.sum_cons, List.sum_nil]; decide) ?_
  unfold JJ9_floorDiv_7cf53
  show G mJ9_floorDiv_7cf53 0 0 [(0, .inl a1), (1, .inl a2)] [] m _
  refine g_iload_n 0 (kdJ9_floorDiv_7cf53 0 rfl) rfl ?_
  refine g_iload_n 1 (kdJ9_floorDiv_7cf53 1 rfl) rfl ?_
  refine g_idivx (kdJ9_floorDiv_7cf53 2 rfl) (fun x1 => ?_)
  refine g_istore_n (L2 := [(2, .inl x1), (0, .inl a1), (1, .inl a2)]) (kdJ9_floorDiv_7cf53 3 rfl) rfl (by decide) ?_
  refine g_iload_n 1 (kdJ9_floorDiv_7cf53 4 rfl) rfl ?_
  refine g_iload_n 2 (kdJ9_floorDiv_7cf53 5 rfl) rfl ?_
  refine g_ixor (kdJ9_floorDiv_7cf53 6 rfl) ?_
  refine g_if_ge (tgt := 21) (kdJ9_floorDiv_7cf53 7 rfl) (by decide) (fun _ => ?_) (fun _ => ?_)
  · refine g_iload_n 0 (kdJ9_floorDiv_7cf53 17 rfl) rfl ?_
    exact g_iret rfl (kdJ9_floorDiv_7cf53 18 rfl)
  · refine g_iload_n 0 (kdJ9_floorDiv_7cf53 8 rfl) rfl ?_
    refine g_iload_n 2 (kdJ9_floorDiv_7cf53 9 rfl) rfl ?_
    refine g_imul (kdJ9_floorDiv_7cf53 10 rfl) ?_
    refine g_iload_n 1 (kdJ9_floorDiv_7cf53 11 rfl) rfl ?_
    refine g_icmp_eq (tgt := 21) (kdJ9_floorDiv_7cf53 12 rfl) (by decide) (fun _ => ?_) (fun _ => ?_)
    · refine g_iload_n 0 (kdJ9_floorDiv_7cf53 17 rfl) rfl ?_
      exact g_iret rfl (kdJ9_floorDiv_7cf53 18 rfl)
    · refine g_iload_n 0 (kdJ9_floorDiv_7cf53 13 rfl) rfl ?_
      refine g_iconst (v := 1) (kdJ9_floorDiv_7cf53 14 rfl) (by decide) ?_
      refine g_isub (kdJ9_floorDiv_7cf53 15 rfl) ?_
      exact g_iret rfl (kdJ9_floorDiv_7cf53 16 rfl)
def JJ9_floorMod_7cf53 (a1 : Int32) (a2 : Int32) (m : hM) : hR :=
  jirem a1 a2 fun x1 =>
  if 0 ≤ (a1 ^^^ a2) then (some (some (.inl x1), m)) else (if x1 = 0 then (some (some (.inl x1), m)) else (some (some (.inl (x1 + a2)), m)))
set_option maxRecDepth 20000 in
theorem CJ9_floorMod_7cf53 (a1 : Int32) (a2 : Int32) (m : hM) : Cn mJ9_floorMod_7cf53 0 [.inl a1, .inl a2] m (JJ9_floorMod_7cf53 a1 a2 m) := by
  refine cn_of (by decide +kernel) (by simp only [List.map, vcat, List.sum_cons, List.sum_nil]; decide) ?_
  unfold JJ9_floorMod_7cf53
  show G mJ9_floorMod_7cf53 0 0 [(0, .inl a1), (1, .inl a2)] [] m _
  refine g_iload_n 0 (kdJ9_floorMod_7cf53 0 rfl) rfl ?_
  refine g_iload_n 1 (kdJ9_floorMod_7cf53 1 rfl) rfl ?_
  refine g_iremx (kdJ9_floorMod_7cf53 2 rfl) (fun x1 => ?_)
  refine g_istore_n (L2 := [(2, .inl x1), (0, .inl a1), (1, .inl a2)]) (kdJ9_floorMod_7cf53 3 rfl) rfl (by decide) ?_
  refine g_iload_n 1 (kdJ9_floorMod_7cf53 4 rfl) rfl ?_
  refine g_iload_n 2 (kdJ9_floorMod_7cf53 5 rfl) rfl ?_
  refine g_ixor (kdJ9_floorMod_7cf53 6 rfl) ?_
  refine g_if_ge (tgt := 18) (kdJ9_floorMod_7cf53 7 rfl) (by decide) (fun _ => ?_) (fun _ => ?_)
  · refine g_iload_n 0 (kdJ9_floorMod_7cf53 14 rfl) rfl ?_
    exact g_iret rfl (kdJ9_floorMod_7cf53 15 rfl)
  · refine g_iload_n 0 (kdJ9_floorMod_7cf53 8 rfl) rfl ?_
    refine g_if_eq (tgt := 18) (kdJ9_floorMod_7cf53 9 rfl) (by decide) (fun _ => ?_) (fun _ => ?_)
    · refine g_iload_n 0 (kdJ9_floorMod_7cf53 14 rfl) rfl ?_
      exact g_iret rfl (kdJ9_floorMod_7cf53 15 rfl)
    · refine g_iload_n 0 (kdJ9_floorMod_7cf53 10 rfl) rfl ?_
      refine g_iload_n 2 (kdJ9_floorMod_7cf53 11 rfl) rfl ?_
      refine g_iadd (kdJ9_floorMod_7cf53 12 rfl) ?_
      exact g_iret rfl (kdJ9_floorMod_7cf53 13 rfl)
def JJ9_max_7cf53 (a1 : Int32) (a2 : Int32) (m : hM) : hR :=
  if a1 < a2 then (some (some (.inl a2), m)) else (some (some (.inl a1), m))
set_option maxRecDepth 20000 in
theorem CJ9_max_7cf53 (a1 : Int32) (a2 : Int32) (m : hM) : Cn mJ9_max_7cf53 0 [.inl a1, .inl a2] m (JJ9_max_7cf53 a1 a2 m) := by
  refine cn_of (by decide +kernel) (by simp only [List.map, vcat, List.sum_cons, List.sum_nil]; decide) ?_
  unfold JJ9_max_7cf53
  show G mJ9_max_7cf53 0 0 [(0, .inl a1), (1, .inl a2)] [] m _
  refine g_iload_n 0 (kdJ9_max_7cf53 0 rfl) rfl ?_
  refine g_iload_n 1 (kdJ9_max_7cf53 1 rfl) rfl ?_
  refine g_icmp_lt (tgt := 9) (kdJ9_max_7cf53 2 rfl) (by decide) (fun _ => ?_) (fun _ => ?_)
  · refine g_iload_n 1 (kdJ9_max_7cf53 5 rfl) rfl ?_
    exact g_iret rfl (kdJ9_max_7cf53 6 rfl)
  · refine g_iload_n 0 (kdJ9_max_7cf53 3 rfl) rfl ?_
    refine g_goto (tgt := 10) (kdJ9_max_7cf53 4 rfl) (by decide) ?_
    exact g_iret rfl (kdJ9_max_7cf53 6 rfl)
def JJ9_min_7cf53 (a1 : Int32) (a2 : Int32) (m : hM) : hR :=
  if a2 < a1 then (some (some (.inl a2), m)) else (some (some (.inl a1), m))
set_option maxRecDepth 20000 in
theorem CJ9_min_7cf53 (a1 : Int32) (a2 : Int32) (m : hM) : Cn mJ9_min_7cf53 0 [.inl a1, .inl a2] m (JJ9_min_7cf53 a1 a2 m) := by
  refine cn_of (by decide +kernel) (by simp only [List.map, vcat, List.sum_cons, List.sum_nil]; decide) ?_
  unfold JJ9_min_7cf53
  show G mJ9_min_7cf53 0 0 [(0, .inl a1), (1, .inl a2)] [] m _
  refine g_iload_n 0 (kdJ9_min_7cf53 0 rfl) rfl ?_
  refine g_iload_n 1 (kdJ9_min_7cf53 1 rfl) rfl ?_
  refine g_icmp_gt (tgt := 9) (kdJ9_min_7cf53 2 rfl) (by decide) (fun _ => ?_) (fun _ => ?_)
  · refine g_iload_n 1 (kdJ9_min_7cf53 5 rfl) rfl ?_
    exact g_iret rfl (kdJ9_min_7cf53 6 rfl)
  · refine g_iload_n 0 (kdJ9_min_7cf53 3 rfl) rfl ?_
    refine g_goto (tgt := 10) (kdJ9_min_7cf53 4 rfl) (by decide) ?_
    exact g_iret rfl (kdJ9_min_7cf53 6 rfl)
def JX11_within (a1 : Int32) (a2 : Int32) (a3 : Int32) (m : hM) : hR :=
  if a1 < a2 then (jretZ 0 m) else (if a3 < a1 then (jretZ 0 m) else (jretZ 1 m))
set_option maxRecDepth 20000 in
theorem CX11_within (a1 : Int32) (a2 : Int32) (a3 : Int32) (m : hM) : Cn mX11_within 0 [.inl a1, .inl a2, .inl a3] m (JX11_within a1 a2 a3 m) := by
  refine cn_of (by decide +kernel) (by simp only [List.map, vcat, List.sum_cons, List.sum_nil]; decide) ?_
  unfold JX11_within
  show G mX11_within 0 0 [(0, .inl a1), (1, .inl a2), (2, .inl a3)] [] m _
  refine g_iload_n 0 (kdX11_within 0 rfl) rfl ?_
  refine g_iload_n 1 (kdX11_within 1 rfl) rfl ?_
  refine g_icmp_lt (tgt := 14) (kdX11_within 2 rfl) (by decide) (fun _ => ?_) (fun _ => ?_)
  · refine g_iconst (v := 0) (kdX11_within 8 rfl) (by decide) ?_
    exact g_zret rfl (kdX11_within 9 rfl)
  · refine g_iload_n 0 (kdX11_within 3 rfl) rfl ?_
    refine g_iload_n 2 (kdX11_within 4 rfl) rfl ?_
    refine g_icmp_gt (tgt := 14) (kdX11_within 5 rfl) (by decide) (fun _ => ?_) (fun _ => ?_)
    · refine g_iconst (v := 0) (kdX11_within 8 rfl) (by decide) ?_
      exact g_zret rfl (kdX11_within 9 rfl)
    · refine g_iconst (v := 1) (kdX11_within 6 rfl) (by decide) ?_
      refine g_goto (tgt := 15) (kdX11_within 7 rfl) (by decide) ?_
      exact g_zret rfl (kdX11_within 9 rfl)
def JX11_signOf (a1 : Int32) (m : hM) : hR :=
  if a1 ≤ 0 then (if 0 ≤ a1 then (some (some (.inl 0), m)) else (some (some (.inl (-1)), m))) else (some (some (.inl 1), m))
set_option maxRecDepth 20000 in
theorem CX11_signOf (a1 : Int32) (m : hM) : Cn mX11_signOf 0 [.inl a1] m (JX11_signOf a1 m) := by
  refine cn_of (by decide +kernel) (by simp only [List.map, vcat, List.sum_cons, List.sum_nil]; decide) ?_
  unfold JX11_signOf
  show G mX11_signOf 0 0 [(0, .inl a1)] [] m _
  refine g_iload_n 0 (kdX11_signOf 0 rfl) rfl ?_
  refine g_if_le (tgt := 8) (kdX11_signOf 1 rfl) (by decide) (fun _ => ?_) (fun _ => ?_)
  · refine g_iload_n 0 (kdX11_signOf 4 rfl) rfl ?_
    refine g_if_ge (tgt := 16) (kdX11_signOf 5 rfl) (by decide) (fun _ => ?_) (fun _ => ?_)
    · refine g_iconst (v := 0) (kdX11_signOf 8 rfl) (by decide) ?_
      exact g_iret rfl (kdX11_signOf 9 rfl)
    · refine g_iconst (v := (-1)) (kdX11_signOf 6 rfl) (by decide) ?_
      refine g_goto (tgt := 17) (kdX11_signOf 7 rfl) (by decide) ?_
      exact g_iret rfl (kdX11_signOf 9 rfl)
  · refine g_iconst (v := 1) (kdX11_signOf 2 rfl) (by decide) ?_
    refine g_goto (tgt := 17) (kdX11_signOf 3 rfl) (by decide) ?_
    exact g_iret rfl (kdX11_signOf 9 rfl)
def JX11_sizeOf (a1 : Int32) (m : hM) : hR :=
  if 0 ≤ a1 then (some (some (.inl a1), m)) else (some (some (.inl (-a1)), m))
set_option maxRecDepth 20000 in
theorem CX11_sizeOf (a1 : Int32) (m : hM) : Cn mX11_sizeOf 0 [.inl a1] m (JX11_sizeOf a1 m) := by
  refine cn_of (by decide +kernel) (by simp only [List.map, vcat, List.sum_cons, List.sum_nil]; decide) ?_
  unfold JX11_sizeOf
  show G mX11_sizeOf 0 0 [(0, .inl a1)] [] m _
  refine g_iload_n 0 (kdX11_sizeOf 0 rfl) rfl ?_
  refine g_if_ge (tgt := 9) (kdX11_sizeOf 1 rfl) (by decide) (fun _ => ?_) (fun _ => ?_)
  · refine g_iload_n 0 (kdX11_sizeOf 5 rfl) rfl ?_
    exact g_iret rfl (kdX11_sizeOf 6 rfl)
  · refine g_iload_n 0 (kdX11_sizeOf 2 rfl) rfl ?_
    refine g_ineg (kdX11_sizeOf 3 rfl) ?_
    refine g_goto (tgt := 10) (kdX11_sizeOf 4 rfl) (by decide) ?_
    exact g_iret rfl (kdX11_sizeOf 6 rfl)
def JX11_bitSign (a1 : Int32) (a2 : Int32) (m : hM) : hR :=
  if ((a1 >>> (a2 &&& 31)) &&& 1) = 1 then (some (some (.inl 1), m)) else (some (some (.inl (-1)), m))
set_option maxRecDepth 20000 in
theorem CX11_bitSign (a1 : Int32) (a2 : Int32) (m : hM) : Cn mX11_bitSign 0 [.inl a1, .inl a2] m (JX11_bitSign a1 a2 m) := by
  refine cn_of (by decide +kernel) (by simp only [List.map, vcat, List.sum_cons, List.sum_nil]; decide) ?_
  unfold JX11_bitSign
  show G mX11_bitSign 0 0 [(0, .inl a1), (1, .inl a2)] [] m _
  refine g_iload_n 0 (kdX11_bitSign 0 rfl) rfl ?_
  refine g_iload_n 1 (kdX11_bitSign 1 rfl) rfl ?_
  refine g_ishr (kdX11_bitSign 2 rfl) ?_
  refine g_iconst (v := 1) (kdX11_bitSign 3 rfl) (by decide) ?_
  refine g_iand (kdX11_bitSign 4 rfl) ?_
  refine g_iconst (v := 1) (kdX11_bitSign 5 rfl) (by decide) ?_
  refine g_icmp_ne (tgt := 13) (kdX11_bitSign 6 rfl) (by decide) (fun _ => ?_) (fun _ => ?_)
  · refine g_iconst (v := (-1)) (kdX11_bitSign 9 rfl) (by decide) ?_
    exact g_iret rfl (kdX11_bitSign 10 rfl)
  · refine g_iconst (v := 1) (kdX11_bitSign 7 rfl) (by decide) ?_
    refine g_goto (tgt := 14) (kdX11_bitSign 8 rfl) (by decide) ?_
    exact g_iret rfl (kdX11_bitSign 10 rfl)
def JX11_turned (a1 : Int64) (m : hM) : hR :=
  some (some (.inr (.inl ((a1 * 6364136223846793005) + 1442695040888963407))), m)
set_option maxRecDepth 20000 in
theorem CX11_turned (a1 : Int64) (m : hM) : Cn mX11_turned 0 [.inr (.inl a1)] m (JX11_turned a1 m) := by
  refine cn_of (by decide +kernel) (by simp only [List.map, vcat, List.sum_cons, List.sum_nil]; decide) ?_
  unfold JX11_turned
  show G mX11_turned 0 0 [(0, .inr (.inl a1))] [] m _
  refine g_lload_n 0 (kdX11_turned 0 rfl) rfl ?_
  refine g_ldc2 (kdX11_turned 1 rfl) cX11_446 ?_
  refine g_lmul (kdX11_turned 2 rfl) ?_
  refine g_ldc2 (kdX11_turned 3 rfl) cX11_448 ?_
  refine g_ladd (kdX11_turned 4 rfl) ?_
  exact g_lret rfl (kdX11_turned 5 rfl)
def JX11_drawn (a1 : Int64) (a2 : Int32) (m : hM) : hR :=
  if a2 ≤ 0 then (some (some (.inl 0), m)) else (jlrem (jlushr a1 (33 : Int32)) a2.toInt64 fun x1 =>
  some (some (.inl x1.toInt32), m))
set_option maxRecDepth 20000 in
theorem CX11_drawn (a1 : Int64) (a2 : Int32) (m : hM) : Cn mX11_drawn 0 [.inr (.inl a1), .inl a2] m (JX11_drawn a1 a2 m) := by
  refine cn_of (by decide +kernel) (by simp only [List.map, vcat, List.sum_cons, List.sum_nil]; decide) ?_
  unfold JX11_drawn
  show G mX11_drawn 0 0 [(0, .inr (.inl a1)), (2, .inl a2)] [] m _
  refine g_iload_n 1 (kdX11_drawn 0 rfl) rfl ?_
  refine g_if_le (tgt := 15) (kdX11_drawn 1 rfl) (by decide) (fun _ => ?_) (fun _ => ?_)
  · refine g_iconst (v := 0) (kdX11_drawn 10 rfl) (by decide) ?_
    exact g_iret rfl (kdX11_drawn 11 rfl)
  · refine g_lload_n 0 (kdX11_drawn 2 rfl) rfl ?_
    refine g_bipush (v := 33) (kdX11_drawn 3 rfl) (by decide) ?_
    refine g_lushr (kdX11_drawn 4 rfl) ?_
    refine g_iload_n 1 (kdX11_drawn 5 rfl) rfl ?_
    refine g_i2l (kdX11_drawn 6 rfl) ?_
    refine g_lremx (kdX11_drawn 7 rfl) (fun x1 => ?_)
    refine g_l2i (kdX11_drawn 8 rfl) ?_
    refine g_goto (tgt := 16) (kdX11_drawn 9 rfl) (by decide) ?_
    exact g_iret rfl (kdX11_drawn 11 rfl)
def bJX11_push_5 (K5 : Int32 → hM → hR) (K23 : hM → hR) (u0 : Nat) (w0 : Nat) (v1 : Int32) (v2 : Int32) (m : hM) : hR :=
  if v2 ≤ 0 then (K23 m) else (ald m u0 w0 (v2 - 1) fun x3 =>
  ast m u0 w0 v2 x3 fun m4 =>
  K5 (v2 + (-1)) m4)
set_option maxRecDepth 20000 in
theorem BbJX11_push_5 (K5 : Int32 → hM → hR) (K23 : hM → hR) (u0 : Nat) (w0 : Nat) (v1 : Int32) (h5 : ∀ (v2 : Int32) (m : hM), G mX11_push 0 5 [(0, .inr (.inr (u0, w0))), (1, .inl v1), (2, .inl v2)] [] m (K5 v2 m)) (h23 : ∀ (m : hM), G mX11_push 0 23 [(0, .inr (.inr (u0, w0))), (1, .inl v1)] [] m (K23 m)) (v2 : Int32) (m : hM) : G mX11_push 0 5 [(0, .inr (.inr (u0, w0))), (1, .inl v1), (2, .inl v2)] [] m (bJX11_push_5 K5 K23 u0 w0 v1 v2 m) := by
  unfold bJX11_push_5
  refine g_iload_n 2 (kdX11_push 5 rfl) rfl ?_
  refine g_if_le (tgt := 23) (kdX11_push 6 rfl) (by decide) (fun _ => ?_) (fun _ => ?_)
  · exact g_fgt [0, 1] rfl (h23 m)
  · refine g_aload_n 0 (kdX11_push 7 rfl) rfl ?_
    refine g_iload_n 2 (kdX11_push 8 rfl) rfl ?_
    refine g_aload_n 0 (kdX11_push 9 rfl) rfl ?_
    refine g_iload_n 2 (kdX11_push 10 rfl) rfl ?_
    refine g_iconst (v := 1) (kdX11_push 11 rfl) (by decide) ?_
    refine g_isub (kdX11_push 12 rfl) ?_
    refine g_iald (kdX11_push 13 rfl) (fun x3 => ?_)
    refine g_iast (kdX11_push 14 rfl) (fun m4 => ?_)
    refine g_iinc (v := v2 + (-1)) (L2 := [(2, .inl (v2 + (-1))), (0, .inr (.inr (u0, w0))), (1, .inl v1)]) 2 (kdX11_push 15 rfl) rfl rfl rfl (by decide) ?_
    refine g_goto (tgt := 5) (kdX11_push 16 rfl) (by decide) ?_
    exact g_fgt [1, 2, 0] rfl (h5 (v2 + (-1)) m4)
def JX11_push_5 (K23 : hM → hR) (u0 : Nat) (w0 : Nat) (v1 : Int32) : Nat → Int32 → hM → hR
  | 0, _, _ => none
  | f + 1, v2, m => bJX11_push_5 (fun v2 m => JX11_push_5 K23 u0 w0 v1 f v2 m) K23 u0 w0 v1 v2 m
theorem BJX11_push_5 (K23 : hM → hR) (u0 : Nat) (w0 : Nat) (v1 : Int32) (h23 : ∀ (m : hM), G mX11_push 0 23 [(0, .inr (.inr (u0, w0))), (1, .inl v1)] [] m (K23 m)) : ∀ (f : Nat) (v2 : Int32) (m : hM), G mX11_push 0 5 [(0, .inr (.inr (u0, w0))), (1, .inl v1), (2, .inl v2)] [] m (JX11_push_5 K23 u0 w0 v1 f v2 m)
  | 0, _, _ => g_none
  | f + 1, v2, m => BbJX11_push_5  _ K23 u0 w0 v1 (fun v2 m => BJX11_push_5  K23 u0 w0 v1 h23 f v2 m) h23 v2 m
def JX11_push (t1 : Nat) (n1 : Nat) (a2 : Int32) (m : hM) : hR :=
  alenJ t1 n1 fun x1 =>
  lt (x1 - 1) fun x2 =>
  JX11_push_5 (fun m5 => alenJ t1 n1 fun x6 =>
  if x6 ≤ 0 then (some (none, m5)) else (ast m5 t1 n1 0 a2 fun m7 =>
  some (none, m7))) t1 n1 a2 FU x2 m
set_option maxRecDepth 20000 in
theorem CX11_push (t1 : Nat) (n1 : Nat) (a2 : Int32) (m : hM) : Cn mX11_push 0 [.inr (.inr (t1, n1)), .inl a2] m (JX11_push t1 n1 a2 m) := by
  refine cn_of (by decide +kernel) (by simp only [List.map, vcat, List.sum_cons, List.sum_nil]; decide) ?_
  unfold JX11_push
  show G mX11_push 0 0 [(0, .inr (.inr (t1, n1))), (1, .inl a2)] [] m _
  refine g_aload_n 0 (kdX11_push 0 rfl) rfl ?_
  refine g_alen (kdX11_push 1 rfl) (fun x1 => ?_)
  refine g_iconst (v := 1) (kdX11_push 2 rfl) (by decide) ?_
  refine g_isub (kdX11_push 3 rfl) ?_
  refine g_lt (fun x2 => ?_)
  refine g_istore_n (L2 := [(2, .inl x2), (0, .inr (.inr (t1, n1))), (1, .inl a2)]) (kdX11_push 4 rfl) rfl (by decide) ?_
  refine g_fgt [1, 2, 0] rfl (BJX11_push_5  _ t1 n1 a2 ?_ FU x2 m)
  · intro m5
    refine g_aload_n 0 (kdX11_push 17 rfl) rfl ?_
    refine g_alen (kdX11_push 18 rfl) (fun x6 => ?_)
    refine g_if_le (tgt := 32) (kdX11_push 19 rfl) (by decide) (fun _ => ?_) (fun _ => ?_)
    · exact g_vret rfl (kdX11_push 24 rfl)
    · refine g_aload_n 0 (kdX11_push 20 rfl) rfl ?_
      refine g_iconst (v := 0) (kdX11_push 21 rfl) (by decide) ?_
      refine g_iload_n 1 (kdX11_push 22 rfl) rfl ?_
      refine g_iast (kdX11_push 23 rfl) (fun m7 => ?_)
      exact g_vret rfl (kdX11_push 24 rfl)
def JX11_moved (a1 : Int32) (a2 : Int32) (a3 : Int32) (a4 : Int32) (m : hM) : hR :=
  lt (a1 + a2) fun x1 =>
  if a3 ≤ x1 then (if x1 ≤ a4 then (some (some (.inl x1), m)) else (some (some (.inl a4), m))) else (some (some (.inl a3), m))
set_option maxRecDepth 20000 in
theorem CX11_moved (a1 : Int32) (a2 : Int32) (a3 : Int32) (a4 : Int32) (m : hM) : Cn mX11_moved 0 [.inl a1, .inl a2, .inl a3, .inl a4] m (JX11_moved a1 a2 a3 a4 m) := by
  refine cn_of (by decide +kernel) (by simp only [List.map, vcat, List.sum_cons, List.sum_nil]; decide) ?_
  unfold JX11_moved
  show G mX11_moved 0 0 [(0, .inl a1), (1, .inl a2), (2, .inl a3), (3, .inl a4)] [] m _
  refine g_iload_n 0 (kdX11_moved 0 rfl) rfl ?_
  refine g_iload_n 1 (kdX11_moved 1 rfl) rfl ?_
  refine g_iadd (kdX11_moved 2 rfl) ?_
  refine g_lt (fun x1 => ?_)
  refine g_istore (L2 := [(4, .inl x1), (0, .inl a1), (1, .inl a2), (2, .inl a3), (3, .inl a4)]) (kdX11_moved 3 rfl) rfl (by decide) ?_
  refine g_iload 0 (kdX11_moved 4 rfl) rfl ?_
  refine g_iload_n 3 (kdX11_moved 5 rfl) rfl ?_
  refine g_icmp_ge (tgt := 15) (kdX11_moved 6 rfl) (by decide) (fun _ => ?_) (fun _ => ?_)
  · refine g_iload 0 (kdX11_moved 9 rfl) rfl ?_
    refine g_iload_n 4 (kdX11_moved 10 rfl) rfl ?_
    refine g_icmp_le (tgt := 25) (kdX11_moved 11 rfl) (by decide) (fun _ => ?_) (fun _ => ?_)
    · refine g_iload 0 (kdX11_moved 14 rfl) rfl ?_
      exact g_iret rfl (kdX11_moved 15 rfl)
    · refine g_iload_n 4 (kdX11_moved 12 rfl) rfl ?_
      refine g_goto (tgt := 27) (kdX11_moved 13 rfl) (by decide) ?_
      exact g_iret rfl (kdX11_moved 15 rfl)
  · refine g_iload_n 3 (kdX11_moved 7 rfl) rfl ?_
    refine g_goto (tgt := 27) (kdX11_moved 8 rfl) (by decide) ?_
    exact g_iret rfl (kdX11_moved 15 rfl)
