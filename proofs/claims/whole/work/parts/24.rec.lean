abbrev mX0_rightIfHeard : hMt := (yX0_rightIfHeard, cX0_rightIfHeard, 6, some .int)
def tX0_rightIfHeard : hTb := [(0, .iload_n 2, 1, 1), (1, .iconst 0, 1, 2), (2, .iconst 2, 1, 3), (3, .invokestatic 61, 3, 6), (6, .ifCond .ne 5, 3, 9), (9, .iconst 0, 1, 10), (10, .ireturn, 1, 11), (11, .aload_n 0, 1, 12), (12, .getfield 13, 3, 15), (15, .iload_n 2, 1, 16), (16, .iconst 1, 1, 17), (17, .iadd, 1, 18), (18, .aaload, 1, 19), (19, .astore 5, 2, 21), (21, .aload 5, 2, 23), (23, .aload_n 0, 1, 24), (24, .getfield 13, 3, 27), (27, .iload_n 2, 1, 28), (28, .aaload, 1, 29), (29, .invokevirtual 22, 3, 32), (32, .aload 5, 2, 34), (34, .aload_n 1, 1, 35), (35, .iload 4, 2, 37), (37, .invokevirtual 96, 3, 40), (40, .aload_n 0, 1, 41), (41, .aload_n 1, 1, 42), (42, .iload_n 2, 1, 43), (43, .iconst 1, 1, 44), (44, .iadd, 1, 45), (45, .iload_n 3, 1, 46), (46, .invokevirtual 78, 3, 49), (49, .ireturn, 1, 50)]
theorem ktX0_rightIfHeard : TbOK mX0_rightIfHeard tX0_rightIfHeard := by
  unfold TbOK
  decide +kernel
theorem kdX0_rightIfHeard (k : Nat) {pc : Nat} {i : Instr} {len nx : Nat} (hk : tX0_rightIfHeard[k]? = some (pc, i, len, nx)) : Dc mX0_rightIfHeard pc i len nx := dc_of ktX0_rightIfHeard k hk
theorem iX0_rightIfHeard : MiV mX0_rightIfHeard := ⟨⟨gdw_of (i := 1347) (by decide +kernel) (by decide +kernel), gdw_of (i := 123) (by decide +kernel) (by decide +kernel), by decide, by decide, by decide⟩, gdw_of (i := 1346) (by decide +kernel) (by decide +kernel), gdw_of (i := 55) (by decide +kernel) (by decide +kernel)⟩
abbrev mX0_rightBehind : hMt := (yX0_rightBehind, cX0_rightBehind, 7, some .int)
def tX0_rightBehind : hTb := [(0, .iload_n 2, 1, 1), (1, .iconst 0, 1, 2), (2, .iconst 3, 1, 3), (3, .invokestatic 61, 3, 6), (6, .ifCond .ne 5, 3, 9), (9, .iconst 0, 1, 10), (10, .ireturn, 1, 11), (11, .aload_n 0, 1, 12), (12, .getfield 13, 3, 15), (15, .iload_n 2, 1, 16), (16, .aaload, 1, 17), (17, .astore 4, 2, 19), (19, .aload 4, 2, 21), (21, .aload_n 1, 1, 22), (22, .invokevirtual 82, 3, 25), (25, .iconst 0, 1, 26), (26, .istore 5, 2, 28), (28, .aload 4, 2, 30), (30, .getfield 85, 3, 33), (33, .ineg, 1, 34), (34, .istore 6, 2, 36), (36, .iload 6, 2, 38), (38, .aload 4, 2, 40), (40, .getfield 85, 3, 43), (43, .if_icmp .gt 45, 3, 46), (46, .aload 4, 2, 48), (48, .aload_n 1, 1, 49), (49, .iload 6, 2, 51), (51, .invokevirtual 88, 3, 54), (54, .ifCond .ne 28, 3, 57), (57, .iload 5, 2, 59), (59, .iload_n 2, 1, 60), (60, .iconst 1, 1, 61), (61, .iadd, 1, 62), (62, .iload_n 3, 1, 63), (63, .if_icmp .lt 7, 3, 66), (66, .iconst 1, 1, 67), (67, .goto 12, 3, 70), (70, .aload_n 0, 1, 71), (71, .aload_n 1, 1, 72), (72, .iload_n 2, 1, 73), (73, .iload_n 3, 1, 74), (74, .iload 6, 2, 76), (76, .invokevirtual 92, 3, 79), (79, .iadd, 1, 80), (80, .istore 5, 2, 82), (82, .iinc 6 1, 3, 85), (85, .goto (-49), 3, 88), (88, .iload 5, 2, 90), (90, .ireturn, 1, 91)]
theorem ktX0_rightBehind : TbOK mX0_rightBehind tX0_rightBehind := by
  unfold TbOK
  decide +kernel
theorem kdX0_rightBehind (k : Nat) {pc : Nat} {i : Instr} {len nx : Nat} (hk : tX0_rightBehind[k]? = some (pc, i, len, nx)) : Dc mX0_rightBehind pc i len nx := dc_of ktX0_rightBehind k hk
theorem iX0_rightBehind : MiV mX0_rightBehind := ⟨⟨gdw_of (i := 1338) (by decide +kernel) (by decide +kernel), gdw_of (i := 123) (by decide +kernel) (by decide +kernel), by decide, by decide, by decide⟩, gdw_of (i := 1337) (by decide +kernel) (by decide +kernel), gdw_of (i := 54) (by decide +kernel) (by decide +kernel)⟩
abbrev mX0_rightRows : hMt := (yX0_rightRows, cX0_rightRows, 4, some .int)
def tX0_rightRows : hTb := [(0, .aload_n 0, 1, 1), (1, .aload_n 2, 1, 2), (2, .invokevirtual 26, 3, 5), (5, .pop, 1, 6), (6, .aload_n 0, 1, 7), (7, .aload_n 1, 1, 8), (8, .iconst 0, 1, 9), (9, .iload_n 3, 1, 10), (10, .invokevirtual 78, 3, 13), (13, .ireturn, 1, 14)]
theorem ktX0_rightRows : TbOK mX0_rightRows tX0_rightRows := by
  unfold TbOK
  decide +kernel
theorem kdX0_rightRows (k : Nat) {pc : Nat} {i : Instr} {len nx : Nat} (hk : tX0_rightRows[k]? = some (pc, i, len, nx)) : Dc mX0_rightRows pc i len nx := dc_of ktX0_rightRows k hk
theorem iX0_rightRows : MiV mX0_rightRows := ⟨⟨gdw_of (i := 1334) (by decide +kernel) (by decide +kernel), gdw_of (i := 123) (by decide +kernel) (by decide +kernel), by decide, by decide, by decide⟩, gdw_of (i := 1332) (by decide +kernel) (by decide +kernel), gdw_of (i := 1333) (by decide +kernel) (by decide +kernel)⟩
abbrev mX12_clearFrom : hMt := (yX12_clearFrom, cX12_clearFrom, 6, some .int)
def tX12_clearFrom : hTb := [(0, .iload_n 2, 1, 1), (1, .ifCond .ne 5, 3, 4), (4, .iconst 1, 1, 5), (5, .ireturn, 1, 6), (6, .iconst 0, 1, 7), (7, .istore_n 3, 1, 8), (8, .aload_n 0, 1, 9), (9, .iload_n 1, 1, 10), (10, .invokevirtual 355, 3, 13), (13, .aload_n 0, 1, 14), (14, .getfield 37, 3, 17), (17, .bipush 20, 2, 19), (19, .iaload, 1, 20), (20, .istore 4, 2, 22), (22, .iload 4, 2, 24), (24, .ineg, 1, 25), (25, .istore 5, 2, 27), (27, .iload 5, 2, 29), (29, .iload 4, 2, 31), (31, .if_icmp .gt 45, 3, 34), (34, .aload_n 0, 1, 35), (35, .iload 5, 2, 37), (37, .putfield 51, 3, 40), (40, .aload_n 0, 1, 41), (41, .invokevirtual 287, 3, 44), (44, .ifCond .ne 16, 3, 47), (47, .iload_n 3, 1, 48), (48, .aload_n 0, 1, 49), (49, .iload_n 1, 1, 50), (50, .iconst 1, 1, 51), (51, .iadd, 1, 52), (52, .iload_n 2, 1, 53), (53, .iconst 1, 1, 54), (54, .isub, 1, 55), (55, .invokevirtual 398, 3, 58), (58, .iadd, 1, 59), (59, .istore_n 3, 1, 60), (60, .aload_n 0, 1, 61), (61, .iload_n 1, 1, 62), (62, .invokevirtual 362, 3, 65), (65, .aload_n 0, 1, 66), (66, .iconst 1, 1, 67), (67, .putfield 256, 3, 70), (70, .iinc 5 1, 3, 73), (73, .goto (-46), 3, 76), (76, .iload_n 3, 1, 77), (77, .ireturn, 1, 78)]
theorem ktX12_clearFrom : TbOK mX12_clearFrom tX12_clearFrom := by
  unfold TbOK
  decide +kernel
theorem kdX12_clearFrom (k : Nat) {pc : Nat} {i : Instr} {len nx : Nat} (hk : tX12_clearFrom[k]? = some (pc, i, len, nx)) : Dc mX12_clearFrom pc i len nx := dc_of ktX12_clearFrom k hk
theorem iX12_clearFrom : MiV mX12_clearFrom := ⟨⟨gdw_of (i := 1993) (by decide +kernel) (by decide +kernel), gdw_of (i := 124) (by decide +kernel) (by decide +kernel), by decide, by decide, by decide⟩, gdw_of (i := 1992) (by decide +kernel) (by decide +kernel), gdw_of (i := 111) (by decide +kernel) (by decide +kernel)⟩
abbrev mX12_odds : hMt := (yX12_odds, cX12_odds, 3, some .int)
def tX12_odds : hTb := [(0, .aload_n 0, 1, 1), (1, .getfield 203, 3, 4), (4, .ifCond .eq 12, 3, 7), (7, .iload_n 1, 1, 8), (8, .iconst 1, 1, 9), (9, .iconst 4, 1, 10), (10, .invokestatic 89, 3, 13), (13, .ifCond .ne 5, 3, 16), (16, .iconst (-1), 1, 17), (17, .ireturn, 1, 18), (18, .aload_n 0, 1, 19), (19, .iconst 0, 1, 20), (20, .iload_n 1, 1, 21), (21, .invokevirtual 398, 3, 24), (24, .istore_n 2, 1, 25), (25, .aload_n 0, 1, 26), (26, .ldc 50, 2, 28), (28, .putfield 51, 3, 31), (31, .aload_n 0, 1, 32), (32, .iconst 0, 1, 33), (33, .putfield 256, 3, 36), (36, .iload_n 2, 1, 37), (37, .ireturn, 1, 38)]
theorem ktX12_odds : TbOK mX12_odds tX12_odds := by
  unfold TbOK
  decide +kernel
theorem kdX12_odds (k : Nat) {pc : Nat} {i : Instr} {len nx : Nat} (hk : tX12_odds[k]? = some (pc, i, len, nx)) : Dc mX12_odds pc i len nx := dc_of ktX12_odds k hk
theorem iX12_odds : MiV mX12_odds := ⟨⟨gdw_of (i := 1989) (by decide +kernel) (by decide +kernel), gdw_of (i := 124) (by decide +kernel) (by decide +kernel), by decide, by decide, by decide⟩, gdw_of (i := 1987) (by decide +kernel) (by decide +kernel), gdw_of (i := 1988) (by decide +kernel) (by decide +kernel)⟩
theorem lX11_341 : Lk RX11 341 mX0_rightRows := Or.inl (gdw_of (i := 1331) (by decide +kernel) (by decide +kernel))
theorem lX0_78 : Lk RX0 78 mX0_rightBehind := Or.inl (gdw_of (i := 1335) (by decide +kernel) (by decide +kernel))
theorem lX0_92 : Lk RX0 92 mX0_rightIfHeard := Or.inl (gdw_of (i := 1344) (by decide +kernel) (by decide +kernel))
theorem lX12_398 : Lk RX12 398 mX12_clearFrom := Or.inl (gdw_of (i := 1990) (by decide +kernel) (by decide +kernel))
def JX0_rightIfHeardB (JR : Nat → Int32 → Int32 → hM → hR) (n1 : Nat) (a2 : Int32) (a3 : Int32) (a4 : Int32) (m : hM) : hR :=
  calI (JX11_within a2 0 2 m) fun x2 m1 =>
  if x2 = 0 then (some (some (.inl 0), m1)) else (aal 35 (a2 + 1) fun j3 =>
  aal 35 a2 fun j4 =>
  calV (JX8_copy (42 + j3) (42 + j4) m1) fun m5 =>
  calV (JX8_receive (42 + j3) n1 a4 m5) fun m6 =>
  calI (JR n1 (a2 + 1) a3 m6) fun x8 m7 =>
  some (some (.inl x8), m7))
set_option maxRecDepth 20000 in
theorem CX0_rightIfHeardB (JR : Nat → Int32 → Int32 → hM → hR) (q : Nat) (hJR : ∀ (n1 : Nat) (a2 a3 : Int32) (m : hM), Cn mX0_rightBehind (4 + q) [.inr (.inr (34, 0)), .inr (.inr (4, n1)), .inl a2, .inl a3] m (JR n1 a2 a3 m)) (n1 : Nat) (a2 : Int32) (a3 : Int32) (a4 : Int32) (m : hM) : Cn mX0_rightIfHeard (4 + (q + 1)) [.inr (.inr (34, 0)), .inr (.inr (4, n1)), .inl a2, .inl a3, .inl a4] m (JX0_rightIfHeardB JR n1 a2 a3 a4 m) := by
  refine cn_of (by decide +kernel) (by simp only [List.map, vcat, List.sum_cons, List.sum_nil]; decide) ?_
  unfold JX0_rightIfHeardB
  show G mX0_rightIfHeard (4 + (q + 1)) 0 [(0, .inr (.inr (34, 0))), (1, .inr (.inr (4, n1))), (2, .inl a2), (3, .inl a3), (4, .inl a4)] [] m _
  refine g_iload_n 2 (kdX0_rightIfHeard 0 rfl) rfl ?_
  refine g_iconst (v := 0) (kdX0_rightIfHeard 1 rfl) (by decide) ?_
  refine g_iconst (v := 2) (kdX0_rightIfHeard 2 rfl) (by decide) ?_
  refine g_calI (ck_S (As := [.inl a2, .inl 0, .inl 2]) (S := []) (kdX0_rightIfHeard 3 rfl) iX11_within lX0_61 rfl rfl rfl (by omega) (by simp only [List.map, vcat, List.sum_cons, List.sum_nil]; decide)) (CX11_within a2 0 2 m) (fun x2 m1 => ?_)
  refine g_if_ne (tgt := 11) (kdX0_rightIfHeard 4 rfl) (by decide) (fun _ => ?_) (fun _ => ?_)
  · refine g_aload_n 0 (kdX0_rightIfHeard 7 rfl) rfl ?_
    refine g_get (v := .inr (.inr (35, 0))) (kdX0_rightIfHeard 8 rfl) fX0_13 rfl ?_
    refine g_iload_n 2 (kdX0_rightIfHeard 9 rfl) rfl ?_
    refine g_iconst (v := 1) (kdX0_rightIfHeard 10 rfl) (by decide) ?_
    refine g_iadd (kdX0_rightIfHeard 11 rfl) ?_
    refine g_aald (fun j3 => (12, 42 + j3)) (fun _ => rfl) (kdX0_rightIfHeard 12 rfl) (fun j3 => ?_)
    refine g_astore (L2 := [(5, .inr (.inr (12, 42 + j3))), (0, .inr (.inr (34, 0))), (1, .inr (.inr (4, n1))), (2, .inl a2), (3, .inl a3), (4, .inl a4)]) (kdX0_rightIfHeard 13 rfl) rfl (by decide) ?_
    refine g_aload 0 (kdX0_rightIfHeard 14 rfl) rfl ?_
    refine g_aload_n 1 (kdX0_rightIfHeard 15 rfl) rfl ?_
    refine g_get (v := .inr (.inr (35, 0))) (kdX0_rightIfHeard 16 rfl) fX0_13 rfl ?_
    refine g_iload_n 3 (kdX0_rightIfHeard 17 rfl) rfl ?_
    refine g_aald (fun j4 => (12, 42 + j4)) (fun _ => rfl) (kdX0_rightIfHeard 18 rfl) (fun j4 => ?_)
    refine g_calV (ck_V (As := [.inr (.inr (12, 42 + j4))]) (S := []) (t := 12) (o := 42 + j3) (kdX0_rightIfHeard 19 rfl) iX8_copy lX0_22 rc_12 rfl rfl rfl (by omega) (by simp only [List.map, vcat, List.sum_cons, List.sum_nil]; decide)) (CX8_copy (42 + j3) (42 + j4) m1) (fun m5 => ?_)
    refine g_aload 0 (kdX0_rightIfHeard 20 rfl) rfl ?_
    refine g_aload_n 2 (kdX0_rightIfHeard 21 rfl) rfl ?_
    refine g_iload 5 (kdX0_rightIfHeard 22 rfl) rfl ?_
    refine g_calV (ck_V (As := [.inr (.inr (4, n1)), .inl a4]) (S := []) (t := 12) (o := 42 + j3) (kdX0_rightIfHeard 23 rfl) iX8_receive lX0_96 rc_12 rfl rfl rfl (by omega) (by simp only [List.map, vcat, List.sum_cons, List.sum_nil]; decide)) (CX8_receive (42 + j3) n1 a4 m5) (fun m6 => ?_)
    refine g_aload_n 1 (kdX0_rightIfHeard 24 rfl) rfl ?_
    refine g_aload_n 2 (kdX0_rightIfHeard 25 rfl) rfl ?_
    refine g_iload_n 3 (kdX0_rightIfHeard 26 rfl) rfl ?_
    refine g_iconst (v := 1) (kdX0_rightIfHeard 27 rfl) (by decide) ?_
    refine g_iadd (kdX0_rightIfHeard 28 rfl) ?_
    refine g_iload_n 4 (kdX0_rightIfHeard 29 rfl) rfl ?_
    refine g_calI (ck_V (As := [.inr (.inr (4, n1)), .inl (a2 + 1), .inl a3]) (S := []) (t := 34) (o := 0) (kdX0_rightIfHeard 30 rfl) iX0_rightBehind lX0_78 rc_34 rfl rfl rfl (by omega) (by simp only [List.map, vcat, List.sum_cons, List.sum_nil]; decide)) (hJR n1 (a2 + 1) a3 m6) (fun x8 m7 => ?_)
    exact g_iret rfl (kdX0_rightIfHeard 31 rfl)
  · refine g_iconst (v := 0) (kdX0_rightIfHeard 5 rfl) (by decide) ?_
    exact g_iret rfl (kdX0_rightIfHeard 6 rfl)
def JX0_rightBehindB_82 (JR : Nat → Int32 → Int32 → Int32 → hM → hR) (K36 : Int32 → Int32 → hM → hR) (K88 : Int32 → hM → hR) (w1 : Nat) (v2 : Int32) (v3 : Int32) (w4 : Nat) (v5 : Int32) (v6 : Int32) (m : hM) : hR :=
  K36 v5 (v6 + 1) m
set_option maxRecDepth 20000 in
theorem BX0_rightBehindB_82 (JR : Nat → Int32 → Int32 → Int32 → hM → hR) (q : Nat) (hJR : ∀ (n1 : Nat) (a2 a3 a4 : Int32) (m : hM), Cn mX0_rightIfHeard (4 + q) [.inr (.inr (34, 0)), .inr (.inr (4, n1)), .inl a2, .inl a3, .inl a4] m (JR n1 a2 a3 a4 m)) (w1 : Nat) (v2 : Int32) (v3 : Int32) (w4 : Nat) (K36 : Int32 → Int32 → hM → hR) (K88 : Int32 → hM → hR) (h36 : ∀ (v5 : Int32) (v6 : Int32) (m : hM), G mX0_rightBehind (4 + (q + 1)) 36 [(0, .inr (.inr (34, 0))), (1, .inr (.inr (4, w1))), (2, .inl v2), (3, .inl v3), (4, .inr (.inr (12, w4))), (5, .inl v5), (6, .inl v6)] [] m (K36 v5 v6 m)) (h88 : ∀ (v5 : Int32) (m : hM), G mX0_rightBehind (4 + (q + 1)) 88 [(5, .inl v5)] [] m (K88 v5 m)) (v5 : Int32) (v6 : Int32) (m : hM) : G mX0_rightBehind (4 + (q + 1)) 82 [(0, .inr (.inr (34, 0))), (1, .inr (.inr (4, w1))), (2, .inl v2), (3, .inl v3), (4, .inr (.inr (12, w4))), (5, .inl v5), (6, .inl v6)] [] m (JX0_rightBehindB_82 JR K36 K88 w1 v2 v3 w4 v5 v6 m) := by
  unfold JX0_rightBehindB_82
  refine g_iinc (v := v6 + 1) (L2 := [(6, .inl (v6 + 1)), (0, .inr (.inr (34, 0))), (1, .inr (.inr (4, w1))), (2, .inl v2), (3, .inl v3), (4, .inr (.inr (12, w4))), (5, .inl v5)]) 6 (kdX0_rightBehind 46 rfl) rfl rfl rfl (by decide) ?_
  refine g_goto (tgt := 36) (kdX0_rightBehind 47 rfl) (by decide) ?_
  exact g_fgt [1, 2, 3, 4, 5, 6, 0] rfl (h36 v5 (v6 + 1) m)
def JX0_rightBehindB_79 (JR : Nat → Int32 → Int32 → Int32 → hM → hR) (K36 : Int32 → Int32 → hM → hR) (K88 : Int32 → hM → hR) (w1 : Nat) (v2 : Int32) (v3 : Int32) (w4 : Nat) (v6 : Int32) (v100 : Int32) (v101 : Int32) (m : hM) : hR :=
  lt (v101 + v100) fun x10 =>
  JX0_rightBehindB_82 JR K36 K88 w1 v2 v3 w4 x10 v6 m
set_option maxRecDepth 20000 in
theorem BX0_rightBehindB_79 (JR : Nat → Int32 → Int32 → Int32 → hM → hR) (q : Nat) (hJR : ∀ (n1 : Nat) (a2 a3 a4 : Int32) (m : hM), Cn mX0_rightIfHeard (4 + q) [.inr (.inr (34, 0)), .inr (.inr (4, n1)), .inl a2, .inl a3, .inl a4] m (JR n1 a2 a3 a4 m)) (w1 : Nat) (v2 : Int32) (v3 : Int32) (w4 : Nat) (K36 : Int32 → Int32 → hM → hR) (K88 : Int32 → hM → hR) (h36 : ∀ (v5 : Int32) (v6 : Int32) (m : hM), G mX0_rightBehind (4 + (q + 1)) 36 [(0, .inr (.inr (34, 0))), (1, .inr (.inr (4, w1))), (2, .inl v2), (3, .inl v3), (4, .inr (.inr (12, w4))), (5, .inl v5), (6, .inl v6)] [] m (K36 v5 v6 m)) (h88 : ∀ (v5 : Int32) (m : hM), G mX0_rightBehind (4 + (q + 1)) 88 [(5, .inl v5)] [] m (K88 v5 m)) (v6 : Int32) (v100 : Int32) (v101 : Int32) (m : hM) : G mX0_rightBehind (4 + (q + 1)) 79 [(0, .inr (.inr (34, 0))), (1, .inr (.inr (4, w1))), (2, .inl v2), (3, .inl v3), (4, .inr (.inr (12, w4))), (6, .inl v6)] [.inl v100, .inl v101] m (JX0_rightBehindB_79 JR K36 K88 w1 v2 v3 w4 v6 v100 v101 m) := by
  unfold JX0_rightBehindB_79
  refine g_iadd (kdX0_rightBehind 44 rfl) ?_
  refine g_lt (fun x10 => ?_)
  refine g_istore (L2 := [(5, .inl x10), (0, .inr (.inr (34, 0))), (1, .inr (.inr (4, w1))), (2, .inl v2), (3, .inl v3), (4, .inr (.inr (12, w4))), (6, .inl v6)]) (kdX0_rightBehind 45 rfl) rfl (by decide) ?_
  exact g_fgt [1, 2, 3, 4, 5, 0, 6] rfl (BX0_rightBehindB_82 JR q hJR w1 v2 v3 w4 _ _ h36 h88 x10 v6 m)
def bJX0_rightBehindB_36 (JR : Nat → Int32 → Int32 → Int32 → hM → hR) (K36 : Int32 → Int32 → hM → hR) (K88 : Int32 → hM → hR) (w1 : Nat) (v2 : Int32) (v3 : Int32) (w4 : Nat) (v5 : Int32) (v6 : Int32) (m : hM) : hR :=
  if (m.1 12 w4 12) < v6 then (K88 v5 m) else (calI (JX8_wouldErr w4 w1 v6 m) fun x7 m6 =>
  if x7 = 0 then (if (v2 + 1) < v3 then (calI (JR w1 v2 v3 v6 m6) fun x9 m8 =>
  JX0_rightBehindB_79 JR K36 K88 w1 v2 v3 w4 v6 x9 v5 m8) else (JX0_rightBehindB_79 JR K36 K88 w1 v2 v3 w4 v6 1 v5 m6)) else (JX0_rightBehindB_82 JR K36 K88 w1 v2 v3 w4 v5 v6 m6))
set_option maxRecDepth 20000 in
theorem BbJX0_rightBehindB_36 (JR : Nat → Int32 → Int32 → Int32 → hM → hR) (q : Nat) (hJR : ∀ (n1 : Nat) (a2 a3 a4 : Int32) (m : hM), Cn mX0_rightIfHeard (4 + q) [.inr (.inr (34, 0)), .inr (.inr (4, n1)), .inl a2, .inl a3, .inl a4] m (JR n1 a2 a3 a4 m)) (K36 : Int32 → Int32 → hM → hR) (K88 : Int32 → hM → hR) (w1 : Nat) (v2 : Int32) (v3 : Int32) (w4 : Nat) (h36 : ∀ (v5 : Int32) (v6 : Int32) (m : hM), G mX0_rightBehind (4 + (q + 1)) 36 [(0, .inr (.inr (34, 0))), (1, .inr (.inr (4, w1))), (2, .inl v2), (3, .inl v3), (4, .inr (.inr (12, w4))), (5, .inl v5), (6, .inl v6)] [] m (K36 v5 v6 m)) (h88 : ∀ (v5 : Int32) (m : hM), G mX0_rightBehind (4 + (q + 1)) 88 [(5, .inl v5)] [] m (K88 v5 m)) (v5 : Int32) (v6 : Int32) (m : hM) : G mX0_rightBehind (4 + (q + 1)) 36 [(0, .inr (.inr (34, 0))), (1, .inr (.inr (4, w1))), (2, .inl v2), (3, .inl v3), (4, .inr (.inr (12, w4))), (5, .inl v5), (6, .inl v6)] [] m (bJX0_rightBehindB_36 JR K36 K88 w1 v2 v3 w4 v5 v6 m) := by
  unfold bJX0_rightBehindB_36
  refine g_iload 6 (kdX0_rightBehind 21 rfl) rfl ?_
  refine g_aload 4 (kdX0_rightBehind 22 rfl) rfl ?_
  refine g_get (v := .inl (m.1 12 w4 12)) (kdX0_rightBehind 23 rfl) fX0_85 rfl ?_
  refine g_icmp_gt (tgt := 88) (kdX0_rightBehind 24 rfl) (by decide) (fun _ => ?_) (fun _ => ?_)
  · exact g_fgt [5] rfl (h88 v5 m)
  · refine g_aload 4 (kdX0_rightBehind 25 rfl) rfl ?_
    refine g_aload_n 1 (kdX0_rightBehind 26 rfl) rfl ?_
    refine g_iload 6 (kdX0_rightBehind 27 rfl) rfl ?_
    refine g_calI (ck_V (As := [.inr (.inr (4, w1)), .inl v6]) (S := []) (t := 12) (o := w4) (kdX0_rightBehind 28 rfl) iX8_wouldErr lX0_88 rc_12 rfl rfl rfl (by omega) (by simp only [List.map, vcat, List.sum_cons, List.sum_nil]; decide)) (CX8_wouldErr w4 w1 v6 m) (fun x7 m6 => ?_)
    refine g_if_ne (tgt := 82) (kdX0_rightBehind 29 rfl) (by decide) (fun _ => ?_) (fun _ => ?_)
    · exact g_fgt [0, 1, 2, 3, 4, 5, 6] rfl (BX0_rightBehindB_82 JR q hJR w1 v2 v3 w4 _ _ h36 h88 v5 v6 m6)
    · refine g_iload 5 (kdX0_rightBehind 30 rfl) rfl ?_
      refine g_iload_n 2 (kdX0_rightBehind 31 rfl) rfl ?_
      refine g_iconst (v := 1) (kdX0_rightBehind 32 rfl) (by decide) ?_
      refine g_iadd (kdX0_rightBehind 33 rfl) ?_
      refine g_iload_n 3 (kdX0_rightBehind 34 rfl) rfl ?_
      refine g_icmp_lt (tgt := 70) (kdX0_rightBehind 35 rfl) (by decide) (fun _ => ?_) (fun _ => ?_)
      · refine g_aload_n 0 (kdX0_rightBehind 38 rfl) rfl ?_
        refine g_aload_n 1 (kdX0_rightBehind 39 rfl) rfl ?_
        refine g_iload_n 2 (kdX0_rightBehind 40 rfl) rfl ?_
        refine g_iload_n 3 (kdX0_rightBehind 41 rfl) rfl ?_
        refine g_iload 6 (kdX0_rightBehind 42 rfl) rfl ?_
        refine g_calI (ck_V (As := [.inr (.inr (4, w1)), .inl v2, .inl v3, .inl v6]) (S := [.inl v5]) (t := 34) (o := 0) (kdX0_rightBehind 43 rfl) iX0_rightIfHeard lX0_92 rc_34 rfl rfl rfl (by omega) (by simp only [List.map, vcat, List.sum_cons, List.sum_nil]; decide)) (hJR w1 v2 v3 v6 m6) (fun x9 m8 => ?_)
        exact g_fgt [0, 1, 2, 3, 4, 6] rfl (BX0_rightBehindB_79 JR q hJR w1 v2 v3 w4 _ _ h36 h88 v6 x9 v5 m8)
      · refine g_iconst (v := 1) (kdX0_rightBehind 36 rfl) (by decide) ?_
        refine g_goto (tgt := 79) (kdX0_rightBehind 37 rfl) (by decide) ?_
        exact g_fgt [0, 1, 2, 3, 4, 6] rfl (BX0_rightBehindB_79 JR q hJR w1 v2 v3 w4 _ _ h36 h88 v6 1 v5 m6)
def JX0_rightBehindB_36 (JR : Nat → Int32 → Int32 → Int32 → hM → hR) (K88 : Int32 → hM → hR) (w1 : Nat) (v2 : Int32) (v3 : Int32) (w4 : Nat) : Nat → Int32 → Int32 → hM → hR
  | 0, _, _, _ => none
  | f + 1, v5, v6, m => bJX0_rightBehindB_36 JR (fun v5 v6 m => JX0_rightBehindB_36 JR K88 w1 v2 v3 w4 f v5 v6 m) K88 w1 v2 v3 w4 v5 v6 m
theorem BJX0_rightBehindB_36 (JR : Nat → Int32 → Int32 → Int32 → hM → hR) (q : Nat) (hJR : ∀ (n1 : Nat) (a2 a3 a4 : Int32) (m : hM), Cn mX0_rightIfHeard (4 + q) [.inr (.inr (34, 0)), .inr (.inr (4, n1)), .inl a2, .inl a3, .inl a4] m (JR n1 a2 a3 a4 m)) (K88 : Int32 → hM → hR) (w1 : Nat) (v2 : Int32) (v3 : Int32) (w4 : Nat) (h88 : ∀ (v5 : Int32) (m : hM), G mX0_rightBehind (4 + (q + 1)) 88 [(5, .inl v5)] [] m (K88 v5 m)) : ∀ (f : Nat) (v5 : Int32) (v6 : Int32) (m : hM), G mX0_rightBehind (4 + (q + 1)) 36 [(0, .inr (.inr (34, 0))), (1, .inr (.inr (4, w1))), (2, .inl v2), (3, .inl v3), (4, .inr (.inr (12, w4))), (5, .inl v5), (6, .inl v6)] [] m (JX0_rightBehindB_36 JR K88 w1 v2 v3 w4 f v5 v6 m)
  | 0, _, _, _ => g_none
  | f + 1, v5, v6, m => BbJX0_rightBehindB_36 JR q hJR _ K88 w1 v2 v3 w4 (fun v5 v6 m => BJX0_rightBehindB_36 JR q hJR K88 w1 v2 v3 w4 h88 f v5 v6 m) h88 v5 v6 m
def JX0_rightBehindB (JR : Nat → Int32 → Int32 → Int32 → hM → hR) (n1 : Nat) (a2 : Int32) (a3 : Int32) (m : hM) : hR :=
  calI (JX11_within a2 0 3 m) fun x2 m1 =>
  if x2 = 0 then (some (some (.inl 0), m1)) else (aal 35 a2 fun j3 =>
  calV (JX8_sendBit (42 + j3) n1 m1) fun m4 =>
  lt (-(m4.1 12 (42 + j3) 12)) fun x5 =>
  JX0_rightBehindB_36 JR (fun v5 m11 => some (some (.inl v5), m11)) n1 a2 a3 (42 + j3) FU 0 x5 m4)
set_option maxRecDepth 20000 in
theorem CX0_rightBehindB (JR : Nat → Int32 → Int32 → Int32 → hM → hR) (q : Nat) (hJR : ∀ (n1 : Nat) (a2 a3 a4 : Int32) (m : hM), Cn mX0_rightIfHeard (4 + q) [.inr (.inr (34, 0)), .inr (.inr (4, n1)), .inl a2, .inl a3, .inl a4] m (JR n1 a2 a3 a4 m)) (n1 : Nat) (a2 : Int32) (a3 : Int32) (m : hM) : Cn mX0_rightBehind (4 + (q + 1)) [.inr (.inr (34, 0)), .inr (.inr (4, n1)), .inl a2, .inl a3] m (JX0_rightBehindB JR n1 a2 a3 m) := by
  refine cn_of (by decide +kernel) (by simp only [List.map, vcat, List.sum_cons, List.sum_nil]; decide) ?_
  unfold JX0_rightBehindB
  show G mX0_rightBehind (4 + (q + 1)) 0 [(0, .inr (.inr (34, 0))), (1, .inr (.inr (4, n1))), (2, .inl a2), (3, .inl a3)] [] m _
  refine g_iload_n 2 (kdX0_rightBehind 0 rfl) rfl ?_
  refine g_iconst (v := 0) (kdX0_rightBehind 1 rfl) (by decide) ?_
  refine g_iconst (v := 3) (kdX0_rightBehind 2 rfl) (by decide) ?_
  refine g_calI (ck_S (As := [.inl a2, .inl 0, .inl 3]) (S := []) (kdX0_rightBehind 3 rfl) iX11_within lX0_61 rfl rfl rfl (by omega) (by simp only [List.map, vcat, List.sum_cons, List.sum_nil]; decide)) (CX11_within a2 0 3 m) (fun x2 m1 => ?_)
  refine g_if_ne (tgt := 11) (kdX0_rightBehind 4 rfl) (by decide) (fun _ => ?_) (fun _ => ?_)
  · refine g_aload_n 0 (kdX0_rightBehind 7 rfl) rfl ?_
    refine g_get (v := .inr (.inr (35, 0))) (kdX0_rightBehind 8 rfl) fX0_13 rfl ?_
    refine g_iload_n 2 (kdX0_rightBehind 9 rfl) rfl ?_
    refine g_aald (fun j3 => (12, 42 + j3)) (fun _ => rfl) (kdX0_rightBehind 10 rfl) (fun j3 => ?_)
    refine g_astore (L2 := [(4, .inr (.inr (12, 42 + j3))), (0, .inr (.inr (34, 0))), (1, .inr (.inr (4, n1))), (2, .inl a2), (3, .inl a3)]) (kdX0_rightBehind 11 rfl) rfl (by decide) ?_
    refine g_aload 0 (kdX0_rightBehind 12 rfl) rfl ?_
    refine g_aload_n 2 (kdX0_rightBehind 13 rfl) rfl ?_
    refine g_calV (ck_V (As := [.inr (.inr (4, n1))]) (S := []) (t := 12) (o := 42 + j3) (kdX0_rightBehind 14 rfl) iX8_sendBit lX0_82 rc_12 rfl rfl rfl (by omega) (by simp only [List.map, vcat, List.sum_cons, List.sum_nil]; decide)) (CX8_sendBit (42 + j3) n1 m1) (fun m4 => ?_)
    refine g_iconst (v := 0) (kdX0_rightBehind 15 rfl) (by decide) ?_
    refine g_istore (L2 := [(5, .inl 0), (4, .inr (.inr (12, 42 + j3))), (0, .inr (.inr (34, 0))), (1, .inr (.inr (4, n1))), (2, .inl a2), (3, .inl a3)]) (kdX0_rightBehind 16 rfl) rfl (by decide) ?_
    refine g_aload 1 (kdX0_rightBehind 17 rfl) rfl ?_
    refine g_get (v := .inl (m4.1 12 (42 + j3) 12)) (kdX0_rightBehind 18 rfl) fX0_85 rfl ?_
    refine g_ineg (kdX0_rightBehind 19 rfl) ?_
    refine g_lt (fun x5 => ?_)
    refine g_istore (L2 := [(6, .inl x5), (5, .inl 0), (4, .inr (.inr (12, 42 + j3))), (0, .inr (.inr (34, 0))), (1, .inr (.inr (4, n1))), (2, .inl a2), (3, .inl a3)]) (kdX0_rightBehind 20 rfl) rfl (by decide) ?_
    refine g_fgt [3, 4, 5, 6, 2, 1, 0] rfl (BJX0_rightBehindB_36 JR q hJR _ n1 a2 a3 (42 + j3) ?_ FU 0 x5 m4)
    · intro v5 m11
      refine g_iload 0 (kdX0_rightBehind 48 rfl) rfl ?_
      exact g_iret rfl (kdX0_rightBehind 49 rfl)
  · refine g_iconst (v := 0) (kdX0_rightBehind 5 rfl) (by decide) ?_
    exact g_iret rfl (kdX0_rightBehind 6 rfl)
def JX0_rightBehind : Nat → Nat → Int32 → Int32 → hM → hR
  | 0, _, _, _, _ => none
  | q + 1, n1, a2, a3, m => JX0_rightBehindB (JX0_rightIfHeardB (JX0_rightBehind q)) n1 a2 a3 m
theorem CX0_rightBehind : ∀ (q n1 : Nat) (a2 a3 : Int32) (m : hM), Cn mX0_rightBehind (4 + (2 * q)) [.inr (.inr (34, 0)), .inr (.inr (4, n1)), .inl a2, .inl a3] m (JX0_rightBehind q n1 a2 a3 m)
  | 0, _, _, _, _ => fun r m2 h => by cases h
  | q + 1, n1, a2, a3, m => CX0_rightBehindB (JX0_rightIfHeardB (JX0_rightBehind q)) (2 * q + 1) (CX0_rightIfHeardB (JX0_rightBehind q) (2 * q) (CX0_rightBehind q)) n1 a2 a3 m
def JX0_rightBehind8 (n1 : Nat) (a2 a3 : Int32) (m : hM) : hR := JX0_rightBehind 8 n1 a2 a3 m
theorem CX0_rightBehind8 (n1 : Nat) (a2 a3 : Int32) (m : hM) : Cn mX0_rightBehind 20 [.inr (.inr (34, 0)), .inr (.inr (4, n1)), .inl a2, .inl a3] m (JX0_rightBehind8 n1 a2 a3 m) := CX0_rightBehind 8 n1 a2 a3 m
def JX0_rightRows (n1 : Nat) (n2 : Nat) (a3 : Int32) (m : hM) : hR :=
  calA 12 (JX0_copyOf n2 m) fun x2 m1 =>
  calI (JX0_rightBehind8 n1 0 a3 m1) fun x4 m3 =>
  some (some (.inl x4), m3)
set_option maxRecDepth 20000 in
theorem CX0_rightRows (n1 : Nat) (n2 : Nat) (a3 : Int32) (m : hM) : Cn mX0_rightRows 21 [.inr (.inr (34, 0)), .inr (.inr (4, n1)), .inr (.inr (12, n2)), .inl a3] m (JX0_rightRows n1 n2 a3 m) := by
  refine cn_of (by decide +kernel) (by simp only [List.map, vcat, List.sum_cons, List.sum_nil]; decide) ?_
  unfold JX0_rightRows
  show G mX0_rightRows 21 0 [(0, .inr (.inr (34, 0))), (1, .inr (.inr (4, n1))), (2, .inr (.inr (12, n2))), (3, .inl a3)] [] m _
  refine g_aload_n 0 (kdX0_rightRows 0 rfl) rfl ?_
  refine g_aload_n 2 (kdX0_rightRows 1 rfl) rfl ?_
  refine g_calA (ck_V (As := [.inr (.inr (12, n2))]) (S := []) (t := 34) (o := 0) (kdX0_rightRows 2 rfl) iX0_copyOf lX0_26 rc_34 rfl rfl rfl (by decide) (by simp only [List.map, vcat, List.sum_cons, List.sum_nil]; decide)) (CX0_copyOf n2 m) (fun x2 m1 => ?_)
  refine g_pop (kdX0_rightRows 3 rfl) rfl ?_
  refine g_aload_n 0 (kdX0_rightRows 4 rfl) rfl ?_
  refine g_aload_n 1 (kdX0_rightRows 5 rfl) rfl ?_
  refine g_iconst (v := 0) (kdX0_rightRows 6 rfl) (by decide) ?_
  refine g_iload_n 3 (kdX0_rightRows 7 rfl) rfl ?_
  refine g_calI (ck_V (As := [.inr (.inr (4, n1)), .inl 0, .inl a3]) (S := []) (t := 34) (o := 0) (kdX0_rightRows 8 rfl) iX0_rightBehind lX0_78 rc_34 rfl rfl rfl (by decide) (by simp only [List.map, vcat, List.sum_cons, List.sum_nil]; decide)) (CX0_rightBehind8 n1 0 a3 m1) (fun x4 m3 => ?_)
  exact g_iret rfl (kdX0_rightRows 9 rfl)
def JX12_clearFromB_60 (JR : Int32 → Int32 → hM → hR) (K27 : Int32 → Int32 → hM → hR) (K76 : Int32 → hM → hR) (v1 : Int32) (v2 : Int32) (v3 : Int32) (v4 : Int32) (v5 : Int32) (m : hM) : hR :=
  calV (JX12_bringBack v1 m) fun m6 =>
  stZ m6 40 0 24 1 fun m7 =>
  K27 v3 (v5 + 1) m7
set_option maxRecDepth 20000 in
theorem BX12_clearFromB_60 (JR : Int32 → Int32 → hM → hR) (q : Nat) (hJR : ∀ (a1 a2 : Int32) (m : hM), Cn mX12_clearFrom (4 + q) [.inr (.inr (40, 0)), .inl a1, .inl a2] m (JR a1 a2 m)) (v1 : Int32) (v2 : Int32) (v4 : Int32) (K27 : Int32 → Int32 → hM → hR) (K76 : Int32 → hM → hR) (h27 : ∀ (v3 : Int32) (v5 : Int32) (m : hM), G mX12_clearFrom (4 + (q + 1)) 27 [(0, .inr (.inr (40, 0))), (1, .inl v1), (2, .inl v2), (3, .inl v3), (4, .inl v4), (5, .inl v5)] [] m (K27 v3 v5 m)) (h76 : ∀ (v3 : Int32) (m : hM), G mX12_clearFrom (4 + (q + 1)) 76 [(3, .inl v3)] [] m (K76 v3 m)) (v3 : Int32) (v5 : Int32) (m : hM) : G mX12_clearFrom (4 + (q + 1)) 60 [(0, .inr (.inr (40, 0))), (1, .inl v1), (2, .inl v2), (3, .inl v3), (4, .inl v4), (5, .inl v5)] [] m (JX12_clearFromB_60 JR K27 K76 v1 v2 v3 v4 v5 m) := by
  unfold JX12_clearFromB_60
  refine g_aload_n 0 (kdX12_clearFrom 37 rfl) rfl ?_
  refine g_iload_n 1 (kdX12_clearFrom 38 rfl) rfl ?_
  refine g_calV (ck_V (As := [.inl v1]) (S := []) (t := 40) (o := 0) (kdX12_clearFrom 39 rfl) iX12_bringBack lX12_362 rc_40 rfl rfl rfl (by omega) (by simp only [List.map, vcat, List.sum_cons, List.sum_nil]; decide)) (CX12_bringBack v1 m) (fun m6 => ?_)
  refine g_aload_n 0 (kdX12_clearFrom 40 rfl) rfl ?_
  refine g_iconst (v := 1) (kdX12_clearFrom 41 rfl) (by decide) ?_
  refine g_putZ (kdX12_clearFrom 42 rfl) fX12_256 rfl (fun m7 => ?_)
  refine g_iinc (v := v5 + 1) (L2 := [(5, .inl (v5 + 1)), (0, .inr (.inr (40, 0))), (1, .inl v1), (2, .inl v2), (3, .inl v3), (4, .inl v4)]) 5 (kdX12_clearFrom 43 rfl) rfl rfl rfl (by decide) ?_
  refine g_goto (tgt := 27) (kdX12_clearFrom 44 rfl) (by decide) ?_
  exact g_fgt [1, 2, 3, 4, 5, 0] rfl (h27 v3 (v5 + 1) m7)
def bJX12_clearFromB_27 (JR : Int32 → Int32 → hM → hR) (K27 : Int32 → Int32 → hM → hR) (K76 : Int32 → hM → hR) (v1 : Int32) (v2 : Int32) (v4 : Int32) (v3 : Int32) (v5 : Int32) (m : hM) : hR :=
  if v4 < v5 then (K76 v3 m) else (stI m 40 0 23 v5 fun m3 =>
  calI (JX12_symbol m3) fun x5 m4 =>
  if x5 = 0 then (calI (JR (v1 + 1) (v2 - 1) m4) fun x9 m8 =>
  lt (v3 + x9) fun x10 =>
  JX12_clearFromB_60 JR K27 K76 v1 v2 x10 v4 v5 m8) else (JX12_clearFromB_60 JR K27 K76 v1 v2 v3 v4 v5 m4))
set_option maxRecDepth 20000 in
theorem BbJX12_clearFromB_27 (JR : Int32 → Int32 → hM → hR) (q : Nat) (hJR : ∀ (a1 a2 : Int32) (m : hM), Cn mX12_clearFrom (4 + q) [.inr (.inr (40, 0)), .inl a1, .inl a2] m (JR a1 a2 m)) (K27 : Int32 → Int32 → hM → hR) (K76 : Int32 → hM → hR) (v1 : Int32) (v2 : Int32) (v4 : Int32) (h27 : ∀ (v3 : Int32) (v5 : Int32) (m : hM), G mX12_clearFrom (4 + (q + 1)) 27 [(0, .inr (.inr (40, 0))), (1, .inl v1), (2, .inl v2), (3, .inl v3), (4, .inl v4), (5, .inl v5)] [] m (K27 v3 v5 m)) (h76 : ∀ (v3 : Int32) (m : hM), G mX12_clearFrom (4 + (q + 1)) 76 [(3, .inl v3)] [] m (K76 v3 m)) (v3 : Int32) (v5 : Int32) (m : hM) : G mX12_clearFrom (4 + (q + 1)) 27 [(0, .inr (.inr (40, 0))), (1, .inl v1), (2, .inl v2), (3, .inl v3), (4, .inl v4), (5, .inl v5)] [] m (bJX12_clearFromB_27 JR K27 K76 v1 v2 v4 v3 v5 m) := by
  unfold bJX12_clearFromB_27
  refine g_iload 5 (kdX12_clearFrom 17 rfl) rfl ?_
  refine g_iload 4 (kdX12_clearFrom 18 rfl) rfl ?_
  refine g_icmp_gt (tgt := 76) (kdX12_clearFrom 19 rfl) (by decide) (fun _ => ?_) (fun _ => ?_)
  · exact g_fgt [3] rfl (h76 v3 m)
  · refine g_aload_n 0 (kdX12_clearFrom 20 rfl) rfl ?_
    refine g_iload 5 (kdX12_clearFrom 21 rfl) rfl ?_
    refine g_putI (kdX12_clearFrom 22 rfl) fX12_51 rfl (fun m3 => ?_)
    refine g_aload_n 0 (kdX12_clearFrom 23 rfl) rfl ?_
    refine g_calI (ck_V (As := []) (S := []) (t := 40) (o := 0) (kdX12_clearFrom 24 rfl) iX12_symbol lX12_287 rc_40 rfl rfl rfl (by omega) (by simp only [List.map, vcat, List.sum_cons, List.sum_nil]; decide)) (CX12_symbol m3) (fun x5 m4 => ?_)
    refine g_if_ne (tgt := 60) (kdX12_clearFrom 25 rfl) (by decide) (fun _ => ?_) (fun _ => ?_)
    · exact g_fgt [0, 1, 2, 3, 4, 5] rfl (BX12_clearFromB_60 JR q hJR v1 v2 v4 _ _ h27 h76 v3 v5 m4)
    · refine g_iload_n 3 (kdX12_clearFrom 26 rfl) rfl ?_
      refine g_aload_n 0 (kdX12_clearFrom 27 rfl) rfl ?_
      refine g_iload_n 1 (kdX12_clearFrom 28 rfl) rfl ?_
      refine g_iconst (v := 1) (kdX12_clearFrom 29 rfl) (by decide) ?_
      refine g_iadd (kdX12_clearFrom 30 rfl) ?_
      refine g_iload_n 2 (kdX12_clearFrom 31 rfl) rfl ?_
      refine g_iconst (v := 1) (kdX12_clearFrom 32 rfl) (by decide) ?_
      refine g_isub (kdX12_clearFrom 33 rfl) ?_
      refine g_calI (ck_V (As := [.inl (v1 + 1), .inl (v2 - 1)]) (S := [.inl v3]) (t := 40) (o := 0) (kdX12_clearFrom 34 rfl) iX12_clearFrom lX12_398 rc_40 rfl rfl rfl (by omega) (by simp only [List.map, vcat, List.sum_cons, List.sum_nil]; decide)) (hJR (v1 + 1) (v2 - 1) m4) (fun x9 m8 => ?_)
      refine g_iadd (kdX12_clearFrom 35 rfl) ?_
      refine g_lt (fun x10 => ?_)
      refine g_istore_n (L2 := [(3, .inl x10), (0, .inr (.inr (40, 0))), (1, .inl v1), (2, .inl v2), (4, .inl v4), (5, .inl v5)]) (kdX12_clearFrom 36 rfl) rfl (by decide) ?_
      exact g_fgt [1, 2, 3, 0, 4, 5] rfl (BX12_clearFromB_60 JR q hJR v1 v2 v4 _ _ h27 h76 x10 v5 m8)
def JX12_clearFromB_27 (JR : Int32 → Int32 → hM → hR) (K76 : Int32 → hM → hR) (v1 : Int32) (v2 : Int32) (v4 : Int32) : Nat → Int32 → Int32 → hM → hR
  | 0, _, _, _ => none
  | f + 1, v3, v5, m => bJX12_clearFromB_27 JR (fun v3 v5 m => JX12_clearFromB_27 JR K76 v1 v2 v4 f v3 v5 m) K76 v1 v2 v4 v3 v5 m
theorem BJX12_clearFromB_27 (JR : Int32 → Int32 → hM → hR) (q : Nat) (hJR : ∀ (a1 a2 : Int32) (m : hM), Cn mX12_clearFrom (4 + q) [.inr (.inr (40, 0)), .inl a1, .inl a2] m (JR a1 a2 m)) (K76 : Int32 → hM → hR) (v1 : Int32) (v2 : Int32) (v4 : Int32) (h76 : ∀ (v3 : Int32) (m : hM), G mX12_clearFrom (4 + (q + 1)) 76 [(3, .inl v3)] [] m (K76 v3 m)) : ∀ (f : Nat) (v3 : Int32) (v5 : Int32) (m : hM), G mX12_clearFrom (4 + (q + 1)) 27 [(0, .inr (.inr (40, 0))), (1, .inl v1), (2, .inl v2), (3, .inl v3), (4, .inl v4), (5, .inl v5)] [] m (JX12_clearFromB_27 JR K76 v1 v2 v4 f v3 v5 m)
  | 0, _, _, _ => g_none
  | f + 1, v3, v5, m => BbJX12_clearFromB_27 JR q hJR _ K76 v1 v2 v4 (fun v3 v5 m => BJX12_clearFromB_27 JR q hJR K76 v1 v2 v4 h76 f v3 v5 m) h76 v3 v5 m
def JX12_clearFromB (JR : Int32 → Int32 → hM → hR) (a1 : Int32) (a2 : Int32) (m : hM) : hR :=
  if a2 = 0 then (some (some (.inl 1), m)) else (calV (JX12_putAside a1 m) fun m1 =>
  ald m1 50 0 20 fun x2 =>
  JX12_clearFromB_27 JR (fun v3 m11 => some (some (.inl v3), m11)) a1 a2 x2 FU 0 (-x2) m1)
set_option maxRecDepth 20000 in
theorem CX12_clearFromB (JR : Int32 → Int32 → hM → hR) (q : Nat) (hJR : ∀ (a1 a2 : Int32) (m : hM), Cn mX12_clearFrom (4 + q) [.inr (.inr (40, 0)), .inl a1, .inl a2] m (JR a1 a2 m)) (a1 : Int32) (a2 : Int32) (m : hM) : Cn mX12_clearFrom (4 + (q + 1)) [.inr (.inr (40, 0)), .inl a1, .inl a2] m (JX12_clearFromB JR a1 a2 m) := by
  refine cn_of (by decide +kernel) (by simp only [List.map, vcat, List.sum_cons, List.sum_nil]; decide) ?_
  unfold JX12_clearFromB
  show G mX12_clearFrom (4 + (q + 1)) 0 [(0, .inr (.inr (40, 0))), (1, .inl a1), (2, .inl a2)] [] m _
  refine g_iload_n 2 (kdX12_clearFrom 0 rfl) rfl ?_
  refine g_if_ne (tgt := 6) (kdX12_clearFrom 1 rfl) (by decide) (fun _ => ?_) (fun _ => ?_)
  · refine g_iconst (v := 0) (kdX12_clearFrom 4 rfl) (by decide) ?_
    refine g_istore_n (L2 := [(3, .inl 0), (0, .inr (.inr (40, 0))), (1, .inl a1), (2, .inl a2)]) (kdX12_clearFrom 5 rfl) rfl (by decide) ?_
    refine g_aload_n 1 (kdX12_clearFrom 6 rfl) rfl ?_
    refine g_iload_n 2 (kdX12_clearFrom 7 rfl) rfl ?_
    refine g_calV (ck_V (As := [.inl a1]) (S := []) (t := 40) (o := 0) (kdX12_clearFrom 8 rfl) iX12_putAside lX12_355 rc_40 rfl rfl rfl (by omega) (by simp only [List.map, vcat, List.sum_cons, List.sum_nil]; decide)) (CX12_putAside a1 m) (fun m1 => ?_)
    refine g_aload_n 1 (kdX12_clearFrom 9 rfl) rfl ?_
    refine g_get (v := .inr (.inr (50, 0))) (kdX12_clearFrom 10 rfl) fX12_37 rfl ?_
    refine g_bipush (v := 20) (kdX12_clearFrom 11 rfl) (by decide) ?_
    refine g_iald (kdX12_clearFrom 12 rfl) (fun x2 => ?_)
    refine g_istore (L2 := [(4, .inl x2), (3, .inl 0), (0, .inr (.inr (40, 0))), (1, .inl a1), (2, .inl a2)]) (kdX12_clearFrom 13 rfl) rfl (by decide) ?_
    refine g_iload 0 (kdX12_clearFrom 14 rfl) rfl ?_
    refine g_ineg (kdX12_clearFrom 15 rfl) ?_
    refine g_istore (L2 := [(5, .inl (-x2)), (4, .inl x2), (3, .inl 0), (0, .inr (.inr (40, 0))), (1, .inl a1), (2, .inl a2)]) (kdX12_clearFrom 16 rfl) rfl (by decide) ?_
    refine g_fgt [3, 4, 5, 2, 1, 0] rfl (BJX12_clearFromB_27 JR q hJR _ a1 a2 x2 ?_ FU 0 (-x2) m1)
    · intro v3 m11
      refine g_iload_n 0 (kdX12_clearFrom 45 rfl) rfl ?_
      exact g_iret rfl (kdX12_clearFrom 46 rfl)
  · refine g_iconst (v := 1) (kdX12_clearFrom 2 rfl) (by decide) ?_
    exact g_iret rfl (kdX12_clearFrom 3 rfl)
def JX12_clearFrom : Nat → Int32 → Int32 → hM → hR
  | 0, _, _, _ => none
  | q + 1, a1, a2, m => JX12_clearFromB (JX12_clearFrom q) a1 a2 m
theorem CX12_clearFrom : ∀ (q : Nat) (a1 a2 : Int32) (m : hM), Cn mX12_clearFrom (4 + q) [.inr (.inr (40, 0)), .inl a1, .inl a2] m (JX12_clearFrom q a1 a2 m)
  | 0, _, _, _ => fun r m2 h => by cases h
  | q + 1, a1, a2, m => CX12_clearFromB (JX12_clearFrom q) q (CX12_clearFrom q) a1 a2 m
def JX12_clearFrom8 (a1 a2 : Int32) (m : hM) : hR := JX12_clearFrom 8 a1 a2 m
theorem CX12_clearFrom8 (a1 a2 : Int32) (m : hM) : Cn mX12_clearFrom 12 [.inr (.inr (40, 0)), .inl a1, .inl a2] m (JX12_clearFrom8 a1 a2 m) := CX12_clearFrom 8 a1 a2 m
def JX12_odds (a1 : Int32) (m : hM) : hR :=
  if (m.1 40 0 15) = 0 then (some (some (.inl (-1)), m)) else (calI (JX12_in a1 1 4 m) fun x2 m1 =>
  if x2 = 0 then (some (some (.inl (-1)), m1)) else (calI (JX12_clearFrom8 0 a1 m1) fun x4 m3 =>
  stI m3 40 0 23 (-1000000000) fun m5 =>
  stZ m5 40 0 24 0 fun m6 =>
  some (some (.inl x4), m6)))
set_option maxRecDepth 20000 in
theorem CX12_odds (a1 : Int32) (m : hM) : Cn mX12_odds 13 [.inr (.inr (40, 0)), .inl a1] m (JX12_odds a1 m) := by
  refine cn_of (by decide +kernel) (by simp only [List.map, vcat, List.sum_cons, List.sum_nil]; decide) ?_
  unfold JX12_odds
  show G mX12_odds 13 0 [(0, .inr (.inr (40, 0))), (1, .inl a1)] [] m _
  refine g_aload_n 0 (kdX12_odds 0 rfl) rfl ?_
  refine g_get (v := .inl (m.1 40 0 15)) (kdX12_odds 1 rfl) fX12_203 rfl ?_
  refine g_if_eq (tgt := 16) (kdX12_odds 2 rfl) (by decide) (fun _ => ?_) (fun _ => ?_)
  · refine g_iconst (v := (-1)) (kdX12_odds 8 rfl) (by decide) ?_
    exact g_iret rfl (kdX12_odds 9 rfl)
  · refine g_iload_n 1 (kdX12_odds 3 rfl) rfl ?_
    refine g_iconst (v := 1) (kdX12_odds 4 rfl) (by decide) ?_
    refine g_iconst (v := 4) (kdX12_odds 5 rfl) (by decide) ?_
    refine g_calI (ck_S (As := [.inl a1, .inl 1, .inl 4]) (S := []) (kdX12_odds 6 rfl) iX12_in lX12_89 rfl rfl rfl (by decide) (by simp only [List.map, vcat, List.sum_cons, List.sum_nil]; decide)) (CX12_in a1 1 4 m) (fun x2 m1 => ?_)
    refine g_if_ne (tgt := 18) (kdX12_odds 7 rfl) (by decide) (fun _ => ?_) (fun _ => ?_)
    · refine g_aload_n 0 (kdX12_odds 10 rfl) rfl ?_
      refine g_iconst (v := 0) (kdX12_odds 11 rfl) (by decide) ?_
      refine g_iload_n 1 (kdX12_odds 12 rfl) rfl ?_
      refine g_calI (ck_V (As := [.inl 0, .inl a1]) (S := []) (t := 40) (o := 0) (kdX12_odds 13 rfl) iX12_clearFrom lX12_398 rc_40 rfl rfl rfl (by decide) (by simp only [List.map, vcat, List.sum_cons, List.sum_nil]; decide)) (CX12_clearFrom8 0 a1 m1) (fun x4 m3 => ?_)
      refine g_istore_n (L2 := [(2, .inl x4), (0, .inr (.inr (40, 0))), (1, .inl a1)]) (kdX12_odds 14 rfl) rfl (by decide) ?_
      refine g_aload_n 1 (kdX12_odds 15 rfl) rfl ?_
      refine g_ldc (kdX12_odds 16 rfl) cX12_50 ?_
      refine g_putI (kdX12_odds 17 rfl) fX12_51 rfl (fun m5 => ?_)
      refine g_aload_n 1 (kdX12_odds 18 rfl) rfl ?_
      refine g_iconst (v := 0) (kdX12_odds 19 rfl) (by decide) ?_
      refine g_putZ (kdX12_odds 20 rfl) fX12_256 rfl (fun m6 => ?_)
      refine g_iload_n 0 (kdX12_odds 21 rfl) rfl ?_
      exact g_iret rfl (kdX12_odds 22 rfl)
    · refine g_iconst (v := (-1)) (kdX12_odds 8 rfl) (by decide) ?_
      exact g_iret rfl (kdX12_odds 9 rfl)
