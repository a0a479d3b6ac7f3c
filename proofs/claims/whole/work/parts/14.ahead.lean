abbrev mX0_copyOf : hMt := (yX0_copyOf, cX0_copyOf, 2, some (.object "HuntedEye$State"))
def tX0_copyOf : hTb := [(0, .aload_n 0, 1, 1), (1, .getfield 13, 3, 4), (4, .iconst 0, 1, 5), (5, .aaload, 1, 6), (6, .aload_n 1, 1, 7), (7, .invokevirtual 22, 3, 10), (10, .aload_n 0, 1, 11), (11, .getfield 13, 3, 14), (14, .iconst 0, 1, 15), (15, .aaload, 1, 16), (16, .areturn, 1, 17)]
theorem ktX0_copyOf : TbOK mX0_copyOf tX0_copyOf := by
  unfold TbOK
  decide +kernel
theorem kdX0_copyOf (k : Nat) {pc : Nat} {i : Instr} {len nx : Nat} (hk : tX0_copyOf[k]? = some (pc, i, len, nx)) : Dc mX0_copyOf pc i len nx := dc_of ktX0_copyOf k hk
theorem iX0_copyOf : MiV mX0_copyOf := ⟨⟨gdw_of (i := 1134) (by decide +kernel) (by decide +kernel), gdw_of (i := 123) (by decide +kernel) (by decide +kernel), by decide, by decide, by decide⟩, gdw_of (i := 1132) (by decide +kernel) (by decide +kernel), gdw_of (i := 1133) (by decide +kernel) (by decide +kernel)⟩
abbrev mX0_wrongIfHeld : hMt := (yX0_wrongIfHeld, cX0_wrongIfHeld, 6, some .int)
def tX0_wrongIfHeld : hTb := [(0, .aload_n 0, 1, 1), (1, .aload_n 2, 1, 2), (2, .invokevirtual 26, 3, 5), (5, .astore 5, 2, 7), (7, .aload 5, 2, 9), (9, .iload 4, 2, 11), (11, .putfield 30, 3, 14), (14, .aload 5, 2, 16), (16, .aload_n 1, 1, 17), (17, .iload_n 3, 1, 18), (18, .invokevirtual 34, 3, 21), (21, .ireturn, 1, 22)]
theorem ktX0_wrongIfHeld : TbOK mX0_wrongIfHeld tX0_wrongIfHeld := by
  unfold TbOK
  decide +kernel
theorem kdX0_wrongIfHeld (k : Nat) {pc : Nat} {i : Instr} {len nx : Nat} (hk : tX0_wrongIfHeld[k]? = some (pc, i, len, nx)) : Dc mX0_wrongIfHeld pc i len nx := dc_of ktX0_wrongIfHeld k hk
theorem iX0_wrongIfHeld : MiV mX0_wrongIfHeld := ⟨⟨gdw_of (i := 1317) (by decide +kernel) (by decide +kernel), gdw_of (i := 123) (by decide +kernel) (by decide +kernel), by decide, by decide, by decide⟩, gdw_of (i := 1315) (by decide +kernel) (by decide +kernel), gdw_of (i := 1316) (by decide +kernel) (by decide +kernel)⟩
abbrev mX0_wrongIfDropped : hMt := (yX0_wrongIfDropped, cX0_wrongIfDropped, 6, some .int)
def tX0_wrongIfDropped : hTb := [(0, .aload_n 0, 1, 1), (1, .aload_n 2, 1, 2), (2, .invokevirtual 26, 3, 5), (5, .astore 4, 2, 7), (7, .aload 4, 2, 9), (9, .aload_n 1, 1, 10), (10, .iload_n 3, 1, 11), (11, .invokevirtual 34, 3, 14), (14, .istore 5, 2, 16), (16, .aload 4, 2, 18), (18, .iconst 1, 1, 19), (19, .putfield 38, 3, 22), (22, .iload 5, 2, 24), (24, .aload 4, 2, 26), (26, .aload_n 1, 1, 27), (27, .bipush 40, 2, 29), (29, .iload_n 3, 1, 30), (30, .isub, 1, 31), (31, .invokevirtual 34, 3, 34), (34, .iadd, 1, 35), (35, .ireturn, 1, 36)]
theorem ktX0_wrongIfDropped : TbOK mX0_wrongIfDropped tX0_wrongIfDropped := by
  unfold TbOK
  decide +kernel
theorem kdX0_wrongIfDropped (k : Nat) {pc : Nat} {i : Instr} {len nx : Nat} (hk : tX0_wrongIfDropped[k]? = some (pc, i, len, nx)) : Dc mX0_wrongIfDropped pc i len nx := dc_of ktX0_wrongIfDropped k hk
theorem iX0_wrongIfDropped : MiV mX0_wrongIfDropped := ⟨⟨gdw_of (i := 1326) (by decide +kernel) (by decide +kernel), gdw_of (i := 123) (by decide +kernel) (by decide +kernel), by decide, by decide, by decide⟩, gdw_of (i := 1324) (by decide +kernel) (by decide +kernel), gdw_of (i := 1325) (by decide +kernel) (by decide +kernel)⟩
abbrev mX0_keepTaps : hMt := (yX0_keepTaps, cX0_keepTaps, 3, none)
def tX0_keepTaps : hTb := [(0, .iload_n 2, 1, 1), (1, .iconst 0, 1, 2), (2, .sipush 232, 3, 5), (5, .invokestatic 61, 3, 8), (8, .ifCond .eq 21, 3, 11), (11, .aload_n 1, 1, 12), (12, .getfield 65, 3, 15), (15, .iconst 0, 1, 16), (16, .aload_n 0, 1, 17), (17, .getfield 17, 3, 20), (20, .iload_n 2, 1, 21), (21, .bipush 6, 2, 23), (23, .imul, 1, 24), (24, .bipush 6, 2, 26), (26, .invokestatic 68, 3, 29), (29, .return_, 1, 30)]
theorem ktX0_keepTaps : TbOK mX0_keepTaps tX0_keepTaps := by
  unfold TbOK
  decide +kernel
theorem kdX0_keepTaps (k : Nat) {pc : Nat} {i : Instr} {len nx : Nat} (hk : tX0_keepTaps[k]? = some (pc, i, len, nx)) : Dc mX0_keepTaps pc i len nx := dc_of ktX0_keepTaps k hk
theorem iX0_keepTaps : MiV mX0_keepTaps := ⟨⟨gdw_of (i := 1288) (by decide +kernel) (by decide +kernel), gdw_of (i := 123) (by decide +kernel) (by decide +kernel), by decide, by decide, by decide⟩, gdw_of (i := 1287) (by decide +kernel) (by decide +kernel), gdw_of (i := 52) (by decide +kernel) (by decide +kernel)⟩
abbrev mX0_staysWithin : hMt := (yX0_staysWithin, cX0_staysWithin, 4, some .boolean)
def tX0_staysWithin : hTb := [(0, .iload_n 1, 1, 1), (1, .iconst 1, 1, 2), (2, .iadd, 1, 3), (3, .bipush 6, 2, 5), (5, .imul, 1, 6), (6, .istore_n 3, 1, 7), (7, .iload_n 3, 1, 8), (8, .iload_n 1, 1, 9), (9, .bipush 32, 2, 11), (11, .iadd, 1, 12), (12, .iconst 1, 1, 13), (13, .iadd, 1, 14), (14, .bipush 6, 2, 16), (16, .imul, 1, 17), (17, .if_icmp .ge 39, 3, 20), (20, .aload_n 0, 1, 21), (21, .getfield 17, 3, 24), (24, .iload_n 3, 1, 25), (25, .iaload, 1, 26), (26, .aload_n 0, 1, 27), (27, .getfield 17, 3, 30), (30, .iload_n 1, 1, 31), (31, .bipush 6, 2, 33), (33, .imul, 1, 34), (34, .iload_n 3, 1, 35), (35, .bipush 6, 2, 37), (37, .irem, 1, 38), (38, .iadd, 1, 39), (39, .iaload, 1, 40), (40, .isub, 1, 41), (41, .invokestatic 74, 3, 44), (44, .iload_n 2, 1, 45), (45, .if_icmp .le 5, 3, 48), (48, .iconst 0, 1, 49), (49, .ireturn, 1, 50), (50, .iinc 3 1, 3, 53), (53, .goto (-46), 3, 56), (56, .iconst 1, 1, 57), (57, .ireturn, 1, 58)]
theorem ktX0_staysWithin : TbOK mX0_staysWithin tX0_staysWithin := by
  unfold TbOK
  decide +kernel
theorem kdX0_staysWithin (k : Nat) {pc : Nat} {i : Instr} {len nx : Nat} (hk : tX0_staysWithin[k]? = some (pc, i, len, nx)) : Dc mX0_staysWithin pc i len nx := dc_of ktX0_staysWithin k hk
theorem iX0_staysWithin : MiV mX0_staysWithin := ⟨⟨gdw_of (i := 1295) (by decide +kernel) (by decide +kernel), gdw_of (i := 123) (by decide +kernel) (by decide +kernel), by decide, by decide, by decide⟩, gdw_of (i := 1294) (by decide +kernel) (by decide +kernel), gdw_of (i := 53) (by decide +kernel) (by decide +kernel)⟩
abbrev mX0_settledIn : hMt := (yX0_settledIn, cX0_settledIn, 9, some .int)
def tX0_settledIn : hTb := [(0, .aload_n 0, 1, 1), (1, .aload_n 2, 1, 2), (2, .invokevirtual 26, 3, 5), (5, .astore 6, 2, 7), (7, .aload 6, 2, 9), (9, .iload 4, 2, 11), (11, .putfield 41, 3, 14), (14, .aload_n 0, 1, 15), (15, .aload 6, 2, 17), (17, .iconst 0, 1, 18), (18, .invokevirtual 49, 3, 21), (21, .iconst 0, 1, 22), (22, .istore 7, 2, 24), (24, .iconst 0, 1, 25), (25, .istore 8, 2, 27), (27, .iload 8, 2, 29), (29, .iload 5, 2, 31), (31, .if_icmp .gt 60, 3, 34), (34, .iload 8, 2, 36), (36, .sipush 200, 3, 39), (39, .if_icmp .gt 52, 3, 42), (42, .iload 7, 2, 44), (44, .iload 8, 2, 46), (46, .bipush 32, 2, 48), (48, .iadd, 1, 49), (49, .if_icmp .ge 23, 3, 52), (52, .iinc 7 1, 3, 55), (55, .aload 6, 2, 57), (57, .aload_n 1, 1, 58), (58, .invokevirtual 53, 3, 61), (61, .aload_n 0, 1, 62), (62, .aload 6, 2, 64), (64, .iload 7, 2, 66), (66, .invokevirtual 49, 3, 69), (69, .goto (-27), 3, 72), (72, .aload_n 0, 1, 73), (73, .iload 8, 2, 75), (75, .iload_n 3, 1, 76), (76, .invokevirtual 57, 3, 79), (79, .ifCond .eq 6, 3, 82), (82, .iload 8, 2, 84), (84, .ireturn, 1, 85), (85, .iinc 8 1, 3, 88), (88, .goto (-61), 3, 91), (91, .iconst (-1), 1, 92), (92, .ireturn, 1, 93)]
theorem ktX0_settledIn : TbOK mX0_settledIn tX0_settledIn := by
  unfold TbOK
  decide +kernel
theorem kdX0_settledIn (k : Nat) {pc : Nat} {i : Instr} {len nx : Nat} (hk : tX0_settledIn[k]? = some (pc, i, len, nx)) : Dc mX0_settledIn pc i len nx := dc_of ktX0_settledIn k hk
theorem iX0_settledIn : MiV mX0_settledIn := ⟨⟨gdw_of (i := 1283) (by decide +kernel) (by decide +kernel), gdw_of (i := 123) (by decide +kernel) (by decide +kernel), by decide, by decide, by decide⟩, gdw_of (i := 1282) (by decide +kernel) (by decide +kernel), gdw_of (i := 51) (by decide +kernel) (by decide +kernel)⟩
abbrev mX0_settledNow : hMt := (yX0_settledNow, cX0_settledNow, 4, some .int)
def tX0_settledNow : hTb := [(0, .aload_n 0, 1, 1), (1, .aload_n 1, 1, 2), (2, .aload_n 2, 1, 3), (3, .iload_n 3, 1, 4), (4, .aload_n 2, 1, 5), (5, .getfield 41, 3, 8), (8, .sipush 200, 3, 11), (11, .invokevirtual 45, 3, 14), (14, .ireturn, 1, 15)]
theorem ktX0_settledNow : TbOK mX0_settledNow tX0_settledNow := by
  unfold TbOK
  decide +kernel
theorem kdX0_settledNow (k : Nat) {pc : Nat} {i : Instr} {len nx : Nat} (hk : tX0_settledNow[k]? = some (pc, i, len, nx)) : Dc mX0_settledNow pc i len nx := dc_of ktX0_settledNow k hk
theorem iX0_settledNow : MiV mX0_settledNow := ⟨⟨gdw_of (i := 1279) (by decide +kernel) (by decide +kernel), gdw_of (i := 123) (by decide +kernel) (by decide +kernel), by decide, by decide, by decide⟩, gdw_of (i := 1277) (by decide +kernel) (by decide +kernel), gdw_of (i := 1278) (by decide +kernel) (by decide +kernel)⟩
abbrev mX0_quickestGear : hMt := (yX0_quickestGear, cX0_quickestGear, 8, some .int)
def tX0_quickestGear : hTb := [(0, .iconst (-1), 1, 1), (1, .istore 4, 2, 3), (3, .sipush 200, 3, 6), (6, .istore 5, 2, 8), (8, .iconst 1, 1, 9), (9, .istore 6, 2, 11), (11, .iload 6, 2, 13), (13, .bipush 9, 2, 15), (15, .if_icmp .gt 38, 3, 18), (18, .aload_n 0, 1, 19), (19, .aload_n 1, 1, 20), (20, .aload_n 2, 1, 21), (21, .iload_n 3, 1, 22), (22, .iload 6, 2, 24), (24, .iload 5, 2, 26), (26, .invokevirtual 45, 3, 29), (29, .istore 7, 2, 31), (31, .iload 7, 2, 33), (33, .iconst (-1), 1, 34), (34, .if_icmp .eq 13, 3, 37), (37, .iload 6, 2, 39), (39, .istore 4, 2, 41), (41, .iload 7, 2, 43), (43, .iconst 1, 1, 44), (44, .isub, 1, 45), (45, .istore 5, 2, 47), (47, .iinc 6 1, 3, 50), (50, .goto (-39), 3, 53), (53, .iload 4, 2, 55), (55, .ireturn, 1, 56)]
theorem ktX0_quickestGear : TbOK mX0_quickestGear tX0_quickestGear := by
  unfold TbOK
  decide +kernel
theorem kdX0_quickestGear (k : Nat) {pc : Nat} {i : Instr} {len nx : Nat} (hk : tX0_quickestGear[k]? = some (pc, i, len, nx)) : Dc mX0_quickestGear pc i len nx := dc_of ktX0_quickestGear k hk
theorem iX0_quickestGear : MiV mX0_quickestGear := ⟨⟨gdw_of (i := 1304) (by decide +kernel) (by decide +kernel), gdw_of (i := 123) (by decide +kernel) (by decide +kernel), by decide, by decide, by decide⟩, gdw_of (i := 1302) (by decide +kernel) (by decide +kernel), gdw_of (i := 1303) (by decide +kernel) (by decide +kernel)⟩
theorem lX11_209 : Lk RX11 209 mX0_copyOf := Or.inl (gdw_of (i := 1131) (by decide +kernel) (by decide +kernel))
theorem lX11_307 : Lk RX11 307 mX0_settledNow := Or.inl (gdw_of (i := 1276) (by decide +kernel) (by decide +kernel))
theorem lX11_310 : Lk RX11 310 mX0_quickestGear := Or.inl (gdw_of (i := 1301) (by decide +kernel) (by decide +kernel))
theorem lX11_334 : Lk RX11 334 mX0_wrongIfHeld := Or.inl (gdw_of (i := 1314) (by decide +kernel) (by decide +kernel))
theorem lX11_338 : Lk RX11 338 mX0_wrongIfDropped := Or.inl (gdw_of (i := 1323) (by decide +kernel) (by decide +kernel))
theorem lX0_26 : Lk RX0 26 mX0_copyOf := Or.inl (gdw_of (i := 1284) (by decide +kernel) (by decide +kernel))
theorem lX0_45 : Lk RX0 45 mX0_settledIn := Or.inl (gdw_of (i := 1280) (by decide +kernel) (by decide +kernel))
theorem lX0_49 : Lk RX0 49 mX0_keepTaps := Or.inl (gdw_of (i := 1285) (by decide +kernel) (by decide +kernel))
theorem lX0_57 : Lk RX0 57 mX0_staysWithin := Or.inl (gdw_of (i := 1292) (by decide +kernel) (by decide +kernel))
def JX0_copyOf (n1 : Nat) (m : hM) : hR :=
  aal 35 0 fun j1 =>
  calV (JX8_copy (42 + j1) n1 m) fun m2 =>
  aal 35 0 fun j3 =>
  some (some (.inr (.inr (12, 42 + j3))), m2)
set_option maxRecDepth 20000 in
theorem CX0_copyOf (n1 : Nat) (m : hM) : Cn mX0_copyOf 3 [.inr (.inr (34, 0)), .inr (.inr (12, n1))] m (JX0_copyOf n1 m) := by
  refine cn_of (by decide +kernel) (by simp only [List.map, vcat, List.sum_cons, List.sum_nil]; decide) ?_
  unfold JX0_copyOf
  show G mX0_copyOf 3 0 [(0, .inr (.inr (34, 0))), (1, .inr (.inr (12, n1)))] [] m _
  refine g_aload_n 0 (kdX0_copyOf 0 rfl) rfl ?_
  refine g_get (v := .inr (.inr (35, 0))) (kdX0_copyOf 1 rfl) fX0_13 rfl ?_
  refine g_iconst (v := 0) (kdX0_copyOf 2 rfl) (by decide) ?_
  refine g_aald (fun j1 => (12, 42 + j1)) (fun _ => rfl) (kdX0_copyOf 3 rfl) (fun j1 => ?_)
  refine g_aload_n 1 (kdX0_copyOf 4 rfl) rfl ?_
  refine g_calV (ck_V (As := [.inr (.inr (12, n1))]) (S := []) (t := 12) (o := 42 + j1) (kdX0_copyOf 5 rfl) iX8_copy lX0_22 rc_12 rfl rfl rfl (by decide) (by simp only [List.map, vcat, List.sum_cons, List.sum_nil]; decide)) (CX8_copy (42 + j1) n1 m) (fun m2 => ?_)
  refine g_aload_n 0 (kdX0_copyOf 6 rfl) rfl ?_
  refine g_get (v := .inr (.inr (35, 0))) (kdX0_copyOf 7 rfl) fX0_13 rfl ?_
  refine g_iconst (v := 0) (kdX0_copyOf 8 rfl) (by decide) ?_
  refine g_aald (fun j3 => (12, 42 + j3)) (fun _ => rfl) (kdX0_copyOf 9 rfl) (fun j3 => ?_)
  exact g_aret rfl (kdX0_copyOf 10 rfl)
def JX0_wrongIfHeld (n1 : Nat) (n2 : Nat) (a3 : Int32) (a4 : Int32) (m : hM) : hR :=
  calA 12 (JX0_copyOf n2 m) fun x2 m1 =>
  stZ m1 12 x2 15 a4 fun m3 =>
  calI (JX8_wrongIn x2 n1 a3 m3) fun x5 m4 =>
  some (some (.inl x5), m4)
set_option maxRecDepth 20000 in
theorem CX0_wrongIfHeld (n1 : Nat) (n2 : Nat) (a3 : Int32) (a4 : Int32) (m : hM) : Cn mX0_wrongIfHeld 6 [.inr (.inr (34, 0)), .inr (.inr (4, n1)), .inr (.inr (12, n2)), .inl a3, .inl a4] m (JX0_wrongIfHeld n1 n2 a3 a4 m) := by
  refine cn_of (by decide +kernel) (by simp only [List.map, vcat, List.sum_cons, List.sum_nil]; decide) ?_
  unfold JX0_wrongIfHeld
  show G mX0_wrongIfHeld 6 0 [(0, .inr (.inr (34, 0))), (1, .inr (.inr (4, n1))), (2, .inr (.inr (12, n2))), (3, .inl a3), (4, .inl a4)] [] m _
  refine g_aload_n 0 (kdX0_wrongIfHeld 0 rfl) rfl ?_
  refine g_aload_n 2 (kdX0_wrongIfHeld 1 rfl) rfl ?_
  refine g_calA (ck_V (As := [.inr (.inr (12, n2))]) (S := []) (t := 34) (o := 0) (kdX0_wrongIfHeld 2 rfl) iX0_copyOf lX0_26 rc_34 rfl rfl rfl (by decide) (by simp only [List.map, vcat, List.sum_cons, List.sum_nil]; decide)) (CX0_copyOf n2 m) (fun x2 m1 => ?_)
  refine g_astore (L2 := [(5, .inr (.inr (12, x2))), (0, .inr (.inr (34, 0))), (1, .inr (.inr (4, n1))), (2, .inr (.inr (12, n2))), (3, .inl a3), (4, .inl a4)]) (kdX0_wrongIfHeld 3 rfl) rfl (by decide) ?_
  refine g_aload 0 (kdX0_wrongIfHeld 4 rfl) rfl ?_
  refine g_iload 5 (kdX0_wrongIfHeld 5 rfl) rfl ?_
  refine g_putZ (kdX0_wrongIfHeld 6 rfl) fX0_30 rfl (fun m3 => ?_)
  refine g_aload 0 (kdX0_wrongIfHeld 7 rfl) rfl ?_
  refine g_aload_n 2 (kdX0_wrongIfHeld 8 rfl) rfl ?_
  refine g_iload_n 4 (kdX0_wrongIfHeld 9 rfl) rfl ?_
  refine g_calI (ck_V (As := [.inr (.inr (4, n1)), .inl a3]) (S := []) (t := 12) (o := x2) (kdX0_wrongIfHeld 10 rfl) iX8_wrongIn lX0_34 rc_12 rfl rfl rfl (by decide) (by simp only [List.map, vcat, List.sum_cons, List.sum_nil]; decide)) (CX8_wrongIn x2 n1 a3 m3) (fun x5 m4 => ?_)
  exact g_iret rfl (kdX0_wrongIfHeld 11 rfl)
def JX0_wrongIfDropped (n1 : Nat) (n2 : Nat) (a3 : Int32) (m : hM) : hR :=
  calA 12 (JX0_copyOf n2 m) fun x2 m1 =>
  calI (JX8_wrongIn x2 n1 a3 m1) fun x4 m3 =>
  stZ m3 12 x2 16 1 fun m5 =>
  calI (JX8_wrongIn x2 n1 (40 - a3) m5) fun x7 m6 =>
  some (some (.inl (x4 + x7)), m6)
set_option maxRecDepth 20000 in
theorem CX0_wrongIfDropped (n1 : Nat) (n2 : Nat) (a3 : Int32) (m : hM) : Cn mX0_wrongIfDropped 6 [.inr (.inr (34, 0)), .inr (.inr (4, n1)), .inr (.inr (12, n2)), .inl a3] m (JX0_wrongIfDropped n1 n2 a3 m) := by
  refine cn_of (by decide +kernel) (by simp only [List.map, vcat, List.sum_cons, List.sum_nil]; decide) ?_
  unfold JX0_wrongIfDropped
  show G mX0_wrongIfDropped 6 0 [(0, .inr (.inr (34, 0))), (1, .inr (.inr (4, n1))), (2, .inr (.inr (12, n2))), (3, .inl a3)] [] m _
  refine g_aload_n 0 (kdX0_wrongIfDropped 0 rfl) rfl ?_
  refine g_aload_n 2 (kdX0_wrongIfDropped 1 rfl) rfl ?_
  refine g_calA (ck_V (As := [.inr (.inr (12, n2))]) (S := []) (t := 34) (o := 0) (kdX0_wrongIfDropped 2 rfl) iX0_copyOf lX0_26 rc_34 rfl rfl rfl (by decide) (by simp only [List.map, vcat, List.sum_cons, List.sum_nil]; decide)) (CX0_copyOf n2 m) (fun x2 m1 => ?_)
  refine g_astore (L2 := [(4, .inr (.inr (12, x2))), (0, .inr (.inr (34, 0))), (1, .inr (.inr (4, n1))), (2, .inr (.inr (12, n2))), (3, .inl a3)]) (kdX0_wrongIfDropped 3 rfl) rfl (by decide) ?_
  refine g_aload 0 (kdX0_wrongIfDropped 4 rfl) rfl ?_
  refine g_aload_n 2 (kdX0_wrongIfDropped 5 rfl) rfl ?_
  refine g_iload_n 4 (kdX0_wrongIfDropped 6 rfl) rfl ?_
  refine g_calI (ck_V (As := [.inr (.inr (4, n1)), .inl a3]) (S := []) (t := 12) (o := x2) (kdX0_wrongIfDropped 7 rfl) iX8_wrongIn lX0_34 rc_12 rfl rfl rfl (by decide) (by simp only [List.map, vcat, List.sum_cons, List.sum_nil]; decide)) (CX8_wrongIn x2 n1 a3 m1) (fun x4 m3 => ?_)
  refine g_istore (L2 := [(5, .inl x4), (4, .inr (.inr (12, x2))), (0, .inr (.inr (34, 0))), (1, .inr (.inr (4, n1))), (2, .inr (.inr (12, n2))), (3, .inl a3)]) (kdX0_wrongIfDropped 8 rfl) rfl (by decide) ?_
  refine g_aload 1 (kdX0_wrongIfDropped 9 rfl) rfl ?_
  refine g_iconst (v := 1) (kdX0_wrongIfDropped 10 rfl) (by decide) ?_
  refine g_putZ (kdX0_wrongIfDropped 11 rfl) fX0_38 rfl (fun m5 => ?_)
  refine g_iload 0 (kdX0_wrongIfDropped 12 rfl) rfl ?_
  refine g_aload 1 (kdX0_wrongIfDropped 13 rfl) rfl ?_
  refine g_aload_n 3 (kdX0_wrongIfDropped 14 rfl) rfl ?_
  refine g_bipush (v := 40) (kdX0_wrongIfDropped 15 rfl) (by decide) ?_
  refine g_iload_n 5 (kdX0_wrongIfDropped 16 rfl) rfl ?_
  refine g_isub (kdX0_wrongIfDropped 17 rfl) ?_
  refine g_calI (ck_V (As := [.inr (.inr (4, n1)), .inl (40 - a3)]) (S := [.inl x4]) (t := 12) (o := x2) (kdX0_wrongIfDropped 18 rfl) iX8_wrongIn lX0_34 rc_12 rfl rfl rfl (by decide) (by simp only [List.map, vcat, List.sum_cons, List.sum_nil]; decide)) (CX8_wrongIn x2 n1 (40 - a3) m5) (fun x7 m6 => ?_)
  refine g_iadd (kdX0_wrongIfDropped 19 rfl) ?_
  exact g_iret rfl (kdX0_wrongIfDropped 20 rfl)
def JX0_keepTaps (n1 : Nat) (a2 : Int32) (m : hM) : hR :=
  calI (JX11_within a2 0 232 m) fun x2 m1 =>
  if x2 = 0 then (some (none, m1)) else (acp m1 13 n1 0 36 0 (a2 * 6) 6 fun m3 =>
  some (none, m3))
set_option maxRecDepth 20000 in
theorem CX0_keepTaps (n1 : Nat) (a2 : Int32) (m : hM) : Cn mX0_keepTaps 1 [.inr (.inr (34, 0)), .inr (.inr (12, n1)), .inl a2] m (JX0_keepTaps n1 a2 m) := by
  refine cn_of (by decide +kernel) (by simp only [List.map, vcat, List.sum_cons, List.sum_nil]; decide) ?_
  unfold JX0_keepTaps
  show G mX0_keepTaps 1 0 [(0, .inr (.inr (34, 0))), (1, .inr (.inr (12, n1))), (2, .inl a2)] [] m _
  refine g_iload_n 2 (kdX0_keepTaps 0 rfl) rfl ?_
  refine g_iconst (v := 0) (kdX0_keepTaps 1 rfl) (by decide) ?_
  refine g_sipush (v := 232) (kdX0_keepTaps 2 rfl) (by decide) ?_
  refine g_calI (ck_S (As := [.inl a2, .inl 0, .inl 232]) (S := []) (kdX0_keepTaps 3 rfl) iX11_within lX0_61 rfl rfl rfl (by decide) (by simp only [List.map, vcat, List.sum_cons, List.sum_nil]; decide)) (CX11_within a2 0 232 m) (fun x2 m1 => ?_)
  refine g_if_eq (tgt := 29) (kdX0_keepTaps 4 rfl) (by decide) (fun _ => ?_) (fun _ => ?_)
  · exact g_vret rfl (kdX0_keepTaps 15 rfl)
  · refine g_aload_n 1 (kdX0_keepTaps 5 rfl) rfl ?_
    refine g_get (v := .inr (.inr (13, n1))) (kdX0_keepTaps 6 rfl) fX0_65 rfl ?_
    refine g_iconst (v := 0) (kdX0_keepTaps 7 rfl) (by decide) ?_
    refine g_aload_n 0 (kdX0_keepTaps 8 rfl) rfl ?_
    refine g_get (v := .inr (.inr (36, 0))) (kdX0_keepTaps 9 rfl) fX0_17 rfl ?_
    refine g_iload_n 2 (kdX0_keepTaps 10 rfl) rfl ?_
    refine g_bipush (v := 6) (kdX0_keepTaps 11 rfl) (by decide) ?_
    refine g_imul (kdX0_keepTaps 12 rfl) ?_
    refine g_bipush (v := 6) (kdX0_keepTaps 13 rfl) (by decide) ?_
    refine g_acp (kdX0_keepTaps 14 rfl) lX0_68 acW_ok (by decide) (by decide) (fun m3 => ?_)
    exact g_vret rfl (kdX0_keepTaps 15 rfl)
def bJX0_staysWithin_7 (K7 : Int32 → hM → hR) (K48 : hM → hR) (K56 : hM → hR) (v1 : Int32) (v2 : Int32) (v3 : Int32) (m : hM) : hR :=
  if (((v1 + 32) + 1) * 6) ≤ v3 then (K56 m) else (ald m 36 0 v3 fun x2 =>
  jirem v3 6 fun x3 =>
  ald m 36 0 ((v1 * 6) + x3) fun x4 =>
  calI (JX11_sizeOf (x2 - x4) m) fun x6 m5 =>
  if x6 ≤ v2 then (K7 (v3 + 1) m5) else (K48 m5))
set_option maxRecDepth 20000 in
theorem BbJX0_staysWithin_7 (K7 : Int32 → hM → hR) (K48 : hM → hR) (K56 : hM → hR) (v1 : Int32) (v2 : Int32) (h7 : ∀ (v3 : Int32) (m : hM), G mX0_staysWithin 1 7 [(0, .inr (.inr (34, 0))), (1, .inl v1), (2, .inl v2), (3, .inl v3)] [] m (K7 v3 m)) (h48 : ∀ (m : hM), G mX0_staysWithin 1 48 [] [] m (K48 m)) (h56 : ∀ (m : hM), G mX0_staysWithin 1 56 [] [] m (K56 m)) (v3 : Int32) (m : hM) : G mX0_staysWithin 1 7 [(0, .inr (.inr (34, 0))), (1, .inl v1), (2, .inl v2), (3, .inl v3)] [] m (bJX0_staysWithin_7 K7 K48 K56 v1 v2 v3 m) := by
  unfold bJX0_staysWithin_7
  refine g_iload_n 3 (kdX0_staysWithin 6 rfl) rfl ?_
  refine g_iload_n 1 (kdX0_staysWithin 7 rfl) rfl ?_
  refine g_bipush (v := 32) (kdX0_staysWithin 8 rfl) (by decide) ?_
  refine g_iadd (kdX0_staysWithin 9 rfl) ?_
  refine g_iconst (v := 1) (kdX0_staysWithin 10 rfl) (by decide) ?_
  refine g_iadd (kdX0_staysWithin 11 rfl) ?_
  refine g_bipush (v := 6) (kdX0_staysWithin 12 rfl) (by decide) ?_
  refine g_imul (kdX0_staysWithin 13 rfl) ?_
  refine g_icmp_ge (tgt := 56) (kdX0_staysWithin 14 rfl) (by decide) (fun _ => ?_) (fun _ => ?_)
  · exact g_fgt [] rfl (h56 m)
  · refine g_aload_n 0 (kdX0_staysWithin 15 rfl) rfl ?_
    refine g_get (v := .inr (.inr (36, 0))) (kdX0_staysWithin 16 rfl) fX0_17 rfl ?_
    refine g_iload_n 3 (kdX0_staysWithin 17 rfl) rfl ?_
    refine g_iald (kdX0_staysWithin 18 rfl) (fun x2 => ?_)
    refine g_aload_n 0 (kdX0_staysWithin 19 rfl) rfl ?_
    refine g_get (v := .inr (.inr (36, 0))) (kdX0_staysWithin 20 rfl) fX0_17 rfl ?_
    refine g_iload_n 1 (kdX0_staysWithin 21 rfl) rfl ?_
    refine g_bipush (v := 6) (kdX0_staysWithin 22 rfl) (by decide) ?_
    refine g_imul (kdX0_staysWithin 23 rfl) ?_
    refine g_iload_n 3 (kdX0_staysWithin 24 rfl) rfl ?_
    refine g_bipush (v := 6) (kdX0_staysWithin 25 rfl) (by decide) ?_
    refine g_iremx (kdX0_staysWithin 26 rfl) (fun x3 => ?_)
    refine g_iadd (kdX0_staysWithin 27 rfl) ?_
    refine g_iald (kdX0_staysWithin 28 rfl) (fun x4 => ?_)
    refine g_isub (kdX0_staysWithin 29 rfl) ?_
    refine g_calI (ck_S (As := [.inl (x2 - x4)]) (S := []) (kdX0_staysWithin 30 rfl) iX11_sizeOf lX0_74 rfl rfl rfl (by decide) (by simp only [List.map, vcat, List.sum_cons, List.sum_nil]; decide)) (CX11_sizeOf (x2 - x4) m) (fun x6 m5 => ?_)
    refine g_iload_n 2 (kdX0_staysWithin 31 rfl) rfl ?_
    refine g_icmp_le (tgt := 50) (kdX0_staysWithin 32 rfl) (by decide) (fun _ => ?_) (fun _ => ?_)
    · refine g_iinc (v := v3 + 1) (L2 := [(3, .inl (v3 + 1)), (0, .inr (.inr (34, 0))), (1, .inl v1), (2, .inl v2)]) 3 (kdX0_staysWithin 35 rfl) rfl rfl rfl (by decide) ?_
      refine g_goto (tgt := 7) (kdX0_staysWithin 36 rfl) (by decide) ?_
      exact g_fgt [1, 2, 3, 0] rfl (h7 (v3 + 1) m5)
    · exact g_fgt [] rfl (h48 m5)
def JX0_staysWithin_7 (K48 : hM → hR) (K56 : hM → hR) (v1 : Int32) (v2 : Int32) : Nat → Int32 → hM → hR
  | 0, _, _ => none
  | f + 1, v3, m => bJX0_staysWithin_7 (fun v3 m => JX0_staysWithin_7 K48 K56 v1 v2 f v3 m) K48 K56 v1 v2 v3 m
theorem BJX0_staysWithin_7 (K48 : hM → hR) (K56 : hM → hR) (v1 : Int32) (v2 : Int32) (h48 : ∀ (m : hM), G mX0_staysWithin 1 48 [] [] m (K48 m)) (h56 : ∀ (m : hM), G mX0_staysWithin 1 56 [] [] m (K56 m)) : ∀ (f : Nat) (v3 : Int32) (m : hM), G mX0_staysWithin 1 7 [(0, .inr (.inr (34, 0))), (1, .inl v1), (2, .inl v2), (3, .inl v3)] [] m (JX0_staysWithin_7 K48 K56 v1 v2 f v3 m)
  | 0, _, _ => g_none
  | f + 1, v3, m => BbJX0_staysWithin_7  _ K48 K56 v1 v2 (fun v3 m => BJX0_staysWithin_7  K48 K56 v1 v2 h48 h56 f v3 m) h48 h56 v3 m
def JX0_staysWithin (a1 : Int32) (a2 : Int32) (m : hM) : hR :=
  lt ((a1 + 1) * 6) fun x1 =>
  JX0_staysWithin_7 (fun m7 => jretZ 0 m7) (fun m8 => jretZ 1 m8) a1 a2 FU x1 m
set_option maxRecDepth 20000 in
theorem CX0_staysWithin (a1 : Int32) (a2 : Int32) (m : hM) : Cn mX0_staysWithin 1 [.inr (.inr (34, 0)), .inl a1, .inl a2] m (JX0_staysWithin a1 a2 m) := by
  refine cn_of (by decide +kernel) (by simp only [List.map, vcat, List.sum_cons, List.sum_nil]; decide) ?_
  unfold JX0_staysWithin
  show G mX0_staysWithin 1 0 [(0, .inr (.inr (34, 0))), (1, .inl a1), (2, .inl a2)] [] m _
  refine g_iload_n 1 (kdX0_staysWithin 0 rfl) rfl ?_
  refine g_iconst (v := 1) (kdX0_staysWithin 1 rfl) (by decide) ?_
  refine g_iadd (kdX0_staysWithin 2 rfl) ?_
  refine g_bipush (v := 6) (kdX0_staysWithin 3 rfl) (by decide) ?_
  refine g_imul (kdX0_staysWithin 4 rfl) ?_
  refine g_lt (fun x1 => ?_)
  refine g_istore_n (L2 := [(3, .inl x1), (0, .inr (.inr (34, 0))), (1, .inl a1), (2, .inl a2)]) (kdX0_staysWithin 5 rfl) rfl (by decide) ?_
  refine g_fgt [1, 2, 3, 0] rfl (BJX0_staysWithin_7  _ _ a1 a2 ?_ ?_ FU x1 m)
  · intro m7
    refine g_iconst (v := 0) (kdX0_staysWithin 33 rfl) (by decide) ?_
    exact g_zret rfl (kdX0_staysWithin 34 rfl)
  · intro m8
    refine g_iconst (v := 1) (kdX0_staysWithin 37 rfl) (by decide) ?_
    exact g_zret rfl (kdX0_staysWithin 38 rfl)
def bJX0_settledIn_42 (K42 : Int32 → hM → hR) (K72 : Int32 → hM → hR) (w1 : Nat) (v3 : Int32) (v5 : Int32) (w6 : Nat) (v8 : Int32) (v7 : Int32) (m : hM) : hR :=
  if (v8 + 32) ≤ v7 then (K72 v7 m) else (calV (JX8_pass w6 w1 m) fun m5 =>
  calV (JX0_keepTaps w6 (v7 + 1) m5) fun m6 =>
  K42 (v7 + 1) m6)
set_option maxRecDepth 20000 in
theorem BbJX0_settledIn_42 (K42 : Int32 → hM → hR) (K72 : Int32 → hM → hR) (w1 : Nat) (v3 : Int32) (v5 : Int32) (w6 : Nat) (v8 : Int32) (h42 : ∀ (v7 : Int32) (m : hM), G mX0_settledIn 5 42 [(0, .inr (.inr (34, 0))), (1, .inr (.inr (4, w1))), (3, .inl v3), (5, .inl v5), (6, .inr (.inr (12, w6))), (7, .inl v7), (8, .inl v8)] [] m (K42 v7 m)) (h72 : ∀ (v7 : Int32) (m : hM), G mX0_settledIn 5 72 [(0, .inr (.inr (34, 0))), (1, .inr (.inr (4, w1))), (3, .inl v3), (5, .inl v5), (6, .inr (.inr (12, w6))), (7, .inl v7), (8, .inl v8)] [] m (K72 v7 m)) (v7 : Int32) (m : hM) : G mX0_settledIn 5 42 [(0, .inr (.inr (34, 0))), (1, .inr (.inr (4, w1))), (3, .inl v3), (5, .inl v5), (6, .inr (.inr (12, w6))), (7, .inl v7), (8, .inl v8)] [] m (bJX0_settledIn_42 K42 K72 w1 v3 v5 w6 v8 v7 m) := by
  unfold bJX0_settledIn_42
  refine g_iload 5 (kdX0_settledIn 21 rfl) rfl ?_
  refine g_iload 6 (kdX0_settledIn 22 rfl) rfl ?_
  refine g_bipush (v := 32) (kdX0_settledIn 23 rfl) (by decide) ?_
  refine g_iadd (kdX0_settledIn 24 rfl) ?_
  refine g_icmp_ge (tgt := 72) (kdX0_settledIn 25 rfl) (by decide) (fun _ => ?_) (fun _ => ?_)
  · exact g_fgt [0, 1, 2, 3, 4, 5, 6] rfl (h72 v7 m)
  · refine g_iinc (v := v7 + 1) (L2 := [(7, .inl (v7 + 1)), (0, .inr (.inr (34, 0))), (1, .inr (.inr (4, w1))), (3, .inl v3), (5, .inl v5), (6, .inr (.inr (12, w6))), (8, .inl v8)]) 5 (kdX0_settledIn 26 rfl) rfl rfl rfl (by decide) ?_
    refine g_aload 5 (kdX0_settledIn 27 rfl) rfl ?_
    refine g_aload_n 2 (kdX0_settledIn 28 rfl) rfl ?_
    refine g_calV (ck_V (As := [.inr (.inr (4, w1))]) (S := []) (t := 12) (o := w6) (kdX0_settledIn 29 rfl) iX8_pass lX0_53 rc_12 rfl rfl rfl (by decide) (by simp only [List.map, vcat, List.sum_cons, List.sum_nil]; decide)) (CX8_pass w6 w1 m) (fun m5 => ?_)
    refine g_aload_n 1 (kdX0_settledIn 30 rfl) rfl ?_
    refine g_aload 5 (kdX0_settledIn 31 rfl) rfl ?_
    refine g_iload 0 (kdX0_settledIn 32 rfl) rfl ?_
    refine g_calV (ck_V (As := [.inr (.inr (12, w6)), .inl (v7 + 1)]) (S := []) (t := 34) (o := 0) (kdX0_settledIn 33 rfl) iX0_keepTaps lX0_49 rc_34 rfl rfl rfl (by decide) (by simp only [List.map, vcat, List.sum_cons, List.sum_nil]; decide)) (CX0_keepTaps w6 (v7 + 1) m5) (fun m6 => ?_)
    refine g_goto (tgt := 42) (kdX0_settledIn 34 rfl) (by decide) ?_
    exact g_fgt [1, 2, 3, 4, 5, 0, 6] rfl (h42 (v7 + 1) m6)
def JX0_settledIn_42 (K72 : Int32 → hM → hR) (w1 : Nat) (v3 : Int32) (v5 : Int32) (w6 : Nat) (v8 : Int32) : Nat → Int32 → hM → hR
  | 0, _, _ => none
  | f + 1, v7, m => bJX0_settledIn_42 (fun v7 m => JX0_settledIn_42 K72 w1 v3 v5 w6 v8 f v7 m) K72 w1 v3 v5 w6 v8 v7 m
theorem BJX0_settledIn_42 (K72 : Int32 → hM → hR) (w1 : Nat) (v3 : Int32) (v5 : Int32) (w6 : Nat) (v8 : Int32) (h72 : ∀ (v7 : Int32) (m : hM), G mX0_settledIn 5 72 [(0, .inr (.inr (34, 0))), (1, .inr (.inr (4, w1))), (3, .inl v3), (5, .inl v5), (6, .inr (.inr (12, w6))), (7, .inl v7), (8, .inl v8)] [] m (K72 v7 m)) : ∀ (f : Nat) (v7 : Int32) (m : hM), G mX0_settledIn 5 42 [(0, .inr (.inr (34, 0))), (1, .inr (.inr (4, w1))), (3, .inl v3), (5, .inl v5), (6, .inr (.inr (12, w6))), (7, .inl v7), (8, .inl v8)] [] m (JX0_settledIn_42 K72 w1 v3 v5 w6 v8 f v7 m)
  | 0, _, _ => g_none
  | f + 1, v7, m => BbJX0_settledIn_42  _ K72 w1 v3 v5 w6 v8 (fun v7 m => BJX0_settledIn_42  K72 w1 v3 v5 w6 v8 h72 f v7 m) h72 v7 m
def bJX0_settledIn_27 (K27 : Int32 → Int32 → hM → hR) (K82 : Int32 → hM → hR) (K91 : hM → hR) (w1 : Nat) (v3 : Int32) (v5 : Int32) (w6 : Nat) (v7 : Int32) (v8 : Int32) (m : hM) : hR :=
  if v5 < v8 then (K91 m) else (if 200 < v8 then (K91 m) else (JX0_settledIn_42 (fun v7 m7 => calI (JX0_staysWithin v8 v3 m7) fun x9 m8 =>
  if x9 = 0 then (K27 v7 (v8 + 1) m8) else (K82 v8 m8)) w1 v3 v5 w6 v8 FU v7 m))
set_option maxRecDepth 20000 in
theorem BbJX0_settledIn_27 (K27 : Int32 → Int32 → hM → hR) (K82 : Int32 → hM → hR) (K91 : hM → hR) (w1 : Nat) (v3 : Int32) (v5 : Int32) (w6 : Nat) (h27 : ∀ (v7 : Int32) (v8 : Int32) (m : hM), G mX0_settledIn 5 27 [(0, .inr (.inr (34, 0))), (1, .inr (.inr (4, w1))), (3, .inl v3), (5, .inl v5), (6, .inr (.inr (12, w6))), (7, .inl v7), (8, .inl v8)] [] m (K27 v7 v8 m)) (h82 : ∀ (v8 : Int32) (m : hM), G mX0_settledIn 5 82 [(8, .inl v8)] [] m (K82 v8 m)) (h91 : ∀ (m : hM), G mX0_settledIn 5 91 [] [] m (K91 m)) (v7 : Int32) (v8 : Int32) (m : hM) : G mX0_settledIn 5 27 [(0, .inr (.inr (34, 0))), (1, .inr (.inr (4, w1))), (3, .inl v3), (5, .inl v5), (6, .inr (.inr (12, w6))), (7, .inl v7), (8, .inl v8)] [] m (bJX0_settledIn_27 K27 K82 K91 w1 v3 v5 w6 v7 v8 m) := by
  unfold bJX0_settledIn_27
  refine g_iload 6 (kdX0_settledIn 15 rfl) rfl ?_
  refine g_iload 3 (kdX0_settledIn 16 rfl) rfl ?_
  refine g_icmp_gt (tgt := 91) (kdX0_settledIn 17 rfl) (by decide) (fun _ => ?_) (fun _ => ?_)
  · exact g_fgt [] rfl (h91 m)
  · refine g_iload 6 (kdX0_settledIn 18 rfl) rfl ?_
    refine g_sipush (v := 200) (kdX0_settledIn 19 rfl) (by decide) ?_
    refine g_icmp_gt (tgt := 91) (kdX0_settledIn 20 rfl) (by decide) (fun _ => ?_) (fun _ => ?_)
    · exact g_fgt [] rfl (h91 m)
    · refine g_fgt [0, 1, 2, 3, 4, 5, 6] rfl (BJX0_settledIn_42  _ w1 v3 v5 w6 v8 ?_ FU v7 m)
      · intro v7 m7
        refine g_aload_n 0 (kdX0_settledIn 35 rfl) rfl ?_
        refine g_iload 6 (kdX0_settledIn 36 rfl) rfl ?_
        refine g_iload_n 2 (kdX0_settledIn 37 rfl) rfl ?_
        refine g_calI (ck_V (As := [.inl v8, .inl v3]) (S := []) (t := 34) (o := 0) (kdX0_settledIn 38 rfl) iX0_staysWithin lX0_57 rc_34 rfl rfl rfl (by decide) (by simp only [List.map, vcat, List.sum_cons, List.sum_nil]; decide)) (CX0_staysWithin v8 v3 m7) (fun x9 m8 => ?_)
        refine g_if_eq (tgt := 85) (kdX0_settledIn 39 rfl) (by decide) (fun _ => ?_) (fun _ => ?_)
        · refine g_iinc (v := v8 + 1) (L2 := [(8, .inl (v8 + 1)), (0, .inr (.inr (34, 0))), (1, .inr (.inr (4, w1))), (3, .inl v3), (5, .inl v5), (6, .inr (.inr (12, w6))), (7, .inl v7)]) 6 (kdX0_settledIn 42 rfl) rfl rfl rfl (by decide) ?_
          refine g_goto (tgt := 27) (kdX0_settledIn 43 rfl) (by decide) ?_
          exact g_fgt [1, 2, 3, 4, 5, 6, 0] rfl (h27 v7 (v8 + 1) m8)
        · exact g_fgt [6] rfl (h82 v8 m8)
def JX0_settledIn_27 (K82 : Int32 → hM → hR) (K91 : hM → hR) (w1 : Nat) (v3 : Int32) (v5 : Int32) (w6 : Nat) : Nat → Int32 → Int32 → hM → hR
  | 0, _, _, _ => none
  | f + 1, v7, v8, m => bJX0_settledIn_27 (fun v7 v8 m => JX0_settledIn_27 K82 K91 w1 v3 v5 w6 f v7 v8 m) K82 K91 w1 v3 v5 w6 v7 v8 m
theorem BJX0_settledIn_27 (K82 : Int32 → hM → hR) (K91 : hM → hR) (w1 : Nat) (v3 : Int32) (v5 : Int32) (w6 : Nat) (h82 : ∀ (v8 : Int32) (m : hM), G mX0_settledIn 5 82 [(8, .inl v8)] [] m (K82 v8 m)) (h91 : ∀ (m : hM), G mX0_settledIn 5 91 [] [] m (K91 m)) : ∀ (f : Nat) (v7 : Int32) (v8 : Int32) (m : hM), G mX0_settledIn 5 27 [(0, .inr (.inr (34, 0))), (1, .inr (.inr (4, w1))), (3, .inl v3), (5, .inl v5), (6, .inr (.inr (12, w6))), (7, .inl v7), (8, .inl v8)] [] m (JX0_settledIn_27 K82 K91 w1 v3 v5 w6 f v7 v8 m)
  | 0, _, _, _ => g_none
  | f + 1, v7, v8, m => BbJX0_settledIn_27  _ K82 K91 w1 v3 v5 w6 (fun v7 v8 m => BJX0_settledIn_27  K82 K91 w1 v3 v5 w6 h82 h91 f v7 v8 m) h82 h91 v7 v8 m
def JX0_settledIn (n1 : Nat) (n2 : Nat) (a3 : Int32) (a4 : Int32) (a5 : Int32) (m : hM) : hR :=
  calA 12 (JX0_copyOf n2 m) fun x2 m1 =>
  stI m1 12 x2 11 a4 fun m3 =>
  calV (JX0_keepTaps x2 0 m3) fun m4 =>
  JX0_settledIn_27 (fun v8 m10 => some (some (.inl v8), m10)) (fun m11 => some (some (.inl (-1)), m11)) n1 a3 a5 x2 FU 0 0 m4
set_option maxRecDepth 20000 in
theorem CX0_settledIn (n1 : Nat) (n2 : Nat) (a3 : Int32) (a4 : Int32) (a5 : Int32) (m : hM) : Cn mX0_settledIn 5 [.inr (.inr (34, 0)), .inr (.inr (4, n1)), .inr (.inr (12, n2)), .inl a3, .inl a4, .inl a5] m (JX0_settledIn n1 n2 a3 a4 a5 m) := by
  refine cn_of (by decide +kernel) (by simp only [List.map, vcat, List.sum_cons, List.sum_nil]; decide) ?_
  unfold JX0_settledIn
  show G mX0_settledIn 5 0 [(0, .inr (.inr (34, 0))), (1, .inr (.inr (4, n1))), (2, .inr (.inr (12, n2))), (3, .inl a3), (4, .inl a4), (5, .inl a5)] [] m _
  refine g_aload_n 0 (kdX0_settledIn 0 rfl) rfl ?_
  refine g_aload_n 2 (kdX0_settledIn 1 rfl) rfl ?_
  refine g_calA (ck_V (As := [.inr (.inr (12, n2))]) (S := []) (t := 34) (o := 0) (kdX0_settledIn 2 rfl) iX0_copyOf lX0_26 rc_34 rfl rfl rfl (by decide) (by simp only [List.map, vcat, List.sum_cons, List.sum_nil]; decide)) (CX0_copyOf n2 m) (fun x2 m1 => ?_)
  refine g_astore (L2 := [(6, .inr (.inr (12, x2))), (0, .inr (.inr (34, 0))), (1, .inr (.inr (4, n1))), (2, .inr (.inr (12, n2))), (3, .inl a3), (4, .inl a4), (5, .inl a5)]) (kdX0_settledIn 3 rfl) rfl (by decide) ?_
  refine g_aload 0 (kdX0_settledIn 4 rfl) rfl ?_
  refine g_iload 5 (kdX0_settledIn 5 rfl) rfl ?_
  refine g_putI (kdX0_settledIn 6 rfl) fX0_41 rfl (fun m3 => ?_)
  refine g_aload_n 1 (kdX0_settledIn 7 rfl) rfl ?_
  refine g_aload 0 (kdX0_settledIn 8 rfl) rfl ?_
  refine g_iconst (v := 0) (kdX0_settledIn 9 rfl) (by decide) ?_
  refine g_calV (ck_V (As := [.inr (.inr (12, x2)), .inl 0]) (S := []) (t := 34) (o := 0) (kdX0_settledIn 10 rfl) iX0_keepTaps lX0_49 rc_34 rfl rfl rfl (by decide) (by simp only [List.map, vcat, List.sum_cons, List.sum_nil]; decide)) (CX0_keepTaps x2 0 m3) (fun m4 => ?_)
  refine g_iconst (v := 0) (kdX0_settledIn 11 rfl) (by decide) ?_
  refine g_istore (L2 := [(7, .inl 0), (6, .inr (.inr (12, x2))), (0, .inr (.inr (34, 0))), (1, .inr (.inr (4, n1))), (2, .inr (.inr (12, n2))), (3, .inl a3), (4, .inl a4), (5, .inl a5)]) (kdX0_settledIn 12 rfl) rfl (by decide) ?_
  refine g_iconst (v := 0) (kdX0_settledIn 13 rfl) (by decide) ?_
  refine g_istore (L2 := [(8, .inl 0), (7, .inl 0), (6, .inr (.inr (12, x2))), (0, .inr (.inr (34, 0))), (1, .inr (.inr (4, n1))), (2, .inr (.inr (12, n2))), (3, .inl a3), (4, .inl a4), (5, .inl a5)]) (kdX0_settledIn 14 rfl) rfl (by decide) ?_
  refine g_fgt [3, 4, 6, 8, 2, 1, 0] rfl (BJX0_settledIn_27  _ _ n1 a3 a5 x2 ?_ ?_ FU 0 0 m4)
  · intro v8 m10
    refine g_iload 0 (kdX0_settledIn 40 rfl) rfl ?_
    exact g_iret rfl (kdX0_settledIn 41 rfl)
  · intro m11
    refine g_iconst (v := (-1)) (kdX0_settledIn 44 rfl) (by decide) ?_
    exact g_iret rfl (kdX0_settledIn 45 rfl)
def JX0_settledNow (n1 : Nat) (n2 : Nat) (a3 : Int32) (m : hM) : hR :=
  calI (JX0_settledIn n1 n2 a3 (m.1 12 n2 11) 200 m) fun x2 m1 =>
  some (some (.inl x2), m1)
set_option maxRecDepth 20000 in
theorem CX0_settledNow (n1 : Nat) (n2 : Nat) (a3 : Int32) (m : hM) : Cn mX0_settledNow 6 [.inr (.inr (34, 0)), .inr (.inr (4, n1)), .inr (.inr (12, n2)), .inl a3] m (JX0_settledNow n1 n2 a3 m) := by
  refine cn_of (by decide +kernel) (by simp only [List.map, vcat, List.sum_cons, List.sum_nil]; decide) ?_
  unfold JX0_settledNow
  show G mX0_settledNow 6 0 [(0, .inr (.inr (34, 0))), (1, .inr (.inr (4, n1))), (2, .inr (.inr (12, n2))), (3, .inl a3)] [] m _
  refine g_aload_n 0 (kdX0_settledNow 0 rfl) rfl ?_
  refine g_aload_n 1 (kdX0_settledNow 1 rfl) rfl ?_
  refine g_aload_n 2 (kdX0_settledNow 2 rfl) rfl ?_
  refine g_iload_n 3 (kdX0_settledNow 3 rfl) rfl ?_
  refine g_aload_n 2 (kdX0_settledNow 4 rfl) rfl ?_
  refine g_get (v := .inl (m.1 12 n2 11)) (kdX0_settledNow 5 rfl) fX0_41 rfl ?_
  refine g_sipush (v := 200) (kdX0_settledNow 6 rfl) (by decide) ?_
  refine g_calI (ck_V (As := [.inr (.inr (4, n1)), .inr (.inr (12, n2)), .inl a3, .inl (m.1 12 n2 11), .inl 200]) (S := []) (t := 34) (o := 0) (kdX0_settledNow 7 rfl) iX0_settledIn lX0_45 rc_34 rfl rfl rfl (by decide) (by simp only [List.map, vcat, List.sum_cons, List.sum_nil]; decide)) (CX0_settledIn n1 n2 a3 (m.1 12 n2 11) 200 m) (fun x2 m1 => ?_)
  exact g_iret rfl (kdX0_settledNow 8 rfl)
def JX0_quickestGear_47 (K11 : Int32 → Int32 → Int32 → hM → hR) (K53 : Int32 → hM → hR) (w1 : Nat) (w2 : Nat) (v3 : Int32) (v4 : Int32) (v5 : Int32) (v6 : Int32) (m : hM) : hR :=
  K11 v4 v5 (v6 + 1) m
set_option maxRecDepth 20000 in
theorem BX0_quickestGear_47 (w1 : Nat) (w2 : Nat) (v3 : Int32) (K11 : Int32 → Int32 → Int32 → hM → hR) (K53 : Int32 → hM → hR) (h11 : ∀ (v4 : Int32) (v5 : Int32) (v6 : Int32) (m : hM), G mX0_quickestGear 6 11 [(0, .inr (.inr (34, 0))), (1, .inr (.inr (4, w1))), (2, .inr (.inr (12, w2))), (3, .inl v3), (4, .inl v4), (5, .inl v5), (6, .inl v6)] [] m (K11 v4 v5 v6 m)) (h53 : ∀ (v4 : Int32) (m : hM), G mX0_quickestGear 6 53 [(4, .inl v4)] [] m (K53 v4 m)) (v4 : Int32) (v5 : Int32) (v6 : Int32) (m : hM) : G mX0_quickestGear 6 47 [(0, .inr (.inr (34, 0))), (1, .inr (.inr (4, w1))), (2, .inr (.inr (12, w2))), (3, .inl v3), (4, .inl v4), (5, .inl v5), (6, .inl v6)] [] m (JX0_quickestGear_47 K11 K53 w1 w2 v3 v4 v5 v6 m) := by
  unfold JX0_quickestGear_47
  refine g_iinc (v := v6 + 1) (L2 := [(6, .inl (v6 + 1)), (0, .inr (.inr (34, 0))), (1, .inr (.inr (4, w1))), (2, .inr (.inr (12, w2))), (3, .inl v3), (4, .inl v4), (5, .inl v5)]) 6 (kdX0_quickestGear 26 rfl) rfl rfl rfl (by decide) ?_
  refine g_goto (tgt := 11) (kdX0_quickestGear 27 rfl) (by decide) ?_
  exact g_fgt [1, 2, 3, 4, 5, 6, 0] rfl (h11 v4 v5 (v6 + 1) m)
def bJX0_quickestGear_11 (K11 : Int32 → Int32 → Int32 → hM → hR) (K53 : Int32 → hM → hR) (w1 : Nat) (w2 : Nat) (v3 : Int32) (v4 : Int32) (v5 : Int32) (v6 : Int32) (m : hM) : hR :=
  if 9 < v6 then (K53 v4 m) else (calI (JX0_settledIn w1 w2 v3 v6 v5 m) fun x2 m1 =>
  if x2 = (-1) then (JX0_quickestGear_47 K11 K53 w1 w2 v3 v4 v5 v6 m1) else (lt (x2 - 1) fun x3 =>
  JX0_quickestGear_47 K11 K53 w1 w2 v3 v6 x3 v6 m1))
set_option maxRecDepth 20000 in
theorem BbJX0_quickestGear_11 (K11 : Int32 → Int32 → Int32 → hM → hR) (K53 : Int32 → hM → hR) (w1 : Nat) (w2 : Nat) (v3 : Int32) (h11 : ∀ (v4 : Int32) (v5 : Int32) (v6 : Int32) (m : hM), G mX0_quickestGear 6 11 [(0, .inr (.inr (34, 0))), (1, .inr (.inr (4, w1))), (2, .inr (.inr (12, w2))), (3, .inl v3), (4, .inl v4), (5, .inl v5), (6, .inl v6)] [] m (K11 v4 v5 v6 m)) (h53 : ∀ (v4 : Int32) (m : hM), G mX0_quickestGear 6 53 [(4, .inl v4)] [] m (K53 v4 m)) (v4 : Int32) (v5 : Int32) (v6 : Int32) (m : hM) : G mX0_quickestGear 6 11 [(0, .inr (.inr (34, 0))), (1, .inr (.inr (4, w1))), (2, .inr (.inr (12, w2))), (3, .inl v3), (4, .inl v4), (5, .inl v5), (6, .inl v6)] [] m (bJX0_quickestGear_11 K11 K53 w1 w2 v3 v4 v5 v6 m) := by
  unfold bJX0_quickestGear_11
  refine g_iload 6 (kdX0_quickestGear 6 rfl) rfl ?_
  refine g_bipush (v := 9) (kdX0_quickestGear 7 rfl) (by decide) ?_
  refine g_icmp_gt (tgt := 53) (kdX0_quickestGear 8 rfl) (by decide) (fun _ => ?_) (fun _ => ?_)
  · exact g_fgt [4] rfl (h53 v4 m)
  · refine g_aload_n 0 (kdX0_quickestGear 9 rfl) rfl ?_
    refine g_aload_n 1 (kdX0_quickestGear 10 rfl) rfl ?_
    refine g_aload_n 2 (kdX0_quickestGear 11 rfl) rfl ?_
    refine g_iload_n 3 (kdX0_quickestGear 12 rfl) rfl ?_
    refine g_iload 6 (kdX0_quickestGear 13 rfl) rfl ?_
    refine g_iload 5 (kdX0_quickestGear 14 rfl) rfl ?_
    refine g_calI (ck_V (As := [.inr (.inr (4, w1)), .inr (.inr (12, w2)), .inl v3, .inl v6, .inl v5]) (S := []) (t := 34) (o := 0) (kdX0_quickestGear 15 rfl) iX0_settledIn lX0_45 rc_34 rfl rfl rfl (by decide) (by simp only [List.map, vcat, List.sum_cons, List.sum_nil]; decide)) (CX0_settledIn w1 w2 v3 v6 v5 m) (fun x2 m1 => ?_)
    refine g_istore (L2 := [(7, .inl x2), (0, .inr (.inr (34, 0))), (1, .inr (.inr (4, w1))), (2, .inr (.inr (12, w2))), (3, .inl v3), (4, .inl v4), (5, .inl v5), (6, .inl v6)]) (kdX0_quickestGear 16 rfl) rfl (by decide) ?_
    refine g_iload 0 (kdX0_quickestGear 17 rfl) rfl ?_
    refine g_iconst (v := (-1)) (kdX0_quickestGear 18 rfl) (by decide) ?_
    refine g_icmp_eq (tgt := 47) (kdX0_quickestGear 19 rfl) (by decide) (fun _ => ?_) (fun _ => ?_)
    · exact g_fgt [1, 2, 3, 4, 5, 6, 7] rfl (BX0_quickestGear_47 w1 w2 v3 _ _ h11 h53 v4 v5 v6 m1)
    · refine g_iload 7 (kdX0_quickestGear 20 rfl) rfl ?_
      refine g_istore (L2 := [(4, .inl v6), (7, .inl x2), (0, .inr (.inr (34, 0))), (1, .inr (.inr (4, w1))), (2, .inr (.inr (12, w2))), (3, .inl v3), (5, .inl v5), (6, .inl v6)]) (kdX0_quickestGear 21 rfl) rfl (by decide) ?_
      refine g_iload 1 (kdX0_quickestGear 22 rfl) rfl ?_
      refine g_iconst (v := 1) (kdX0_quickestGear 23 rfl) (by decide) ?_
      refine g_isub (kdX0_quickestGear 24 rfl) ?_
      refine g_lt (fun x3 => ?_)
      refine g_istore (L2 := [(5, .inl x3), (4, .inl v6), (7, .inl x2), (0, .inr (.inr (34, 0))), (1, .inr (.inr (4, w1))), (2, .inr (.inr (12, w2))), (3, .inl v3), (6, .inl v6)]) (kdX0_quickestGear 25 rfl) rfl (by decide) ?_
      exact g_fgt [3, 4, 5, 6, 1, 0, 7] rfl (BX0_quickestGear_47 w1 w2 v3 _ _ h11 h53 v6 x3 v6 m1)
def JX0_quickestGear_11 (K53 : Int32 → hM → hR) (w1 : Nat) (w2 : Nat) (v3 : Int32) : Nat → Int32 → Int32 → Int32 → hM → hR
  | 0, _, _, _, _ => none
  | f + 1, v4, v5, v6, m => bJX0_quickestGear_11 (fun v4 v5 v6 m => JX0_quickestGear_11 K53 w1 w2 v3 f v4 v5 v6 m) K53 w1 w2 v3 v4 v5 v6 m
theorem BJX0_quickestGear_11 (K53 : Int32 → hM → hR) (w1 : Nat) (w2 : Nat) (v3 : Int32) (h53 : ∀ (v4 : Int32) (m : hM), G mX0_quickestGear 6 53 [(4, .inl v4)] [] m (K53 v4 m)) : ∀ (f : Nat) (v4 : Int32) (v5 : Int32) (v6 : Int32) (m : hM), G mX0_quickestGear 6 11 [(0, .inr (.inr (34, 0))), (1, .inr (.inr (4, w1))), (2, .inr (.inr (12, w2))), (3, .inl v3), (4, .inl v4), (5, .inl v5), (6, .inl v6)] [] m (JX0_quickestGear_11 K53 w1 w2 v3 f v4 v5 v6 m)
  | 0, _, _, _, _ => g_none
  | f + 1, v4, v5, v6, m => BbJX0_quickestGear_11  _ K53 w1 w2 v3 (fun v4 v5 v6 m => BJX0_quickestGear_11  K53 w1 w2 v3 h53 f v4 v5 v6 m) h53 v4 v5 v6 m
def JX0_quickestGear (n1 : Nat) (n2 : Nat) (a3 : Int32) (m : hM) : hR :=
  JX0_quickestGear_11 (fun v4 m4 => some (some (.inl v4), m4)) n1 n2 a3 FU (-1) 200 1 m
set_option maxRecDepth 20000 in
theorem CX0_quickestGear (n1 : Nat) (n2 : Nat) (a3 : Int32) (m : hM) : Cn mX0_quickestGear 6 [.inr (.inr (34, 0)), .inr (.inr (4, n1)), .inr (.inr (12, n2)), .inl a3] m (JX0_quickestGear n1 n2 a3 m) := by
  refine cn_of (by decide +kernel) (by simp only [List.map, vcat, List.sum_cons, List.sum_nil]; decide) ?_
  unfold JX0_quickestGear
  show G mX0_quickestGear 6 0 [(0, .inr (.inr (34, 0))), (1, .inr (.inr (4, n1))), (2, .inr (.inr (12, n2))), (3, .inl a3)] [] m _
  refine g_iconst (v := (-1)) (kdX0_quickestGear 0 rfl) (by decide) ?_
  refine g_istore (L2 := [(4, .inl (-1)), (0, .inr (.inr (34, 0))), (1, .inr (.inr (4, n1))), (2, .inr (.inr (12, n2))), (3, .inl a3)]) (kdX0_quickestGear 1 rfl) rfl (by decide) ?_
  refine g_sipush (v := 200) (kdX0_quickestGear 2 rfl) (by decide) ?_
  refine g_istore (L2 := [(5, .inl 200), (4, .inl (-1)), (0, .inr (.inr (34, 0))), (1, .inr (.inr (4, n1))), (2, .inr (.inr (12, n2))), (3, .inl a3)]) (kdX0_quickestGear 3 rfl) rfl (by decide) ?_
  refine g_iconst (v := 1) (kdX0_quickestGear 4 rfl) (by decide) ?_
  refine g_istore (L2 := [(6, .inl 1), (5, .inl 200), (4, .inl (-1)), (0, .inr (.inr (34, 0))), (1, .inr (.inr (4, n1))), (2, .inr (.inr (12, n2))), (3, .inl a3)]) (kdX0_quickestGear 5 rfl) rfl (by decide) ?_
  refine g_fgt [3, 4, 5, 6, 2, 1, 0] rfl (BJX0_quickestGear_11  _ n1 n2 a3 ?_ FU (-1) 200 1 m)
  · intro v4 m4
    refine g_iload 0 (kdX0_quickestGear 28 rfl) rfl ?_
    exact g_iret rfl (kdX0_quickestGear 29 rfl)
