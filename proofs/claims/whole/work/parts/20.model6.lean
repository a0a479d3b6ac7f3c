abbrev mX12_image : hMt := (yX12_image, cX12_image, 2, some .int)
def tX12_image : hTb := [(0, .aload_n 0, 1, 1), (1, .getfield 203, 3, 4), (4, .ifCond .ne 5, 3, 7), (7, .iconst (-1), 1, 8), (8, .ireturn, 1, 9), (9, .iconst 0, 1, 10), (10, .istore_n 1, 1, 11), (11, .iload_n 1, 1, 12), (12, .sipush 232, 3, 15), (15, .if_icmp .ge 21, 3, 18), (18, .aload_n 0, 1, 19), (19, .getfield 76, 3, 22), (22, .iload_n 1, 1, 23), (23, .aload_n 0, 1, 24), (24, .getfield 37, 3, 27), (27, .iload_n 1, 1, 28), (28, .iaload, 1, 29), (29, .iastore, 1, 30), (30, .iinc 1 1, 3, 33), (33, .goto (-22), 3, 36), (36, .aload_n 0, 1, 37), (37, .iconst 1, 1, 38), (38, .putfield 210, 3, 41), (41, .aload_n 0, 1, 42), (42, .getfield 37, 3, 45), (45, .bipush 18, 2, 47), (47, .iaload, 1, 48), (48, .ireturn, 1, 49)]
theorem ktX12_image : TbOK mX12_image tX12_image := by
  unfold TbOK
  decide +kernel
theorem kdX12_image (k : Nat) {pc : Nat} {i : Instr} {len nx : Nat} (hk : tX12_image[k]? = some (pc, i, len, nx)) : Dc mX12_image pc i len nx := dc_of ktX12_image k hk
theorem iX12_image : MiV mX12_image := ⟨⟨gdw_of (i := 1997) (by decide +kernel) (by decide +kernel), gdw_of (i := 124) (by decide +kernel) (by decide +kernel), by decide, by decide, by decide⟩, gdw_of (i := 1995) (by decide +kernel) (by decide +kernel), gdw_of (i := 1996) (by decide +kernel) (by decide +kernel)⟩
abbrev mX12_back : hMt := (yX12_back, cX12_back, 2, some .int)
def tX12_back : hTb := [(0, .aload_n 0, 1, 1), (1, .getfield 210, 3, 4), (4, .ifCond .ne 5, 3, 7), (7, .iconst (-1), 1, 8), (8, .ireturn, 1, 9), (9, .iconst 0, 1, 10), (10, .istore_n 1, 1, 11), (11, .iload_n 1, 1, 12), (12, .sipush 232, 3, 15), (15, .if_icmp .ge 21, 3, 18), (18, .aload_n 0, 1, 19), (19, .getfield 37, 3, 22), (22, .iload_n 1, 1, 23), (23, .aload_n 0, 1, 24), (24, .getfield 76, 3, 27), (27, .iload_n 1, 1, 28), (28, .iaload, 1, 29), (29, .iastore, 1, 30), (30, .iinc 1 1, 3, 33), (33, .goto (-22), 3, 36), (36, .aload_n 0, 1, 37), (37, .iconst 0, 1, 38), (38, .putfield 207, 3, 41), (41, .aload_n 0, 1, 42), (42, .getfield 37, 3, 45), (45, .bipush 18, 2, 47), (47, .iaload, 1, 48), (48, .ireturn, 1, 49)]
theorem ktX12_back : TbOK mX12_back tX12_back := by
  unfold TbOK
  decide +kernel
theorem kdX12_back (k : Nat) {pc : Nat} {i : Instr} {len nx : Nat} (hk : tX12_back[k]? = some (pc, i, len, nx)) : Dc mX12_back pc i len nx := dc_of ktX12_back k hk
theorem iX12_back : MiV mX12_back := ⟨⟨gdw_of (i := 2001) (by decide +kernel) (by decide +kernel), gdw_of (i := 124) (by decide +kernel) (by decide +kernel), by decide, by decide, by decide⟩, gdw_of (i := 1999) (by decide +kernel) (by decide +kernel), gdw_of (i := 2000) (by decide +kernel) (by decide +kernel)⟩
abbrev mX12_count : hMt := (yX12_count, cX12_count, 2, some .int)
def tX12_count : hTb := [(0, .iload_n 1, 1, 1), (1, .tableswitch 84 0 6 #[43, 48, 53, 58, 66, 71, 79], 43, 44), (44, .aload_n 0, 1, 45), (45, .invokevirtual 213, 3, 48), (48, .ireturn, 1, 49), (49, .aload_n 0, 1, 50), (50, .getfield 219, 3, 53), (53, .ireturn, 1, 54), (54, .aload_n 0, 1, 55), (55, .getfield 86, 3, 58), (58, .ireturn, 1, 59), (59, .aload_n 0, 1, 60), (60, .getfield 37, 3, 63), (63, .bipush 18, 2, 65), (65, .iaload, 1, 66), (66, .ireturn, 1, 67), (67, .aload_n 0, 1, 68), (68, .getfield 43, 3, 71), (71, .ireturn, 1, 72), (72, .aload_n 0, 1, 73), (73, .getfield 37, 3, 76), (76, .bipush 51, 2, 78), (78, .iaload, 1, 79), (79, .ireturn, 1, 80), (80, .aload_n 0, 1, 81), (81, .getfield 207, 3, 84), (84, .ireturn, 1, 85), (85, .ldc 50, 2, 87), (87, .ireturn, 1, 88)]
theorem ktX12_count : TbOK mX12_count tX12_count := by
  unfold TbOK
  decide +kernel
theorem kdX12_count (k : Nat) {pc : Nat} {i : Instr} {len nx : Nat} (hk : tX12_count[k]? = some (pc, i, len, nx)) : Dc mX12_count pc i len nx := dc_of ktX12_count k hk
theorem iX12_count : MiV mX12_count := ⟨⟨gdw_of (i := 2005) (by decide +kernel) (by decide +kernel), gdw_of (i := 124) (by decide +kernel) (by decide +kernel), by decide, by decide, by decide⟩, gdw_of (i := 2003) (by decide +kernel) (by decide +kernel), gdw_of (i := 2004) (by decide +kernel) (by decide +kernel)⟩
def bJX12_image_11 (K11 : Int32 → hM → hR) (K36 : hM → hR) (v1 : Int32) (m : hM) : hR :=
  if 232 ≤ v1 then (K36 m) else (ald m 50 0 v1 fun x1 =>
  ast m 59 0 v1 x1 fun m2 =>
  K11 (v1 + 1) m2)
set_option maxRecDepth 20000 in
theorem BbJX12_image_11 (K11 : Int32 → hM → hR) (K36 : hM → hR) (h11 : ∀ (v1 : Int32) (m : hM), G mX12_image 0 11 [(0, .inr (.inr (40, 0))), (1, .inl v1)] [] m (K11 v1 m)) (h36 : ∀ (m : hM), G mX12_image 0 36 [(0, .inr (.inr (40, 0)))] [] m (K36 m)) (v1 : Int32) (m : hM) : G mX12_image 0 11 [(0, .inr (.inr (40, 0))), (1, .inl v1)] [] m (bJX12_image_11 K11 K36 v1 m) := by
  unfold bJX12_image_11
  refine g_iload_n 1 (kdX12_image 7 rfl) rfl ?_
  refine g_sipush (v := 232) (kdX12_image 8 rfl) (by decide) ?_
  refine g_icmp_ge (tgt := 36) (kdX12_image 9 rfl) (by decide) (fun _ => ?_) (fun _ => ?_)
  · exact g_fgt [0] rfl (h36 m)
  · refine g_aload_n 0 (kdX12_image 10 rfl) rfl ?_
    refine g_get (v := .inr (.inr (59, 0))) (kdX12_image 11 rfl) fX12_76 rfl ?_
    refine g_iload_n 1 (kdX12_image 12 rfl) rfl ?_
    refine g_aload_n 0 (kdX12_image 13 rfl) rfl ?_
    refine g_get (v := .inr (.inr (50, 0))) (kdX12_image 14 rfl) fX12_37 rfl ?_
    refine g_iload_n 1 (kdX12_image 15 rfl) rfl ?_
    refine g_iald (kdX12_image 16 rfl) (fun x1 => ?_)
    refine g_iast (kdX12_image 17 rfl) (fun m2 => ?_)
    refine g_iinc (v := v1 + 1) (L2 := [(1, .inl (v1 + 1)), (0, .inr (.inr (40, 0)))]) 1 (kdX12_image 18 rfl) rfl rfl rfl (by decide) ?_
    refine g_goto (tgt := 11) (kdX12_image 19 rfl) (by decide) ?_
    exact g_fgt [1, 0] rfl (h11 (v1 + 1) m2)
def JX12_image_11 (K36 : hM → hR) : Nat → Int32 → hM → hR
  | 0, _, _ => none
  | f + 1, v1, m => bJX12_image_11 (fun v1 m => JX12_image_11 K36  f v1 m) K36  v1 m
theorem BJX12_image_11 (K36 : hM → hR) (h36 : ∀ (m : hM), G mX12_image 0 36 [(0, .inr (.inr (40, 0)))] [] m (K36 m)) : ∀ (f : Nat) (v1 : Int32) (m : hM), G mX12_image 0 11 [(0, .inr (.inr (40, 0))), (1, .inl v1)] [] m (JX12_image_11 K36  f v1 m)
  | 0, _, _ => g_none
  | f + 1, v1, m => BbJX12_image_11  _ K36  (fun v1 m => BJX12_image_11  K36  h36 f v1 m) h36 v1 m
def JX12_image  (m : hM) : hR :=
  if (m.1 40 0 15) = 0 then (some (some (.inl (-1)), m)) else (JX12_image_11 (fun m3 => stZ m3 40 0 39 1 fun m4 =>
  ald m4 50 0 18 fun x5 =>
  some (some (.inl x5), m4))  FU 0 m)
set_option maxRecDepth 20000 in
theorem CX12_image  (m : hM) : Cn mX12_image 0 [.inr (.inr (40, 0))] m (JX12_image  m) := by
  refine cn_of (by decide +kernel) (by simp only [List.map, vcat, List.sum_cons, List.sum_nil]; decide) ?_
  unfold JX12_image
  show G mX12_image 0 0 [(0, .inr (.inr (40, 0)))] [] m _
  refine g_aload_n 0 (kdX12_image 0 rfl) rfl ?_
  refine g_get (v := .inl (m.1 40 0 15)) (kdX12_image 1 rfl) fX12_203 rfl ?_
  refine g_if_ne (tgt := 9) (kdX12_image 2 rfl) (by decide) (fun _ => ?_) (fun _ => ?_)
  · refine g_iconst (v := 0) (kdX12_image 5 rfl) (by decide) ?_
    refine g_istore_n (L2 := [(1, .inl 0), (0, .inr (.inr (40, 0)))]) (kdX12_image 6 rfl) rfl (by decide) ?_
    refine g_fgt [1, 0] rfl (BJX12_image_11  _  ?_ FU 0 m)
    · intro m3
      refine g_aload_n 0 (kdX12_image 20 rfl) rfl ?_
      refine g_iconst (v := 1) (kdX12_image 21 rfl) (by decide) ?_
      refine g_putZ (kdX12_image 22 rfl) fX12_210 rfl (fun m4 => ?_)
      refine g_aload_n 0 (kdX12_image 23 rfl) rfl ?_
      refine g_get (v := .inr (.inr (50, 0))) (kdX12_image 24 rfl) fX12_37 rfl ?_
      refine g_bipush (v := 18) (kdX12_image 25 rfl) (by decide) ?_
      refine g_iald (kdX12_image 26 rfl) (fun x5 => ?_)
      exact g_iret rfl (kdX12_image 27 rfl)
  · refine g_iconst (v := (-1)) (kdX12_image 3 rfl) (by decide) ?_
    exact g_iret rfl (kdX12_image 4 rfl)
def bJX12_back_11 (K11 : Int32 → hM → hR) (K36 : hM → hR) (v1 : Int32) (m : hM) : hR :=
  if 232 ≤ v1 then (K36 m) else (ald m 59 0 v1 fun x1 =>
  ast m 50 0 v1 x1 fun m2 =>
  K11 (v1 + 1) m2)
set_option maxRecDepth 20000 in
theorem BbJX12_back_11 (K11 : Int32 → hM → hR) (K36 : hM → hR) (h11 : ∀ (v1 : Int32) (m : hM), G mX12_back 0 11 [(0, .inr (.inr (40, 0))), (1, .inl v1)] [] m (K11 v1 m)) (h36 : ∀ (m : hM), G mX12_back 0 36 [(0, .inr (.inr (40, 0)))] [] m (K36 m)) (v1 : Int32) (m : hM) : G mX12_back 0 11 [(0, .inr (.inr (40, 0))), (1, .inl v1)] [] m (bJX12_back_11 K11 K36 v1 m) := by
  unfold bJX12_back_11
  refine g_iload_n 1 (kdX12_back 7 rfl) rfl ?_
  refine g_sipush (v := 232) (kdX12_back 8 rfl) (by decide) ?_
  refine g_icmp_ge (tgt := 36) (kdX12_back 9 rfl) (by decide) (fun _ => ?_) (fun _ => ?_)
  · exact g_fgt [0] rfl (h36 m)
  · refine g_aload_n 0 (kdX12_back 10 rfl) rfl ?_
    refine g_get (v := .inr (.inr (50, 0))) (kdX12_back 11 rfl) fX12_37 rfl ?_
    refine g_iload_n 1 (kdX12_back 12 rfl) rfl ?_
    refine g_aload_n 0 (kdX12_back 13 rfl) rfl ?_
    refine g_get (v := .inr (.inr (59, 0))) (kdX12_back 14 rfl) fX12_76 rfl ?_
    refine g_iload_n 1 (kdX12_back 15 rfl) rfl ?_
    refine g_iald (kdX12_back 16 rfl) (fun x1 => ?_)
    refine g_iast (kdX12_back 17 rfl) (fun m2 => ?_)
    refine g_iinc (v := v1 + 1) (L2 := [(1, .inl (v1 + 1)), (0, .inr (.inr (40, 0)))]) 1 (kdX12_back 18 rfl) rfl rfl rfl (by decide) ?_
    refine g_goto (tgt := 11) (kdX12_back 19 rfl) (by decide) ?_
    exact g_fgt [1, 0] rfl (h11 (v1 + 1) m2)
def JX12_back_11 (K36 : hM → hR) : Nat → Int32 → hM → hR
  | 0, _, _ => none
  | f + 1, v1, m => bJX12_back_11 (fun v1 m => JX12_back_11 K36  f v1 m) K36  v1 m
theorem BJX12_back_11 (K36 : hM → hR) (h36 : ∀ (m : hM), G mX12_back 0 36 [(0, .inr (.inr (40, 0)))] [] m (K36 m)) : ∀ (f : Nat) (v1 : Int32) (m : hM), G mX12_back 0 11 [(0, .inr (.inr (40, 0))), (1, .inl v1)] [] m (JX12_back_11 K36  f v1 m)
  | 0, _, _ => g_none
  | f + 1, v1, m => BbJX12_back_11  _ K36  (fun v1 m => BJX12_back_11  K36  h36 f v1 m) h36 v1 m
def JX12_back  (m : hM) : hR :=
  if (m.1 40 0 39) = 0 then (some (some (.inl (-1)), m)) else (JX12_back_11 (fun m3 => stI m3 40 0 28 0 fun m4 =>
  ald m4 50 0 18 fun x5 =>
  some (some (.inl x5), m4))  FU 0 m)
set_option maxRecDepth 20000 in
theorem CX12_back  (m : hM) : Cn mX12_back 0 [.inr (.inr (40, 0))] m (JX12_back  m) := by
  refine cn_of (by decide +kernel) (by simp only [List.map, vcat, List.sum_cons, List.sum_nil]; decide) ?_
  unfold JX12_back
  show G mX12_back 0 0 [(0, .inr (.inr (40, 0)))] [] m _
  refine g_aload_n 0 (kdX12_back 0 rfl) rfl ?_
  refine g_get (v := .inl (m.1 40 0 39)) (kdX12_back 1 rfl) fX12_210 rfl ?_
  refine g_if_ne (tgt := 9) (kdX12_back 2 rfl) (by decide) (fun _ => ?_) (fun _ => ?_)
  · refine g_iconst (v := 0) (kdX12_back 5 rfl) (by decide) ?_
    refine g_istore_n (L2 := [(1, .inl 0), (0, .inr (.inr (40, 0)))]) (kdX12_back 6 rfl) rfl (by decide) ?_
    refine g_fgt [1, 0] rfl (BJX12_back_11  _  ?_ FU 0 m)
    · intro m3
      refine g_aload_n 0 (kdX12_back 20 rfl) rfl ?_
      refine g_iconst (v := 0) (kdX12_back 21 rfl) (by decide) ?_
      refine g_putI (kdX12_back 22 rfl) fX12_207 rfl (fun m4 => ?_)
      refine g_aload_n 0 (kdX12_back 23 rfl) rfl ?_
      refine g_get (v := .inr (.inr (50, 0))) (kdX12_back 24 rfl) fX12_37 rfl ?_
      refine g_bipush (v := 18) (kdX12_back 25 rfl) (by decide) ?_
      refine g_iald (kdX12_back 26 rfl) (fun x5 => ?_)
      exact g_iret rfl (kdX12_back 27 rfl)
  · refine g_iconst (v := (-1)) (kdX12_back 3 rfl) (by decide) ?_
    exact g_iret rfl (kdX12_back 4 rfl)
def JX12_count (a1 : Int32) (m : hM) : hR :=
  swL a1 [(0, calI (JX12_taps m) fun x2 m1 =>
  some (some (.inl x2), m1)), (1, some (some (.inl (m.1 40 0 18)), m)), (2, some (some (.inl (m.1 40 0 2)), m)), (3, ald m 50 0 18 fun x3 =>
  some (some (.inl x3), m)), (4, some (some (.inl (m.1 40 0 21)), m)), (5, ald m 50 0 51 fun x4 =>
  some (some (.inl x4), m)), (6, some (some (.inl (m.1 40 0 28)), m))] (some (some (.inl (-1000000000)), m))
set_option maxRecDepth 20000 in
theorem CX12_count (a1 : Int32) (m : hM) : Cn mX12_count 1 [.inr (.inr (40, 0)), .inl a1] m (JX12_count a1 m) := by
  refine cn_of (by decide +kernel) (by simp only [List.map, vcat, List.sum_cons, List.sum_nil]; decide) ?_
  unfold JX12_count
  show G mX12_count 1 0 [(0, .inr (.inr (40, 0))), (1, .inl a1)] [] m _
  refine g_iload_n 1 (kdX12_count 0 rfl) rfl ?_
  refine g_table (offs := [43, 48, 53, 58, 66, 71, 79]) (dt := 85) (kdX12_count 1 rfl) (by simp only [swK]; decide) rfl (by decide) ⟨⟨44, by decide, ?_⟩, ⟨49, by decide, ?_⟩, ⟨54, by decide, ?_⟩, ⟨59, by decide, ?_⟩, ⟨67, by decide, ?_⟩, ⟨72, by decide, ?_⟩, ⟨80, by decide, ?_⟩, trivial⟩ ?_
  · refine g_aload_n 0 (kdX12_count 2 rfl) rfl ?_
    refine g_calI (ck_V (As := []) (S := []) (t := 40) (o := 0) (kdX12_count 3 rfl) iX12_taps lX12_213 rc_40 rfl rfl rfl (by decide) (by simp only [List.map, vcat, List.sum_cons, List.sum_nil]; decide)) (CX12_taps m) (fun x2 m1 => ?_)
    exact g_iret rfl (kdX12_count 4 rfl)
  · refine g_aload_n 0 (kdX12_count 5 rfl) rfl ?_
    refine g_get (v := .inl (m.1 40 0 18)) (kdX12_count 6 rfl) fX12_219 rfl ?_
    exact g_iret rfl (kdX12_count 7 rfl)
  · refine g_aload_n 0 (kdX12_count 8 rfl) rfl ?_
    refine g_get (v := .inl (m.1 40 0 2)) (kdX12_count 9 rfl) fX12_86 rfl ?_
    exact g_iret rfl (kdX12_count 10 rfl)
  · refine g_aload_n 0 (kdX12_count 11 rfl) rfl ?_
    refine g_get (v := .inr (.inr (50, 0))) (kdX12_count 12 rfl) fX12_37 rfl ?_
    refine g_bipush (v := 18) (kdX12_count 13 rfl) (by decide) ?_
    refine g_iald (kdX12_count 14 rfl) (fun x3 => ?_)
    exact g_iret rfl (kdX12_count 15 rfl)
  · refine g_aload_n 0 (kdX12_count 16 rfl) rfl ?_
    refine g_get (v := .inl (m.1 40 0 21)) (kdX12_count 17 rfl) fX12_43 rfl ?_
    exact g_iret rfl (kdX12_count 18 rfl)
  · refine g_aload_n 0 (kdX12_count 19 rfl) rfl ?_
    refine g_get (v := .inr (.inr (50, 0))) (kdX12_count 20 rfl) fX12_37 rfl ?_
    refine g_bipush (v := 51) (kdX12_count 21 rfl) (by decide) ?_
    refine g_iald (kdX12_count 22 rfl) (fun x4 => ?_)
    exact g_iret rfl (kdX12_count 23 rfl)
  · refine g_aload_n 0 (kdX12_count 24 rfl) rfl ?_
    refine g_get (v := .inl (m.1 40 0 28)) (kdX12_count 25 rfl) fX12_207 rfl ?_
    exact g_iret rfl (kdX12_count 26 rfl)
  · refine g_ldc (kdX12_count 27 rfl) cX12_50 ?_
    exact g_iret rfl (kdX12_count 28 rfl)
