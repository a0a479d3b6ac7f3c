abbrev mX11_tap : hMt := (yX11_tap, cX11_tap, 3, some .int)
def tX11_tap : hTb := [(0, .aload_n 0, 1, 1), (1, .iload_n 1, 1, 2), (2, .invokevirtual 131, 3, 5), (5, .ifCond .eq 12, 3, 8), (8, .iload_n 2, 1, 9), (9, .iconst 0, 1, 10), (10, .iconst 1, 1, 11), (11, .invokestatic 110, 3, 14), (14, .ifCond .ne 11, 3, 17), (17, .new 134, 3, 20), (20, .dup, 1, 21), (21, .invokespecial 136, 3, 24), (24, .athrow, 1, 25), (25, .iload_n 2, 1, 26), (26, .ifCond .ne 15, 3, 29), (29, .aload_n 0, 1, 30), (30, .getfield 32, 3, 33), (33, .getfield 137, 3, 36), (36, .iload_n 1, 1, 37), (37, .iaload, 1, 38), (38, .goto 12, 3, 41), (41, .aload_n 0, 1, 42), (42, .getfield 32, 3, 45), (45, .getfield 140, 3, 48), (48, .iload_n 1, 1, 49), (49, .iaload, 1, 50), (50, .ireturn, 1, 51)]
theorem ktX11_tap : TbOK mX11_tap tX11_tap := by
  unfold TbOK
  decide +kernel
theorem kdX11_tap (k : Nat) {pc : Nat} {i : Instr} {len nx : Nat} (hk : tX11_tap[k]? = some (pc, i, len, nx)) : Dc mX11_tap pc i len nx := dc_of ktX11_tap k hk
theorem iX11_tap : MiV mX11_tap := ⟨⟨gdw_of (i := 1356) (by decide +kernel) (by decide +kernel), gdw_of (i := 113) (by decide +kernel) (by decide +kernel), by decide, by decide, by decide⟩, gdw_of (i := 1354) (by decide +kernel) (by decide +kernel), gdw_of (i := 1355) (by decide +kernel) (by decide +kernel)⟩
def JX11_tap (a1 : Int32) (a2 : Int32) (m : hM) : hR :=
  calI (JX11_isTap a1 m) fun x2 m1 =>
  if x2 = 0 then (none) else (calI (JX11_within a2 0 1 m1) fun x4 m3 =>
  if x4 = 0 then (none) else (if a2 = 0 then (ald m3 13 40 a1 fun x6 =>
  some (some (.inl x6), m3)) else (ald m3 14 40 a1 fun x5 =>
  some (some (.inl x5), m3))))
set_option maxRecDepth 20000 in
theorem CX11_tap (a1 : Int32) (a2 : Int32) (m : hM) : Cn mX11_tap 3 [.inr (.inr (0, 0)), .inl a1, .inl a2] m (JX11_tap a1 a2 m) := by
  refine cn_of (by decide +kernel) (by simp only [List.map, vcat, List.sum_cons, List.sum_nil]; decide) ?_
  unfold JX11_tap
  show G mX11_tap 3 0 [(0, .inr (.inr (0, 0))), (1, .inl a1), (2, .inl a2)] [] m _
  refine g_aload_n 0 (kdX11_tap 0 rfl) rfl ?_
  refine g_iload_n 1 (kdX11_tap 1 rfl) rfl ?_
  refine g_calI (ck_V (As := [.inl a1]) (S := []) (t := 0) (o := 0) (kdX11_tap 2 rfl) iX11_isTap lX11_131 rc_0 rfl rfl rfl (by decide) (by simp only [List.map, vcat, List.sum_cons, List.sum_nil]; decide)) (CX11_isTap a1 m) (fun x2 m1 => ?_)
  refine g_if_eq (tgt := 17) (kdX11_tap 3 rfl) (by decide) (fun _ => ?_) (fun _ => ?_)
  · exact g_none
  · refine g_iload_n 2 (kdX11_tap 4 rfl) rfl ?_
    refine g_iconst (v := 0) (kdX11_tap 5 rfl) (by decide) ?_
    refine g_iconst (v := 1) (kdX11_tap 6 rfl) (by decide) ?_
    refine g_calI (ck_S (As := [.inl a2, .inl 0, .inl 1]) (S := []) (kdX11_tap 7 rfl) iX11_within lX11_110 rfl rfl rfl (by decide) (by simp only [List.map, vcat, List.sum_cons, List.sum_nil]; decide)) (CX11_within a2 0 1 m1) (fun x4 m3 => ?_)
    refine g_if_ne (tgt := 25) (kdX11_tap 8 rfl) (by decide) (fun _ => ?_) (fun _ => ?_)
    · refine g_iload_n 2 (kdX11_tap 13 rfl) rfl ?_
      refine g_if_ne (tgt := 41) (kdX11_tap 14 rfl) (by decide) (fun _ => ?_) (fun _ => ?_)
      · refine g_aload_n 0 (kdX11_tap 21 rfl) rfl ?_
        refine g_get (v := .inr (.inr (12, 40))) (kdX11_tap 22 rfl) fX11_32 rfl ?_
        refine g_get (v := .inr (.inr (14, 40))) (kdX11_tap 23 rfl) fX11_140 rfl ?_
        refine g_iload_n 1 (kdX11_tap 24 rfl) rfl ?_
        refine g_iald (kdX11_tap 25 rfl) (fun x5 => ?_)
        exact g_iret rfl (kdX11_tap 26 rfl)
      · refine g_aload_n 0 (kdX11_tap 15 rfl) rfl ?_
        refine g_get (v := .inr (.inr (12, 40))) (kdX11_tap 16 rfl) fX11_32 rfl ?_
        refine g_get (v := .inr (.inr (13, 40))) (kdX11_tap 17 rfl) fX11_137 rfl ?_
        refine g_iload_n 1 (kdX11_tap 18 rfl) rfl ?_
        refine g_iald (kdX11_tap 19 rfl) (fun x6 => ?_)
        refine g_goto (tgt := 50) (kdX11_tap 20 rfl) (by decide) ?_
        exact g_iret rfl (kdX11_tap 26 rfl)
    · exact g_none
