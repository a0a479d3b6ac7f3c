/-! the constructors with loops, by program -/
abbrev mX0_init : hMt := (yX0_init, cX0_init, 2, none)
def tX0_init : hTb := [(0, .aload_n 0, 1, 1), (1, .invokespecial 3, 3, 4), (4, .aload_n 0, 1, 5), (5, .iconst 4, 1, 6), (6, .anewarray 11, 3, 9), (9, .putfield 13, 3, 12), (12, .aload_n 0, 1, 13), (13, .sipush 1398, 3, 16), (16, .newarray .int, 2, 18), (18, .putfield 17, 3, 21), (21, .iconst 0, 1, 22), (22, .istore_n 1, 1, 23), (23, .iload_n 1, 1, 24), (24, .iconst 4, 1, 25), (25, .if_icmp .ge 22, 3, 28), (28, .aload_n 0, 1, 29), (29, .getfield 13, 3, 32), (32, .iload_n 1, 1, 33), (33, .new 11, 3, 36), (36, .dup, 1, 37), (37, .invokespecial 21, 3, 40), (40, .aastore, 1, 41), (41, .iinc 1 1, 3, 44), (44, .goto (-21), 3, 47), (47, .return_, 1, 48)]
theorem ktX0_init : TbOK mX0_init tX0_init := by
  unfold TbOK
  decide +kernel
theorem kdX0_init (k : Nat) {pc : Nat} {i : Instr} {len nx : Nat} (hk : tX0_init[k]? = some (pc, i, len, nx)) : Dc mX0_init pc i len nx := dc_of ktX0_init k hk
theorem iX0_init : MiI mX0_init := ⟨⟨gdw_of (i := 454) (by decide +kernel) (by decide +kernel), gdw_of (i := 123) (by decide +kernel) (by decide +kernel), by decide, by decide, by decide⟩, gdw_of (i := 453) (by decide +kernel) (by decide +kernel), rfl, rfl⟩
theorem loX0 : Cond.methodLink RX0 3 objectInit ∈ gdw := gdw_of (i := 455) (by decide +kernel) (by decide +kernel)
theorem pX0_13 : Fc RX0 13 0 0 (tyX0 0) true := ⟨TX0, 2, tyX0, rfl, wdX0, tyX0_ok, nmX0, by decide, rfl, rfl, rfl, gdw_of (i := 458) (by decide +kernel) (by decide +kernel)⟩
theorem pX0_17 : Fc RX0 17 0 1 (tyX0 1) true := ⟨TX0, 2, tyX0, rfl, wdX0, tyX0_ok, nmX0, by decide, rfl, rfl, rfl, gdw_of (i := 459) (by decide +kernel) (by decide +kernel)⟩
theorem ncX0_11 : Nc RX0 11 7 blX8 := ⟨RX8, TX8, 18, tyX8, rfl, wdX8, tyX8_ok, gdw_of (i := 456) (by decide +kernel) (by decide +kernel), gdw_of (i := 226) (by decide +kernel) (by decide +kernel), gdw_of (i := 117) (by decide +kernel) (by decide +kernel), rfl, fun z j hj => match j, hj with | 0, _ => rfl | 1, _ => rfl | 2, _ => rfl | 3, _ => rfl | 4, _ => rfl | 5, _ => rfl | 6, _ => rfl | 7, _ => rfl | 8, _ => rfl | 9, _ => rfl | 10, _ => rfl | 11, _ => rfl | 12, _ => rfl | 13, _ => rfl | 14, _ => rfl | 15, _ => rfl | 16, _ => rfl | 17, _ => rfl | j + 18, hj => absurd hj (by omega)⟩
theorem lcX0_21 : Lk RX0 21 mX8_init := Or.inr (by decide +kernel)
def NX0_L (h : Nat) (K : List nE → nR) : Nat → Nat → List nE → nR
  | 0, _, _ => none
  | f + 1, i, cs => if 4 ≤ i then K cs else
  nget h 0 0 cs fun q29 =>
  ncal (NX8 cs.length (cs ++ [.inr (.inr (7, blX8))])) fun cs101 =>
  nast q29 i cs.length 2 7 cs101 fun cs102 =>
  NX0_L h K f (i + 1) cs102
set_option maxRecDepth 20000 in
theorem BNX0_L (h : Nat) (K : List nE → nR) (hK : ∀ cs, GN mX0_init 3 34 1642 34 1642 47 [(1, .inl (nI 4)), (0, .inr (.inr (some h)))] [] cs (K cs)) : ∀ f i cs, i ≤ 4 → GN mX0_init 3 34 1642 (2 + 8 * i) (1402 + 60 * i) 23 [(1, .inl (nI i)), (0, .inr (.inr (some h)))] [] cs (NX0_L h K f i cs) := by
  intro f
  induction f with
  | zero => intro i cs hi; exact n_none
  | succ f ih =>
    intro i cs hi
    show GN mX0_init 3 34 1642 (2 + 8 * i) (1402 + 60 * i) 23 [(1, .inl (nI i)), (0, .inr (.inr (some h)))] [] cs (if 4 ≤ i then K cs else _)
    by_cases c : 4 ≤ i
    · obtain rfl : i = 4 := by omega
      rw [if_pos c]
      refine n_iload_n 0 (kdX0_init 12 rfl) rfl ?_
      refine n_iconst (v := 4) (kdX0_init 13 rfl) (by decide) ?_
      refine n_icmp_ge (tgt := 47) (kdX0_init 14 rfl) (by decide) (fun _ => ?_) (fun z => absurd z (by decide))
      exact hK cs
    · rw [if_neg c]
      refine n_iload_n 0 (kdX0_init 12 rfl) rfl ?_
      refine n_iconst (v := 4) (kdX0_init 13 rfl) (by decide) ?_
      refine n_icmp_ge (tgt := 47) (kdX0_init 14 rfl) (by decide) (fun z => absurd z ?_) (fun _ => ?_)
      · exact nI_ge (b := 4) (show i < 4 by omega) (by decide)
      · refine n_aload_n 1 (kdX0_init 15 rfl) rfl ?_
        refine n_get (kdX0_init 16 rfl) pX0_13 (fun q29 => ?_)
        refine n_iload_n 0 (kdX0_init 17 rfl) rfl ?_
        refine n_new (fs := blX8) (kdX0_init 18 rfl) ncX0_11 (by omega) (by show _ + 18 ≤ _; omega) ?_
        refine n_dup (kdX0_init 19 rfl) ?_
        refine n_call (As := []) (S := [.inr (.inr (some cs.length)), .inl (nI i), .inr (.inr (some q29))]) (mc2 := 7) (ms2 := 42) (df := 2) (kdX0_init 20 rfl) iX8_init lcX0_21 rfl rfl rfl (by decide) (by omega) (by show _ + 18 + 42 ≤ _; omega) (fun _ => Nat.le_of_ble_eq_true rfl) (CNX8 cs.length (cs ++ [.inr (.inr (7, blX8))])) (fun cs101 => ?_)
        refine n_ast (i := i) (kk := 2) (ci := 7) (C := RX8) (kdX0_init 21 rfl) rfl (by omega) (fun _ => rfl) ⟨TX8, 18, rfl⟩ (fun cs102 => ?_)
        refine n_iinc (v := nI (i + 1)) (L2 := [(1, .inl (nI (i + 1))), (0, .inr (.inr (some h)))]) 0 (kdX0_init 22 rfl) rfl (nI_succ i).symm (fun _ => rfl) (by decide) ?_
        refine n_goto (tgt := 23) (kdX0_init 23 rfl) (by decide) ?_
        refine n_widen (k2 := 2 + 8 * (i + 1)) (n2 := 1402 + 60 * (i + 1)) (by omega) (by show _ + 18 + 42 ≤ _; omega) ?_
        exact ih (i + 1) _ (by omega)
def NX0 (h : Nat) (cs : List nE) : nR :=
  nput h 0 0 (.inr (.inr (some cs.length))) (cs ++ [.inr (.inl (2, List.replicate 4 none))]) fun cs1 =>
  nput h 1 0 (.inr (.inr (some cs1.length))) (cs1 ++ [.inl (0, 1398)]) fun cs2 =>
  NX0_L h (fun cs => some cs) 5 0 cs2
set_option maxRecDepth 20000 in
theorem CNX0 (h : Nat) (cs : List nE) : CN mX0_init 3 34 1642 [.inr (.inr (some h))] cs (NX0 h cs) := by
  refine cn_ofN (L0 := [(0, .inr (.inr (some h)))]) (by decide +kernel) rfl (fun _ => Nat.le_of_ble_eq_true rfl) (fun _ => rfl) ?_
  unfold NX0
  refine n_aload_n 0 (kdX0_init 0 rfl) rfl ?_
  refine n_objI (kdX0_init 1 rfl) loX0 oi_m oi_c (by decide) ?_
  refine n_aload_n 0 (kdX0_init 2 rfl) rfl ?_
  refine n_iconst (v := 4) (kdX0_init 3 rfl) (by decide) ?_
  refine n_anew (N := 4) (kk := 2) (C := "HuntedEye$State") (kdX0_init 4 rfl) (gdw_of (i := 456) (by decide +kernel) (by decide +kernel)) (fun s h => h.1) hra_S (by decide) (by decide) (by decide) (by decide) (by decide) ?_
  refine n_put (kdX0_init 5 rfl) pX0_13 (fun _ => rfl) (fun _ => rfl) (fun cs1 => ?_)
  refine n_aload_n 0 (kdX0_init 6 rfl) rfl ?_
  refine n_sipush (v := 1398) (kdX0_init 7 rfl) (by decide) ?_
  refine n_newaI (N := 1398) (kdX0_init 8 rfl) wA_int (by decide) (by decide) (by decide) (by decide) (by decide) ?_
  refine n_put (kdX0_init 9 rfl) pX0_17 (fun _ => rfl) (fun _ => rfl) (fun cs2 => ?_)
  refine n_iconst (v := 0) (kdX0_init 10 rfl) (by decide) ?_
  refine n_istore_n (L2 := [(1, .inl 0), (0, .inr (.inr (some h)))]) (kdX0_init 11 rfl) (fun _ => rfl) (by decide) ?_
  exact BNX0_L h _ (fun cs => n_vret rfl (kdX0_init 24 rfl)) 5 0 _ (by decide)
abbrev mX11_init : hMt := (yX11_init, cX11_init, 2, none)
def tX11_init : hTb := [(0, .aload_n 0, 1, 1), (1, .invokespecial 1, 3, 4), (4, .aload_n 0, 1, 5), (5, .new 7, 3, 8), (8, .dup, 1, 9), (9, .invokespecial 9, 3, 12), (12, .putfield 10, 3, 15), (15, .aload_n 0, 1, 16), (16, .new 16, 3, 19), (19, .dup, 1, 20), (20, .invokespecial 18, 3, 23), (23, .putfield 19, 3, 26), (26, .aload_n 0, 1, 27), (27, .iconst 4, 1, 28), (28, .anewarray 23, 3, 31), (31, .putfield 25, 3, 34), (34, .aload_n 0, 1, 35), (35, .new 29, 3, 38), (38, .dup, 1, 39), (39, .invokespecial 31, 3, 42), (42, .putfield 32, 3, 45), (45, .aload_n 0, 1, 46), (46, .bipush 40, 2, 48), (48, .anewarray 29, 3, 51), (51, .putfield 36, 3, 54), (54, .aload_n 0, 1, 55), (55, .new 40, 3, 58), (58, .dup, 1, 59), (59, .sipush 2460, 3, 62), (62, .invokespecial 42, 3, 65), (65, .putfield 45, 3, 68), (68, .aload_n 0, 1, 69), (69, .new 29, 3, 72), (72, .dup, 1, 73), (73, .invokespecial 31, 3, 76), (76, .putfield 49, 3, 79), (79, .aload_n 0, 1, 80), (80, .new 40, 3, 83), (83, .dup, 1, 84), (84, .bipush 60, 2, 86), (86, .invokespecial 42, 3, 89), (89, .putfield 52, 3, 92), (92, .aload_n 0, 1, 93), (93, .new 55, 3, 96), (96, .dup, 1, 97), (97, .invokespecial 57, 3, 100), (100, .putfield 58, 3, 103), (103, .aload_n 0, 1, 104), (104, .new 62, 3, 107), (107, .dup, 1, 108), (108, .invokespecial 64, 3, 111), (111, .putfield 65, 3, 114), (114, .aload_n 0, 1, 115), (115, .new 69, 3, 118), (118, .dup, 1, 119), (119, .invokespecial 71, 3, 122), (122, .putfield 72, 3, 125), (125, .aload_n 0, 1, 126), (126, .iconst 4, 1, 127), (127, .newarray .int, 2, 129), (129, .putfield 76, 3, 132), (132, .aload_n 0, 1, 133), (133, .iconst 3, 1, 134), (134, .putfield 80, 3, 137), (137, .iconst 0, 1, 138), (138, .istore_n 1, 1, 139), (139, .iload_n 1, 1, 140), (140, .iconst 4, 1, 141), (141, .if_icmp .ge 22, 3, 144), (144, .aload_n 0, 1, 145), (145, .getfield 25, 3, 148), (148, .iload_n 1, 1, 149), (149, .new 23, 3, 152), (152, .dup, 1, 153), (153, .invokespecial 84, 3, 156), (156, .aastore, 1, 157), (157, .iinc 1 1, 3, 160), (160, .goto (-21), 3, 163), (163, .iconst 0, 1, 164), (164, .istore_n 1, 1, 165), (165, .iload_n 1, 1, 166), (166, .bipush 40, 2, 168), (168, .if_icmp .ge 22, 3, 171), (171, .aload_n 0, 1, 172), (172, .getfield 36, 3, 175), (175, .iload_n 1, 1, 176), (176, .new 29, 3, 179), (179, .dup, 1, 180), (180, .invokespecial 31, 3, 183), (183, .aastore, 1, 184), (184, .iinc 1 1, 3, 187), (187, .goto (-22), 3, 190), (190, .return_, 1, 191)]
theorem ktX11_init : TbOK mX11_init tX11_init := by
  unfold TbOK
  decide +kernel
theorem kdX11_init (k : Nat) {pc : Nat} {i : Instr} {len nx : Nat} (hk : tX11_init[k]? = some (pc, i, len, nx)) : Dc mX11_init pc i len nx := dc_of ktX11_init k hk
theorem iX11_init : MiI mX11_init := ⟨⟨gdw_of (i := 141) (by decide +kernel) (by decide +kernel), gdw_of (i := 113) (by decide +kernel) (by decide +kernel), by decide, by decide, by decide⟩, gdw_of (i := 140) (by decide +kernel) (by decide +kernel), rfl, rfl⟩
theorem loX11 : Cond.methodLink RX11 1 objectInit ∈ gdw := gdw_of (i := 142) (by decide +kernel) (by decide +kernel)
theorem ncX11_7 : Nc RX11 7 5 blX6 := ⟨RX6, TX6, 8, tyX6, rfl, wdX6, tyX6_ok, gdw_of (i := 145) (by decide +kernel) (by decide +kernel), gdw_of (i := 146) (by decide +kernel) (by decide +kernel), gdw_of (i := 114) (by decide +kernel) (by decide +kernel), rfl, fun z j hj => match j, hj with | 0, _ => rfl | 1, _ => rfl | 2, _ => rfl | 3, _ => rfl | 4, _ => rfl | 5, _ => rfl | 6, _ => rfl | 7, _ => rfl | j + 8, hj => absurd hj (by omega)⟩
theorem lcX11_9 : Lk RX11 9 mX6_init := Or.inr (by decide +kernel)
theorem pX11_10 : Fc RX11 10 9 0 (tyX11 0) true := ⟨TX11, 18, tyX11, rfl, wdX11, tyX11_ok, nmX11, by decide, rfl, rfl, rfl, gdw_of (i := 466) (by decide +kernel) (by decide +kernel)⟩
theorem ncX11_16 : Nc RX11 16 3 blX4 := ⟨RX4, TX4, 3, tyX4, rfl, wdX4, tyX4_ok, gdw_of (i := 221) (by decide +kernel) (by decide +kernel), gdw_of (i := 152) (by decide +kernel) (by decide +kernel), gdw_of (i := 115) (by decide +kernel) (by decide +kernel), rfl, fun z j hj => match j, hj with | 0, _ => rfl | 1, _ => rfl | 2, _ => rfl | j + 3, hj => absurd hj (by omega)⟩
theorem lcX11_18 : Lk RX11 18 mX4_init := Or.inr (by decide +kernel)
theorem pX11_19 : Fc RX11 19 9 1 (tyX11 1) true := ⟨TX11, 18, tyX11, rfl, wdX11, tyX11_ok, nmX11, by decide, rfl, rfl, rfl, gdw_of (i := 467) (by decide +kernel) (by decide +kernel)⟩
theorem pX11_25 : Fc RX11 25 9 2 (tyX11 2) true := ⟨TX11, 18, tyX11, rfl, wdX11, tyX11_ok, nmX11, by decide, rfl, rfl, rfl, gdw_of (i := 468) (by decide +kernel) (by decide +kernel)⟩
theorem ncX11_29 : Nc RX11 29 7 blX8 := ⟨RX8, TX8, 18, tyX8, rfl, wdX8, tyX8_ok, gdw_of (i := 225) (by decide +kernel) (by decide +kernel), gdw_of (i := 226) (by decide +kernel) (by decide +kernel), gdw_of (i := 117) (by decide +kernel) (by decide +kernel), rfl, fun z j hj => match j, hj with | 0, _ => rfl | 1, _ => rfl | 2, _ => rfl | 3, _ => rfl | 4, _ => rfl | 5, _ => rfl | 6, _ => rfl | 7, _ => rfl | 8, _ => rfl | 9, _ => rfl | 10, _ => rfl | 11, _ => rfl | 12, _ => rfl | 13, _ => rfl | 14, _ => rfl | 15, _ => rfl | 16, _ => rfl | 17, _ => rfl | j + 18, hj => absurd hj (by omega)⟩
theorem lcX11_31 : Lk RX11 31 mX8_init := Or.inr (by decide +kernel)
theorem pX11_32 : Fc RX11 32 9 3 (tyX11 3) true := ⟨TX11, 18, tyX11, rfl, wdX11, tyX11_ok, nmX11, by decide, rfl, rfl, rfl, gdw_of (i := 469) (by decide +kernel) (by decide +kernel)⟩
theorem pX11_36 : Fc RX11 36 9 4 (tyX11 4) true := ⟨TX11, 18, tyX11, rfl, wdX11, tyX11_ok, nmX11, by decide, rfl, rfl, rfl, gdw_of (i := 470) (by decide +kernel) (by decide +kernel)⟩
theorem ncX11_40 : Nc RX11 40 4 blX5 := ⟨RX5, TX5, 3, tyX5, rfl, wdX5, tyX5_ok, gdw_of (i := 382) (by decide +kernel) (by decide +kernel), gdw_of (i := 383) (by decide +kernel) (by decide +kernel), gdw_of (i := 119) (by decide +kernel) (by decide +kernel), rfl, fun z j hj => match j, hj with | 0, _ => rfl | 1, _ => rfl | 2, _ => rfl | j + 3, hj => absurd hj (by omega)⟩
theorem lcX11_42 : Lk RX11 42 mX5_init := Or.inl (gdw_of (i := 384) (by decide +kernel) (by decide +kernel))
theorem pX11_45 : Fc RX11 45 9 5 (tyX11 5) true := ⟨TX11, 18, tyX11, rfl, wdX11, tyX11_ok, nmX11, by decide, rfl, rfl, rfl, gdw_of (i := 471) (by decide +kernel) (by decide +kernel)⟩
theorem pX11_49 : Fc RX11 49 9 6 (tyX11 6) true := ⟨TX11, 18, tyX11, rfl, wdX11, tyX11_ok, nmX11, by decide, rfl, rfl, rfl, gdw_of (i := 472) (by decide +kernel) (by decide +kernel)⟩
theorem pX11_52 : Fc RX11 52 9 7 (tyX11 7) true := ⟨TX11, 18, tyX11, rfl, wdX11, tyX11_ok, nmX11, by decide, rfl, rfl, rfl, gdw_of (i := 473) (by decide +kernel) (by decide +kernel)⟩
theorem ncX11_55 : Nc RX11 55 2 blX3 := ⟨RX3, TX3, 5, tyX3, rfl, wdX3, tyX3_ok, gdw_of (i := 401) (by decide +kernel) (by decide +kernel), gdw_of (i := 402) (by decide +kernel) (by decide +kernel), gdw_of (i := 121) (by decide +kernel) (by decide +kernel), rfl, fun z j hj => match j, hj with | 0, _ => rfl | 1, _ => rfl | 2, _ => rfl | 3, _ => rfl | 4, _ => rfl | j + 5, hj => absurd hj (by omega)⟩
theorem lcX11_57 : Lk RX11 57 mX3_init := Or.inr (by decide +kernel)
theorem pX11_58 : Fc RX11 58 9 8 (tyX11 8) true := ⟨TX11, 18, tyX11, rfl, wdX11, tyX11_ok, nmX11, by decide, rfl, rfl, rfl, gdw_of (i := 474) (by decide +kernel) (by decide +kernel)⟩
theorem ncX11_62 : Nc RX11 62 1 blX1 := ⟨RX1, TX1, 6, tyX1, rfl, wdX1, tyX1_ok, gdw_of (i := 425) (by decide +kernel) (by decide +kernel), gdw_of (i := 426) (by decide +kernel) (by decide +kernel), gdw_of (i := 122) (by decide +kernel) (by decide +kernel), rfl, fun z j hj => match j, hj with | 0, _ => rfl | 1, _ => rfl | 2, _ => rfl | 3, _ => rfl | 4, _ => rfl | 5, _ => rfl | j + 6, hj => absurd hj (by omega)⟩
theorem lcX11_64 : Lk RX11 64 mX1_init := Or.inr (by decide +kernel)
theorem pX11_65 : Fc RX11 65 9 9 (tyX11 9) true := ⟨TX11, 18, tyX11, rfl, wdX11, tyX11_ok, nmX11, by decide, rfl, rfl, rfl, gdw_of (i := 475) (by decide +kernel) (by decide +kernel)⟩
theorem ncX11_69 : Nc RX11 69 0 blX0 := ⟨RX0, TX0, 2, tyX0, rfl, wdX0, tyX0_ok, gdw_of (i := 450) (by decide +kernel) (by decide +kernel), gdw_of (i := 451) (by decide +kernel) (by decide +kernel), gdw_of (i := 123) (by decide +kernel) (by decide +kernel), rfl, fun z j hj => match j, hj with | 0, _ => rfl | 1, _ => rfl | j + 2, hj => absurd hj (by omega)⟩
theorem lcX11_71 : Lk RX11 71 mX0_init := Or.inl (gdw_of (i := 452) (by decide +kernel) (by decide +kernel))
theorem pX11_72 : Fc RX11 72 9 10 (tyX11 10) true := ⟨TX11, 18, tyX11, rfl, wdX11, tyX11_ok, nmX11, by decide, rfl, rfl, rfl, gdw_of (i := 476) (by decide +kernel) (by decide +kernel)⟩
theorem pX11_76 : Fc RX11 76 9 11 (tyX11 11) true := ⟨TX11, 18, tyX11, rfl, wdX11, tyX11_ok, nmX11, by decide, rfl, rfl, rfl, gdw_of (i := 477) (by decide +kernel) (by decide +kernel)⟩
theorem pX11_80 : Fc RX11 80 9 17 .int false := ⟨TX11, 18, tyX11, rfl, wdX11, tyX11_ok, nmX11, by decide, rfl, rfl, rfl, gdw_of (i := 483) (by decide +kernel) (by decide +kernel)⟩
theorem ncX11_23 : Nc RX11 23 6 blX7 := ⟨RX7, TX7, 4, tyX7, rfl, wdX7, tyX7_ok, gdw_of (i := 223) (by decide +kernel) (by decide +kernel), gdw_of (i := 170) (by decide +kernel) (by decide +kernel), gdw_of (i := 116) (by decide +kernel) (by decide +kernel), rfl, fun z j hj => match j, hj with | 0, _ => rfl | 1, _ => rfl | 2, _ => rfl | 3, _ => rfl | j + 4, hj => absurd hj (by omega)⟩
theorem lcX11_84 : Lk RX11 84 mX7_init := Or.inr (by decide +kernel)
def NX11_L (h : Nat) (K : List nE → nR) : Nat → Nat → List nE → nR
  | 0, _, _ => none
  | f + 1, i, cs => if 4 ≤ i then K cs else
  nget h 2 9 cs fun q145 =>
  ncal (NX7 cs.length (cs ++ [.inr (.inr (6, blX7))])) fun cs101 =>
  nast q145 i cs.length 3 6 cs101 fun cs102 =>
  NX11_L h K f (i + 1) cs102
set_option maxRecDepth 20000 in
theorem BNX11_L (h : Nat) (K : List nE → nR) (hK : ∀ cs, GN mX11_init 4 423 14598 103 12198 163 [(1, .inl (nI 4)), (0, .inr (.inr (some h)))] [] cs (K cs)) : ∀ f i cs, i ≤ 4 → GN mX11_init 4 423 14598 (87 + 4 * i) (12038 + 40 * i) 139 [(1, .inl (nI i)), (0, .inr (.inr (some h)))] [] cs (NX11_L h K f i cs) := by
  intro f
  induction f with
  | zero => intro i cs hi; exact n_none
  | succ f ih =>
    intro i cs hi
    show GN mX11_init 4 423 14598 (87 + 4 * i) (12038 + 40 * i) 139 [(1, .inl (nI i)), (0, .inr (.inr (some h)))] [] cs (if 4 ≤ i then K cs else _)
    by_cases c : 4 ≤ i
    · obtain rfl : i = 4 := by omega
      rw [if_pos c]
      refine n_iload_n 0 (kdX11_init 66 rfl) rfl ?_
      refine n_iconst (v := 4) (kdX11_init 67 rfl) (by decide) ?_
      refine n_icmp_ge (tgt := 163) (kdX11_init 68 rfl) (by decide) (fun _ => ?_) (fun z => absurd z (by decide))
      exact hK cs
    · rw [if_neg c]
      refine n_iload_n 0 (kdX11_init 66 rfl) rfl ?_
      refine n_iconst (v := 4) (kdX11_init 67 rfl) (by decide) ?_
      refine n_icmp_ge (tgt := 163) (kdX11_init 68 rfl) (by decide) (fun z => absurd z ?_) (fun _ => ?_)
      · exact nI_ge (b := 4) (show i < 4 by omega) (by decide)
      · refine n_aload_n 1 (kdX11_init 69 rfl) rfl ?_
        refine n_get (kdX11_init 70 rfl) pX11_25 (fun q145 => ?_)
        refine n_iload_n 0 (kdX11_init 71 rfl) rfl ?_
        refine n_new (fs := blX7) (kdX11_init 72 rfl) ncX11_23 (by omega) (by show _ + 4 ≤ _; omega) ?_
        refine n_dup (kdX11_init 73 rfl) ?_
        refine n_call (As := []) (S := [.inr (.inr (some cs.length)), .inl (nI i), .inr (.inr (some q145))]) (mc2 := 3) (ms2 := 36) (df := 1) (kdX11_init 74 rfl) iX7_init lcX11_84 rfl rfl rfl (by decide) (by omega) (by show _ + 4 + 36 ≤ _; omega) (fun _ => Nat.le_of_ble_eq_true rfl) (CNX7 cs.length (cs ++ [.inr (.inr (6, blX7))])) (fun cs101 => ?_)
        refine n_ast (i := i) (kk := 3) (ci := 6) (C := RX7) (kdX11_init 75 rfl) rfl (by omega) (fun _ => rfl) ⟨TX7, 4, rfl⟩ (fun cs102 => ?_)
        refine n_iinc (v := nI (i + 1)) (L2 := [(1, .inl (nI (i + 1))), (0, .inr (.inr (some h)))]) 0 (kdX11_init 76 rfl) rfl (nI_succ i).symm (fun _ => rfl) (by decide) ?_
        refine n_goto (tgt := 139) (kdX11_init 77 rfl) (by decide) ?_
        refine n_widen (k2 := 87 + 4 * (i + 1)) (n2 := 12038 + 40 * (i + 1)) (by omega) (by show _ + 4 + 36 ≤ _; omega) ?_
        exact ih (i + 1) _ (by omega)
def NX11_M (h : Nat) (K : List nE → nR) : Nat → Nat → List nE → nR
  | 0, _, _ => none
  | f + 1, i, cs => if 40 ≤ i then K cs else
  nget h 4 9 cs fun q172 =>
  ncal (NX8 cs.length (cs ++ [.inr (.inr (7, blX8))])) fun cs101 =>
  nast q172 i cs.length 2 7 cs101 fun cs102 =>
  NX11_M h K f (i + 1) cs102
set_option maxRecDepth 20000 in
theorem BNX11_M (h : Nat) (K : List nE → nR) (hK : ∀ cs, GN mX11_init 4 423 14598 423 14598 190 [(1, .inl (nI 40)), (0, .inr (.inr (some h)))] [] cs (K cs)) : ∀ f i cs, i ≤ 40 → GN mX11_init 4 423 14598 (103 + 8 * i) (12198 + 60 * i) 165 [(1, .inl (nI i)), (0, .inr (.inr (some h)))] [] cs (NX11_M h K f i cs) := by
  intro f
  induction f with
  | zero => intro i cs hi; exact n_none
  | succ f ih =>
    intro i cs hi
    show GN mX11_init 4 423 14598 (103 + 8 * i) (12198 + 60 * i) 165 [(1, .inl (nI i)), (0, .inr (.inr (some h)))] [] cs (if 40 ≤ i then K cs else _)
    by_cases c : 40 ≤ i
    · obtain rfl : i = 40 := by omega
      rw [if_pos c]
      refine n_iload_n 0 (kdX11_init 80 rfl) rfl ?_
      refine n_bipush (v := 40) (kdX11_init 81 rfl) (by decide) ?_
      refine n_icmp_ge (tgt := 190) (kdX11_init 82 rfl) (by decide) (fun _ => ?_) (fun z => absurd z (by decide))
      exact hK cs
    · rw [if_neg c]
      refine n_iload_n 0 (kdX11_init 80 rfl) rfl ?_
      refine n_bipush (v := 40) (kdX11_init 81 rfl) (by decide) ?_
      refine n_icmp_ge (tgt := 190) (kdX11_init 82 rfl) (by decide) (fun z => absurd z ?_) (fun _ => ?_)
      · exact nI_ge (b := 40) (show i < 40 by omega) (by decide)
      · refine n_aload_n 1 (kdX11_init 83 rfl) rfl ?_
        refine n_get (kdX11_init 84 rfl) pX11_36 (fun q172 => ?_)
        refine n_iload_n 0 (kdX11_init 85 rfl) rfl ?_
        refine n_new (fs := blX8) (kdX11_init 86 rfl) ncX11_29 (by omega) (by show _ + 18 ≤ _; omega) ?_
        refine n_dup (kdX11_init 87 rfl) ?_
        refine n_call (As := []) (S := [.inr (.inr (some cs.length)), .inl (nI i), .inr (.inr (some q172))]) (mc2 := 7) (ms2 := 42) (df := 2) (kdX11_init 88 rfl) iX8_init lcX11_31 rfl rfl rfl (by decide) (by omega) (by show _ + 18 + 42 ≤ _; omega) (fun _ => Nat.le_of_ble_eq_true rfl) (CNX8 cs.length (cs ++ [.inr (.inr (7, blX8))])) (fun cs101 => ?_)
        refine n_ast (i := i) (kk := 2) (ci := 7) (C := RX8) (kdX11_init 89 rfl) rfl (by omega) (fun _ => rfl) ⟨TX8, 18, rfl⟩ (fun cs102 => ?_)
        refine n_iinc (v := nI (i + 1)) (L2 := [(1, .inl (nI (i + 1))), (0, .inr (.inr (some h)))]) 0 (kdX11_init 90 rfl) rfl (nI_succ i).symm (fun _ => rfl) (by decide) ?_
        refine n_goto (tgt := 165) (kdX11_init 91 rfl) (by decide) ?_
        refine n_widen (k2 := 103 + 8 * (i + 1)) (n2 := 12198 + 60 * (i + 1)) (by omega) (by show _ + 18 + 42 ≤ _; omega) ?_
        exact ih (i + 1) _ (by omega)
def NX11 (h : Nat) (cs : List nE) : nR :=
  ncal (NX6 cs.length (cs ++ [.inr (.inr (5, blX6))])) fun cs1 =>
  nput h 0 9 (.inr (.inr (some cs.length))) cs1 fun cs2 =>
  ncal (NX4 cs2.length (cs2 ++ [.inr (.inr (3, blX4))])) fun cs3 =>
  nput h 1 9 (.inr (.inr (some cs2.length))) cs3 fun cs4 =>
  nput h 2 9 (.inr (.inr (some cs4.length))) (cs4 ++ [.inr (.inl (3, List.replicate 4 none))]) fun cs5 =>
  ncal (NX8 cs5.length (cs5 ++ [.inr (.inr (7, blX8))])) fun cs6 =>
  nput h 3 9 (.inr (.inr (some cs5.length))) cs6 fun cs7 =>
  nput h 4 9 (.inr (.inr (some cs7.length))) (cs7 ++ [.inr (.inl (2, List.replicate 40 none))]) fun cs8 =>
  ncal (NX5 2460 cs8.length (cs8 ++ [.inr (.inr (4, blX5))])) fun cs9 =>
  nput h 5 9 (.inr (.inr (some cs8.length))) cs9 fun cs10 =>
  ncal (NX8 cs10.length (cs10 ++ [.inr (.inr (7, blX8))])) fun cs11 =>
  nput h 6 9 (.inr (.inr (some cs10.length))) cs11 fun cs12 =>
  ncal (NX5 60 cs12.length (cs12 ++ [.inr (.inr (4, blX5))])) fun cs13 =>
  nput h 7 9 (.inr (.inr (some cs12.length))) cs13 fun cs14 =>
  ncal (NX3 cs14.length (cs14 ++ [.inr (.inr (2, blX3))])) fun cs15 =>
  nput h 8 9 (.inr (.inr (some cs14.length))) cs15 fun cs16 =>
  ncal (NX1 cs16.length (cs16 ++ [.inr (.inr (1, blX1))])) fun cs17 =>
  nput h 9 9 (.inr (.inr (some cs16.length))) cs17 fun cs18 =>
  ncal (NX0 cs18.length (cs18 ++ [.inr (.inr (0, blX0))])) fun cs19 =>
  nput h 10 9 (.inr (.inr (some cs18.length))) cs19 fun cs20 =>
  nput h 11 9 (.inr (.inr (some cs20.length))) (cs20 ++ [.inl (0, 4)]) fun cs21 =>
  nput h 17 9 (.inl 3) cs21 fun cs22 =>
  NX11_L h (fun cs => NX11_M h (fun cs => some cs) 41 0 cs) 5 0 cs22
set_option maxRecDepth 20000 in
theorem CNX11 (h : Nat) (cs : List nE) : CN mX11_init 4 423 14598 [.inr (.inr (some h))] cs (NX11 h cs) := by
  refine cn_ofN (L0 := [(0, .inr (.inr (some h)))]) (by decide +kernel) rfl (fun _ => Nat.le_of_ble_eq_true rfl) (fun _ => rfl) ?_
  unfold NX11
  refine n_aload_n 0 (kdX11_init 0 rfl) rfl ?_
  refine n_objI (kdX11_init 1 rfl) loX11 oi_m oi_c (by decide) ?_
  refine n_aload_n 0 (kdX11_init 2 rfl) rfl ?_
  refine n_new (fs := blX6) (kdX11_init 3 rfl) ncX11_7 (by decide) (by show _ + 8 ≤ _; decide) ?_
  refine n_dup (kdX11_init 4 rfl) ?_
  refine n_call (As := []) (S := [.inr (.inr (some cs.length)), .inr (.inr (some h))]) (mc2 := 10) (ms2 := 341) (df := 2) (kdX11_init 5 rfl) iX6_init lcX11_9 rfl rfl rfl (by decide) (by decide) (by decide) (fun _ => Nat.le_of_ble_eq_true rfl) (CNX6 cs.length (cs ++ [.inr (.inr (5, blX6))])) (fun cs1 => ?_)
  refine n_put (kdX11_init 6 rfl) pX11_10 (fun _ => rfl) (fun _ => rfl) (fun cs2 => ?_)
  refine n_aload_n 0 (kdX11_init 7 rfl) rfl ?_
  refine n_new (fs := blX4) (kdX11_init 8 rfl) ncX11_16 (by decide) (by show _ + 3 ≤ _; decide) ?_
  refine n_dup (kdX11_init 9 rfl) ?_
  refine n_call (As := []) (S := [.inr (.inr (some cs2.length)), .inr (.inr (some h))]) (mc2 := 3) (ms2 := 45) (df := 1) (kdX11_init 10 rfl) iX4_init lcX11_18 rfl rfl rfl (by decide) (by decide) (by decide) (fun _ => Nat.le_of_ble_eq_true rfl) (CNX4 cs2.length (cs2 ++ [.inr (.inr (3, blX4))])) (fun cs3 => ?_)
  refine n_put (kdX11_init 11 rfl) pX11_19 (fun _ => rfl) (fun _ => rfl) (fun cs4 => ?_)
  refine n_aload_n 0 (kdX11_init 12 rfl) rfl ?_
  refine n_iconst (v := 4) (kdX11_init 13 rfl) (by decide) ?_
  refine n_anew (N := 4) (kk := 3) (C := "HuntedEye$Script") (kdX11_init 14 rfl) (gdw_of (i := 223) (by decide +kernel) (by decide +kernel)) (fun s h => h.2) hra_C (by decide) (by decide) (by decide) (by decide) (by decide) ?_
  refine n_put (kdX11_init 15 rfl) pX11_25 (fun _ => rfl) (fun _ => rfl) (fun cs5 => ?_)
  refine n_aload_n 0 (kdX11_init 16 rfl) rfl ?_
  refine n_new (fs := blX8) (kdX11_init 17 rfl) ncX11_29 (by decide) (by show _ + 18 ≤ _; decide) ?_
  refine n_dup (kdX11_init 18 rfl) ?_
  refine n_call (As := []) (S := [.inr (.inr (some cs5.length)), .inr (.inr (some h))]) (mc2 := 7) (ms2 := 42) (df := 2) (kdX11_init 19 rfl) iX8_init lcX11_31 rfl rfl rfl (by decide) (by decide) (by decide) (fun _ => Nat.le_of_ble_eq_true rfl) (CNX8 cs5.length (cs5 ++ [.inr (.inr (7, blX8))])) (fun cs6 => ?_)
  refine n_put (kdX11_init 20 rfl) pX11_32 (fun _ => rfl) (fun _ => rfl) (fun cs7 => ?_)
  refine n_aload_n 0 (kdX11_init 21 rfl) rfl ?_
  refine n_bipush (v := 40) (kdX11_init 22 rfl) (by decide) ?_
  refine n_anew (N := 40) (kk := 2) (C := "HuntedEye$State") (kdX11_init 23 rfl) (gdw_of (i := 225) (by decide +kernel) (by decide +kernel)) (fun s h => h.1) hra_S (by decide) (by decide) (by decide) (by decide) (by decide) ?_
  refine n_put (kdX11_init 24 rfl) pX11_36 (fun _ => rfl) (fun _ => rfl) (fun cs8 => ?_)
  refine n_aload_n 0 (kdX11_init 25 rfl) rfl ?_
  refine n_new (fs := blX5) (kdX11_init 26 rfl) ncX11_40 (by decide) (by show _ + 3 ≤ _; decide) ?_
  refine n_dup (kdX11_init 27 rfl) ?_
  refine n_sipush (v := 2460) (kdX11_init 28 rfl) (by decide) ?_
  refine n_call (As := [.inl (nI 2460)]) (S := [.inr (.inr (some cs8.length)), .inr (.inr (some h))]) (mc2 := 3) (ms2 := 7380) (df := 1) (kdX11_init 29 rfl) iX5_init lcX11_42 rfl rfl rfl (by decide) (by decide) (by decide) (fun _ => Nat.le_of_ble_eq_true rfl) (CNX5 2460 cs8.length (cs8 ++ [.inr (.inr (4, blX5))]) (by decide) (by decide)) (fun cs9 => ?_)
  refine n_put (kdX11_init 30 rfl) pX11_45 (fun _ => rfl) (fun _ => rfl) (fun cs10 => ?_)
  refine n_aload_n 0 (kdX11_init 31 rfl) rfl ?_
  refine n_new (fs := blX8) (kdX11_init 32 rfl) ncX11_29 (by decide) (by show _ + 18 ≤ _; decide) ?_
  refine n_dup (kdX11_init 33 rfl) ?_
  refine n_call (As := []) (S := [.inr (.inr (some cs10.length)), .inr (.inr (some h))]) (mc2 := 7) (ms2 := 42) (df := 2) (kdX11_init 34 rfl) iX8_init lcX11_31 rfl rfl rfl (by decide) (by decide) (by decide) (fun _ => Nat.le_of_ble_eq_true rfl) (CNX8 cs10.length (cs10 ++ [.inr (.inr (7, blX8))])) (fun cs11 => ?_)
  refine n_put (kdX11_init 35 rfl) pX11_49 (fun _ => rfl) (fun _ => rfl) (fun cs12 => ?_)
  refine n_aload_n 0 (kdX11_init 36 rfl) rfl ?_
  refine n_new (fs := blX5) (kdX11_init 37 rfl) ncX11_40 (by decide) (by show _ + 3 ≤ _; decide) ?_
  refine n_dup (kdX11_init 38 rfl) ?_
  refine n_bipush (v := 60) (kdX11_init 39 rfl) (by decide) ?_
  refine n_call (As := [.inl (nI 60)]) (S := [.inr (.inr (some cs12.length)), .inr (.inr (some h))]) (mc2 := 3) (ms2 := 180) (df := 1) (kdX11_init 40 rfl) iX5_init lcX11_42 rfl rfl rfl (by decide) (by decide) (by decide) (fun _ => Nat.le_of_ble_eq_true rfl) (CNX5 60 cs12.length (cs12 ++ [.inr (.inr (4, blX5))]) (by decide) (by decide)) (fun cs13 => ?_)
  refine n_put (kdX11_init 41 rfl) pX11_52 (fun _ => rfl) (fun _ => rfl) (fun cs14 => ?_)
  refine n_aload_n 0 (kdX11_init 42 rfl) rfl ?_
  refine n_new (fs := blX3) (kdX11_init 43 rfl) ncX11_55 (by decide) (by show _ + 5 ≤ _; decide) ?_
  refine n_dup (kdX11_init 44 rfl) ?_
  refine n_call (As := []) (S := [.inr (.inr (some cs14.length)), .inr (.inr (some h))]) (mc2 := 3) (ms2 := 132) (df := 1) (kdX11_init 45 rfl) iX3_init lcX11_57 rfl rfl rfl (by decide) (by decide) (by decide) (fun _ => Nat.le_of_ble_eq_true rfl) (CNX3 cs14.length (cs14 ++ [.inr (.inr (2, blX3))])) (fun cs15 => ?_)
  refine n_put (kdX11_init 46 rfl) pX11_58 (fun _ => rfl) (fun _ => rfl) (fun cs16 => ?_)
  refine n_aload_n 0 (kdX11_init 47 rfl) rfl ?_
  refine n_new (fs := blX1) (kdX11_init 48 rfl) ncX11_62 (by decide) (by show _ + 6 ≤ _; decide) ?_
  refine n_dup (kdX11_init 49 rfl) ?_
  refine n_call (As := []) (S := [.inr (.inr (some cs16.length)), .inr (.inr (some h))]) (mc2 := 5) (ms2 := 2120) (df := 1) (kdX11_init 50 rfl) iX1_init lcX11_64 rfl rfl rfl (by decide) (by decide) (by decide) (fun _ => Nat.le_of_ble_eq_true rfl) (CNX1 cs16.length (cs16 ++ [.inr (.inr (1, blX1))])) (fun cs17 => ?_)
  refine n_put (kdX11_init 51 rfl) pX11_65 (fun _ => rfl) (fun _ => rfl) (fun cs18 => ?_)
  refine n_aload_n 0 (kdX11_init 52 rfl) rfl ?_
  refine n_new (fs := blX0) (kdX11_init 53 rfl) ncX11_69 (by decide) (by show _ + 2 ≤ _; decide) ?_
  refine n_dup (kdX11_init 54 rfl) ?_
  refine n_call (As := []) (S := [.inr (.inr (some cs18.length)), .inr (.inr (some h))]) (mc2 := 34) (ms2 := 1642) (df := 3) (kdX11_init 55 rfl) iX0_init lcX11_71 rfl rfl rfl (by decide) (by decide) (by decide) (fun _ => Nat.le_of_ble_eq_true rfl) (CNX0 cs18.length (cs18 ++ [.inr (.inr (0, blX0))])) (fun cs19 => ?_)
  refine n_put (kdX11_init 56 rfl) pX11_72 (fun _ => rfl) (fun _ => rfl) (fun cs20 => ?_)
  refine n_aload_n 0 (kdX11_init 57 rfl) rfl ?_
  refine n_iconst (v := 4) (kdX11_init 58 rfl) (by decide) ?_
  refine n_newaI (N := 4) (kdX11_init 59 rfl) wA_int (by decide) (by decide) (by decide) (by decide) (by decide) ?_
  refine n_put (kdX11_init 60 rfl) pX11_76 (fun _ => rfl) (fun _ => rfl) (fun cs21 => ?_)
  refine n_aload_n 0 (kdX11_init 61 rfl) rfl ?_
  refine n_iconst (v := 3) (kdX11_init 62 rfl) (by decide) ?_
  refine n_put (kdX11_init 63 rfl) pX11_80 (fun _ => rfl) (fun _ => rfl) (fun cs22 => ?_)
  refine n_iconst (v := 0) (kdX11_init 64 rfl) (by decide) ?_
  refine n_istore_n (L2 := [(1, .inl 0), (0, .inr (.inr (some h)))]) (kdX11_init 65 rfl) (fun _ => rfl) (by decide) ?_
  refine BNX11_L h _ (fun cs => ?_) 5 0 _ (by decide)
  refine n_iconst (v := 0) (kdX11_init 78 rfl) (by decide) ?_
  refine n_istore_n (L2 := [(1, .inl 0), (0, .inr (.inr (some h)))]) (kdX11_init 79 rfl) (fun _ => rfl) (by decide) ?_
  exact BNX11_M h _ (fun cs => n_vret rfl (kdX11_init 92 rfl)) 41 0 _ (by decide)
