/-! the constructors, by program -/
def blX0 : List nV := [.inr (.inr none), .inr (.inr none)]
def blX1 : List nV := [.inr (.inr none), .inr (.inr none), .inr (.inr none), .inr (.inr none), .inr (.inr none), .inl 0]
def blX3 : List nV := [.inr (.inr none), .inr (.inr none), .inr (.inr none), .inl 0, .inl 0]
def blX4 : List nV := [.inr (.inr none), .inr (.inr none), .inr (.inr none)]
def blX5 : List nV := [.inr (.inr none), .inr (.inr none), .inr (.inr none)]
def blX6 : List nV := [.inr (.inr none), .inr (.inr none), .inr (.inr none), .inr (.inr none), .inl 0, .inl 0, .inl 0, .inl 0]
def blX7 : List nV := [.inr (.inr none), .inr (.inr none), .inr (.inr none), .inl 0]
def blX8 : List nV := [.inr (.inr none), .inr (.inr none), .inr (.inr none), .inr (.inr none), .inr (.inr none), .inr (.inr none), .inl 0, .inl 0, .inl 0, .inl 0, .inl 0, .inl 0, .inl 0, .inl 0, .inl 0, .inl 0, .inl 0, .inr (.inl 0)]
def blX10 : List nV := [.inl 0, .inl 0, .inl 0, .inl 0, .inl 0, .inl 0, .inl 0, .inl 0, .inl 0, .inl 0, .inl 0, .inl 0, .inl 0, .inl 0, .inr (.inr none)]
def blX11 : List nV := [.inr (.inr none), .inr (.inr none), .inr (.inr none), .inr (.inr none), .inr (.inr none), .inr (.inr none), .inr (.inr none), .inr (.inr none), .inr (.inr none), .inr (.inr none), .inr (.inr none), .inr (.inr none), .inl 0, .inl 0, .inl 0, .inl 0, .inl 0, .inl 0]
def blX12 : List nV := [.inl 0, .inr (.inr none), .inl 0, .inl 0, .inl 0, .inl 0, .inl 0, .inl 0, .inr (.inl 0), .inr (.inr none), .inr (.inr none), .inr (.inr none), .inr (.inr none), .inr (.inr none), .inr (.inr none), .inl 0, .inr (.inr none), .inr (.inr none), .inl 0, .inr (.inr none), .inr (.inr none), .inl 0, .inl 0, .inl 0, .inl 0, .inl 0, .inl 0, .inr (.inr none), .inl 0, .inr (.inl 0), .inr (.inr none), .inl 0, .inl 0, .inr (.inr none), .inr (.inr none), .inr (.inr none), .inr (.inr none), .inr (.inr none), .inr (.inr none), .inl 0]
theorem oi_m : Cond.instanceMethod objectInit ∈ gdw := gdw_of (i := 143) (by decide +kernel) (by decide +kernel)
theorem oi_c : Cond.code objectInit ⟨#[0xb1]⟩ 1 none ∈ gdw := gdw_of (i := 144) (by decide +kernel) (by decide +kernel)
theorem wA_int : Cond.arrayClass .int ∈ gdw := gdw_of (i := 167) (by decide +kernel) (by decide +kernel)
theorem wA_boolean : Cond.arrayClass .boolean ∈ gdw := gdw_of (i := 168) (by decide +kernel) (by decide +kernel)
theorem nI_max {N : Nat} (h : 1 ≤ N ∧ N ≤ 2460) : ¬ nI N < 1 := by
  rw [Int32.lt_iff_toInt_lt, nI_toInt (by omega)]
  exact fun z => by have : (N : Int) < 1 := z; omega
theorem n_max {mt : hMt} {d mc ms k n pc nx idx : Nat} {L : nL} {x y : Int32} {cs : List nE} {R : nR} (hd : Dc mt pc (.invokestatic idx) 3 nx) (hl : Cond.methodLink mt.1.cls idx Lib.Math.max.name ∈ gdw) (h : GN mt (d + 1) mc ms k n nx L [.inl (if x < y then y else x)] cs R) (hk : k ≤ mc := by decide) (hn : n ≤ ms := by decide) : GN mt (d + 1) mc ms k n pc L [.inl y, .inl x] cs R := by
  intro cs2 hR l D z ca p e s mi args below meth c H locs ls hC hS
  obtain ⟨hd, rfl⟩ := hd
  exact va_mmax hC.1.1 hC.1.2.1 (hC.1.2.2.1.trans hS.2.2.1.1.symm) hC.1.2.2.2.1 (hC.w hl) (hC.w (gdw_of (i := 389) (by decide +kernel) (by decide +kernel))) (hC.w (gdw_of (i := 120) (by decide +kernel) (by decide +kernel))) (hC.w (gdw_of (i := 390) (by decide +kernel) (by decide +kernel))) (Nat.le_add_left 1 d) (by show 0 + 13 ≤ 80 * (d + 1); omega) hk hn (rest := []) hd (h cs2 hR l D z ca p e s mi args below meth c H locs ls hC hS)
abbrev mX10_init : hMt := (yX10_init, cX10_init, 1, none)
def tX10_init : hTb := [(0, .aload_n 0, 1, 1), (1, .invokespecial 3, 3, 4), (4, .aload_n 0, 1, 5), (5, .iconst 3, 1, 6), (6, .newarray .int, 2, 8), (8, .putfield 9, 3, 11), (11, .return_, 1, 12)]
theorem ktX10_init : TbOK mX10_init tX10_init := by
  unfold TbOK
  decide +kernel
theorem kdX10_init (k : Nat) {pc : Nat} {i : Instr} {len nx : Nat} (hk : tX10_init[k]? = some (pc, i, len, nx)) : Dc mX10_init pc i len nx := dc_of ktX10_init k hk
theorem iX10_init : MiI mX10_init := ⟨⟨gdw_of (i := 235) (by decide +kernel) (by decide +kernel), gdw_of (i := 118) (by decide +kernel) (by decide +kernel), by decide, by decide, by decide⟩, gdw_of (i := 234) (by decide +kernel) (by decide +kernel), rfl, rfl⟩
theorem loX10 : Cond.methodLink RX10 3 objectInit ∈ gdw := gdw_of (i := 236) (by decide +kernel) (by decide +kernel)
theorem pX10_9 : Fc RX10 9 8 14 (tyX10 14) true := ⟨TX10, 15, tyX10, rfl, wdX10, tyX10_ok, nmX10, by decide, rfl, rfl, rfl, gdw_of (i := 272) (by decide +kernel) (by decide +kernel)⟩
def NX10 (h : Nat) (cs : List nE) : nR :=
  nput h 14 8 (.inr (.inr (some cs.length))) (cs ++ [.inl (0, 3)]) fun cs1 =>
  some cs1
set_option maxRecDepth 20000 in
theorem CNX10 (h : Nat) (cs : List nE) : CN mX10_init 1 1 3 [.inr (.inr (some h))] cs (NX10 h cs) := by
  refine cn_ofN (L0 := [(0, .inr (.inr (some h)))]) (by decide +kernel) rfl (fun _ => Nat.le_of_ble_eq_true rfl) (fun _ => rfl) ?_
  unfold NX10
  refine n_aload_n 0 (kdX10_init 0 rfl) rfl ?_
  refine n_objI (kdX10_init 1 rfl) loX10 oi_m oi_c (by decide) ?_
  refine n_aload_n 0 (kdX10_init 2 rfl) rfl ?_
  refine n_iconst (v := 3) (kdX10_init 3 rfl) (by decide) ?_
  refine n_newaI (N := 3) (kdX10_init 4 rfl) wA_int (by decide) (by decide) (by decide) (by decide) (by decide) ?_
  refine n_put (kdX10_init 5 rfl) pX10_9 (fun _ => rfl) (fun _ => rfl) (fun cs1 => ?_)
  exact n_vret rfl (kdX10_init 6 rfl)
abbrev mX8_init : hMt := (yX8_init, cX8_init, 1, none)
def tX8_init : hTb := [(0, .aload_n 0, 1, 1), (1, .invokespecial 3, 3, 4), (4, .aload_n 0, 1, 5), (5, .bipush 6, 2, 7), (7, .newarray .int, 2, 9), (9, .putfield 9, 3, 12), (12, .aload_n 0, 1, 13), (13, .bipush 6, 2, 15), (15, .newarray .int, 2, 17), (17, .putfield 15, 3, 20), (20, .aload_n 0, 1, 21), (21, .bipush 6, 2, 23), (23, .newarray .int, 2, 25), (25, .putfield 18, 3, 28), (28, .aload_n 0, 1, 29), (29, .iconst 3, 1, 30), (30, .newarray .int, 2, 32), (32, .putfield 21, 3, 35), (35, .aload_n 0, 1, 36), (36, .iconst 3, 1, 37), (37, .newarray .int, 2, 39), (39, .putfield 24, 3, 42), (42, .aload_n 0, 1, 43), (43, .new 27, 3, 46), (46, .dup, 1, 47), (47, .invokespecial 29, 3, 50), (50, .putfield 30, 3, 53), (53, .return_, 1, 54)]
theorem ktX8_init : TbOK mX8_init tX8_init := by
  unfold TbOK
  decide +kernel
theorem kdX8_init (k : Nat) {pc : Nat} {i : Instr} {len nx : Nat} (hk : tX8_init[k]? = some (pc, i, len, nx)) : Dc mX8_init pc i len nx := dc_of ktX8_init k hk
theorem iX8_init : MiI mX8_init := ⟨⟨gdw_of (i := 229) (by decide +kernel) (by decide +kernel), gdw_of (i := 117) (by decide +kernel) (by decide +kernel), by decide, by decide, by decide⟩, gdw_of (i := 228) (by decide +kernel) (by decide +kernel), rfl, rfl⟩
theorem loX8 : Cond.methodLink RX8 3 objectInit ∈ gdw := gdw_of (i := 230) (by decide +kernel) (by decide +kernel)
theorem pX8_9 : Fc RX8 9 7 0 (tyX8 0) true := ⟨TX8, 18, tyX8, rfl, wdX8, tyX8_ok, nmX8, by decide, rfl, rfl, rfl, gdw_of (i := 305) (by decide +kernel) (by decide +kernel)⟩
theorem pX8_15 : Fc RX8 15 7 1 (tyX8 1) true := ⟨TX8, 18, tyX8, rfl, wdX8, tyX8_ok, nmX8, by decide, rfl, rfl, rfl, gdw_of (i := 310) (by decide +kernel) (by decide +kernel)⟩
theorem pX8_18 : Fc RX8 18 7 2 (tyX8 2) true := ⟨TX8, 18, tyX8, rfl, wdX8, tyX8_ok, nmX8, by decide, rfl, rfl, rfl, gdw_of (i := 312) (by decide +kernel) (by decide +kernel)⟩
theorem pX8_21 : Fc RX8 21 7 3 (tyX8 3) true := ⟨TX8, 18, tyX8, rfl, wdX8, tyX8_ok, nmX8, by decide, rfl, rfl, rfl, gdw_of (i := 313) (by decide +kernel) (by decide +kernel)⟩
theorem pX8_24 : Fc RX8 24 7 4 (tyX8 4) true := ⟨TX8, 18, tyX8, rfl, wdX8, tyX8_ok, nmX8, by decide, rfl, rfl, rfl, gdw_of (i := 314) (by decide +kernel) (by decide +kernel)⟩
theorem ncX8_27 : Nc RX8 27 8 blX10 := ⟨RX10, TX10, 15, tyX10, rfl, wdX10, tyX10_ok, gdw_of (i := 231) (by decide +kernel) (by decide +kernel), gdw_of (i := 232) (by decide +kernel) (by decide +kernel), gdw_of (i := 118) (by decide +kernel) (by decide +kernel), rfl, fun z j hj => match j, hj with | 0, _ => rfl | 1, _ => rfl | 2, _ => rfl | 3, _ => rfl | 4, _ => rfl | 5, _ => rfl | 6, _ => rfl | 7, _ => rfl | 8, _ => rfl | 9, _ => rfl | 10, _ => rfl | 11, _ => rfl | 12, _ => rfl | 13, _ => rfl | 14, _ => rfl | j + 15, hj => absurd hj (by omega)⟩
theorem lcX8_29 : Lk RX8 29 mX10_init := Or.inr (by decide +kernel)
theorem pX8_30 : Fc RX8 30 7 5 (tyX8 5) true := ⟨TX8, 18, tyX8, rfl, wdX8, tyX8_ok, nmX8, by decide, rfl, rfl, rfl, gdw_of (i := 315) (by decide +kernel) (by decide +kernel)⟩
def NX8 (h : Nat) (cs : List nE) : nR :=
  nput h 0 7 (.inr (.inr (some cs.length))) (cs ++ [.inl (0, 6)]) fun cs1 =>
  nput h 1 7 (.inr (.inr (some cs1.length))) (cs1 ++ [.inl (0, 6)]) fun cs2 =>
  nput h 2 7 (.inr (.inr (some cs2.length))) (cs2 ++ [.inl (0, 6)]) fun cs3 =>
  nput h 3 7 (.inr (.inr (some cs3.length))) (cs3 ++ [.inl (0, 3)]) fun cs4 =>
  nput h 4 7 (.inr (.inr (some cs4.length))) (cs4 ++ [.inl (0, 3)]) fun cs5 =>
  ncal (NX10 cs5.length (cs5 ++ [.inr (.inr (8, blX10))])) fun cs6 =>
  nput h 5 7 (.inr (.inr (some cs5.length))) cs6 fun cs7 =>
  some cs7
set_option maxRecDepth 20000 in
theorem CNX8 (h : Nat) (cs : List nE) : CN mX8_init 2 7 42 [.inr (.inr (some h))] cs (NX8 h cs) := by
  refine cn_ofN (L0 := [(0, .inr (.inr (some h)))]) (by decide +kernel) rfl (fun _ => Nat.le_of_ble_eq_true rfl) (fun _ => rfl) ?_
  unfold NX8
  refine n_aload_n 0 (kdX8_init 0 rfl) rfl ?_
  refine n_objI (kdX8_init 1 rfl) loX8 oi_m oi_c (by decide) ?_
  refine n_aload_n 0 (kdX8_init 2 rfl) rfl ?_
  refine n_bipush (v := 6) (kdX8_init 3 rfl) (by decide) ?_
  refine n_newaI (N := 6) (kdX8_init 4 rfl) wA_int (by decide) (by decide) (by decide) (by decide) (by decide) ?_
  refine n_put (kdX8_init 5 rfl) pX8_9 (fun _ => rfl) (fun _ => rfl) (fun cs1 => ?_)
  refine n_aload_n 0 (kdX8_init 6 rfl) rfl ?_
  refine n_bipush (v := 6) (kdX8_init 7 rfl) (by decide) ?_
  refine n_newaI (N := 6) (kdX8_init 8 rfl) wA_int (by decide) (by decide) (by decide) (by decide) (by decide) ?_
  refine n_put (kdX8_init 9 rfl) pX8_15 (fun _ => rfl) (fun _ => rfl) (fun cs2 => ?_)
  refine n_aload_n 0 (kdX8_init 10 rfl) rfl ?_
  refine n_bipush (v := 6) (kdX8_init 11 rfl) (by decide) ?_
  refine n_newaI (N := 6) (kdX8_init 12 rfl) wA_int (by decide) (by decide) (by decide) (by decide) (by decide) ?_
  refine n_put (kdX8_init 13 rfl) pX8_18 (fun _ => rfl) (fun _ => rfl) (fun cs3 => ?_)
  refine n_aload_n 0 (kdX8_init 14 rfl) rfl ?_
  refine n_iconst (v := 3) (kdX8_init 15 rfl) (by decide) ?_
  refine n_newaI (N := 3) (kdX8_init 16 rfl) wA_int (by decide) (by decide) (by decide) (by decide) (by decide) ?_
  refine n_put (kdX8_init 17 rfl) pX8_21 (fun _ => rfl) (fun _ => rfl) (fun cs4 => ?_)
  refine n_aload_n 0 (kdX8_init 18 rfl) rfl ?_
  refine n_iconst (v := 3) (kdX8_init 19 rfl) (by decide) ?_
  refine n_newaI (N := 3) (kdX8_init 20 rfl) wA_int (by decide) (by decide) (by decide) (by decide) (by decide) ?_
  refine n_put (kdX8_init 21 rfl) pX8_24 (fun _ => rfl) (fun _ => rfl) (fun cs5 => ?_)
  refine n_aload_n 0 (kdX8_init 22 rfl) rfl ?_
  refine n_new (fs := blX10) (kdX8_init 23 rfl) ncX8_27 (by decide) (by show _ + 15 ≤ _; decide) ?_
  refine n_dup (kdX8_init 24 rfl) ?_
  refine n_call (As := []) (S := [.inr (.inr (some cs5.length)), .inr (.inr (some h))]) (mc2 := 1) (ms2 := 3) (df := 1) (kdX8_init 25 rfl) iX10_init lcX8_29 rfl rfl rfl (by decide) (by decide) (by decide) (fun _ => Nat.le_of_ble_eq_true rfl) (CNX10 cs5.length (cs5 ++ [.inr (.inr (8, blX10))])) (fun cs6 => ?_)
  refine n_put (kdX8_init 26 rfl) pX8_30 (fun _ => rfl) (fun _ => rfl) (fun cs7 => ?_)
  exact n_vret rfl (kdX8_init 27 rfl)
abbrev mX4_init : hMt := (yX4_init, cX4_init, 1, none)
def tX4_init : hTb := [(0, .aload_n 0, 1, 1), (1, .invokespecial 3, 3, 4), (4, .aload_n 0, 1, 5), (5, .bipush 13, 2, 7), (7, .newarray .int, 2, 9), (9, .putfield 9, 3, 12), (12, .aload_n 0, 1, 13), (13, .bipush 16, 2, 15), (15, .newarray .int, 2, 17), (17, .putfield 15, 3, 20), (20, .aload_n 0, 1, 21), (21, .bipush 16, 2, 23), (23, .newarray .int, 2, 25), (25, .putfield 18, 3, 28), (28, .return_, 1, 29)]
theorem ktX4_init : TbOK mX4_init tX4_init := by
  unfold TbOK
  decide +kernel
theorem kdX4_init (k : Nat) {pc : Nat} {i : Instr} {len nx : Nat} (hk : tX4_init[k]? = some (pc, i, len, nx)) : Dc mX4_init pc i len nx := dc_of ktX4_init k hk
theorem iX4_init : MiI mX4_init := ⟨⟨gdw_of (i := 155) (by decide +kernel) (by decide +kernel), gdw_of (i := 115) (by decide +kernel) (by decide +kernel), by decide, by decide, by decide⟩, gdw_of (i := 154) (by decide +kernel) (by decide +kernel), rfl, rfl⟩
theorem loX4 : Cond.methodLink RX4 3 objectInit ∈ gdw := gdw_of (i := 156) (by decide +kernel) (by decide +kernel)
theorem pX4_9 : Fc RX4 9 3 0 (tyX4 0) true := ⟨TX4, 3, tyX4, rfl, wdX4, tyX4_ok, nmX4, by decide, rfl, rfl, rfl, gdw_of (i := 157) (by decide +kernel) (by decide +kernel)⟩
theorem pX4_15 : Fc RX4 15 3 1 (tyX4 1) true := ⟨TX4, 3, tyX4, rfl, wdX4, tyX4_ok, nmX4, by decide, rfl, rfl, rfl, gdw_of (i := 158) (by decide +kernel) (by decide +kernel)⟩
theorem pX4_18 : Fc RX4 18 3 2 (tyX4 2) true := ⟨TX4, 3, tyX4, rfl, wdX4, tyX4_ok, nmX4, by decide, rfl, rfl, rfl, gdw_of (i := 159) (by decide +kernel) (by decide +kernel)⟩
def NX4 (h : Nat) (cs : List nE) : nR :=
  nput h 0 3 (.inr (.inr (some cs.length))) (cs ++ [.inl (0, 13)]) fun cs1 =>
  nput h 1 3 (.inr (.inr (some cs1.length))) (cs1 ++ [.inl (0, 16)]) fun cs2 =>
  nput h 2 3 (.inr (.inr (some cs2.length))) (cs2 ++ [.inl (0, 16)]) fun cs3 =>
  some cs3
set_option maxRecDepth 20000 in
theorem CNX4 (h : Nat) (cs : List nE) : CN mX4_init 1 3 45 [.inr (.inr (some h))] cs (NX4 h cs) := by
  refine cn_ofN (L0 := [(0, .inr (.inr (some h)))]) (by decide +kernel) rfl (fun _ => Nat.le_of_ble_eq_true rfl) (fun _ => rfl) ?_
  unfold NX4
  refine n_aload_n 0 (kdX4_init 0 rfl) rfl ?_
  refine n_objI (kdX4_init 1 rfl) loX4 oi_m oi_c (by decide) ?_
  refine n_aload_n 0 (kdX4_init 2 rfl) rfl ?_
  refine n_bipush (v := 13) (kdX4_init 3 rfl) (by decide) ?_
  refine n_newaI (N := 13) (kdX4_init 4 rfl) wA_int (by decide) (by decide) (by decide) (by decide) (by decide) ?_
  refine n_put (kdX4_init 5 rfl) pX4_9 (fun _ => rfl) (fun _ => rfl) (fun cs1 => ?_)
  refine n_aload_n 0 (kdX4_init 6 rfl) rfl ?_
  refine n_bipush (v := 16) (kdX4_init 7 rfl) (by decide) ?_
  refine n_newaI (N := 16) (kdX4_init 8 rfl) wA_int (by decide) (by decide) (by decide) (by decide) (by decide) ?_
  refine n_put (kdX4_init 9 rfl) pX4_15 (fun _ => rfl) (fun _ => rfl) (fun cs2 => ?_)
  refine n_aload_n 0 (kdX4_init 10 rfl) rfl ?_
  refine n_bipush (v := 16) (kdX4_init 11 rfl) (by decide) ?_
  refine n_newaI (N := 16) (kdX4_init 12 rfl) wA_int (by decide) (by decide) (by decide) (by decide) (by decide) ?_
  refine n_put (kdX4_init 13 rfl) pX4_18 (fun _ => rfl) (fun _ => rfl) (fun cs3 => ?_)
  exact n_vret rfl (kdX4_init 14 rfl)
abbrev mX7_init : hMt := (yX7_init, cX7_init, 1, none)
def tX7_init : hTb := [(0, .aload_n 0, 1, 1), (1, .invokespecial 3, 3, 4), (4, .aload_n 0, 1, 5), (5, .bipush 12, 2, 7), (7, .newarray .int, 2, 9), (9, .putfield 9, 3, 12), (12, .aload_n 0, 1, 13), (13, .bipush 12, 2, 15), (15, .newarray .int, 2, 17), (17, .putfield 15, 3, 20), (20, .aload_n 0, 1, 21), (21, .bipush 12, 2, 23), (23, .newarray .int, 2, 25), (25, .putfield 18, 3, 28), (28, .return_, 1, 29)]
theorem ktX7_init : TbOK mX7_init tX7_init := by
  unfold TbOK
  decide +kernel
theorem kdX7_init (k : Nat) {pc : Nat} {i : Instr} {len nx : Nat} (hk : tX7_init[k]? = some (pc, i, len, nx)) : Dc mX7_init pc i len nx := dc_of ktX7_init k hk
theorem iX7_init : MiI mX7_init := ⟨⟨gdw_of (i := 173) (by decide +kernel) (by decide +kernel), gdw_of (i := 116) (by decide +kernel) (by decide +kernel), by decide, by decide, by decide⟩, gdw_of (i := 172) (by decide +kernel) (by decide +kernel), rfl, rfl⟩
theorem loX7 : Cond.methodLink RX7 3 objectInit ∈ gdw := gdw_of (i := 174) (by decide +kernel) (by decide +kernel)
theorem pX7_9 : Fc RX7 9 6 0 (tyX7 0) true := ⟨TX7, 4, tyX7, rfl, wdX7, tyX7_ok, nmX7, by decide, rfl, rfl, rfl, gdw_of (i := 175) (by decide +kernel) (by decide +kernel)⟩
theorem pX7_15 : Fc RX7 15 6 1 (tyX7 1) true := ⟨TX7, 4, tyX7, rfl, wdX7, tyX7_ok, nmX7, by decide, rfl, rfl, rfl, gdw_of (i := 177) (by decide +kernel) (by decide +kernel)⟩
theorem pX7_18 : Fc RX7 18 6 2 (tyX7 2) true := ⟨TX7, 4, tyX7, rfl, wdX7, tyX7_ok, nmX7, by decide, rfl, rfl, rfl, gdw_of (i := 179) (by decide +kernel) (by decide +kernel)⟩
def NX7 (h : Nat) (cs : List nE) : nR :=
  nput h 0 6 (.inr (.inr (some cs.length))) (cs ++ [.inl (0, 12)]) fun cs1 =>
  nput h 1 6 (.inr (.inr (some cs1.length))) (cs1 ++ [.inl (0, 12)]) fun cs2 =>
  nput h 2 6 (.inr (.inr (some cs2.length))) (cs2 ++ [.inl (0, 12)]) fun cs3 =>
  some cs3
set_option maxRecDepth 20000 in
theorem CNX7 (h : Nat) (cs : List nE) : CN mX7_init 1 3 36 [.inr (.inr (some h))] cs (NX7 h cs) := by
  refine cn_ofN (L0 := [(0, .inr (.inr (some h)))]) (by decide +kernel) rfl (fun _ => Nat.le_of_ble_eq_true rfl) (fun _ => rfl) ?_
  unfold NX7
  refine n_aload_n 0 (kdX7_init 0 rfl) rfl ?_
  refine n_objI (kdX7_init 1 rfl) loX7 oi_m oi_c (by decide) ?_
  refine n_aload_n 0 (kdX7_init 2 rfl) rfl ?_
  refine n_bipush (v := 12) (kdX7_init 3 rfl) (by decide) ?_
  refine n_newaI (N := 12) (kdX7_init 4 rfl) wA_int (by decide) (by decide) (by decide) (by decide) (by decide) ?_
  refine n_put (kdX7_init 5 rfl) pX7_9 (fun _ => rfl) (fun _ => rfl) (fun cs1 => ?_)
  refine n_aload_n 0 (kdX7_init 6 rfl) rfl ?_
  refine n_bipush (v := 12) (kdX7_init 7 rfl) (by decide) ?_
  refine n_newaI (N := 12) (kdX7_init 8 rfl) wA_int (by decide) (by decide) (by decide) (by decide) (by decide) ?_
  refine n_put (kdX7_init 9 rfl) pX7_15 (fun _ => rfl) (fun _ => rfl) (fun cs2 => ?_)
  refine n_aload_n 0 (kdX7_init 10 rfl) rfl ?_
  refine n_bipush (v := 12) (kdX7_init 11 rfl) (by decide) ?_
  refine n_newaI (N := 12) (kdX7_init 12 rfl) wA_int (by decide) (by decide) (by decide) (by decide) (by decide) ?_
  refine n_put (kdX7_init 13 rfl) pX7_18 (fun _ => rfl) (fun _ => rfl) (fun cs3 => ?_)
  exact n_vret rfl (kdX7_init 14 rfl)
abbrev mX3_init : hMt := (yX3_init, cX3_init, 1, none)
def tX3_init : hTb := [(0, .aload_n 0, 1, 1), (1, .invokespecial 3, 3, 4), (4, .aload_n 0, 1, 5), (5, .bipush 64, 2, 7), (7, .newarray .int, 2, 9), (9, .putfield 9, 3, 12), (12, .aload_n 0, 1, 13), (13, .bipush 64, 2, 15), (15, .newarray .int, 2, 17), (17, .putfield 15, 3, 20), (20, .aload_n 0, 1, 21), (21, .iconst 4, 1, 22), (22, .newarray .int, 2, 24), (24, .putfield 18, 3, 27), (27, .return_, 1, 28)]
theorem ktX3_init : TbOK mX3_init tX3_init := by
  unfold TbOK
  decide +kernel
theorem kdX3_init (k : Nat) {pc : Nat} {i : Instr} {len nx : Nat} (hk : tX3_init[k]? = some (pc, i, len, nx)) : Dc mX3_init pc i len nx := dc_of ktX3_init k hk
theorem iX3_init : MiI mX3_init := ⟨⟨gdw_of (i := 405) (by decide +kernel) (by decide +kernel), gdw_of (i := 121) (by decide +kernel) (by decide +kernel), by decide, by decide, by decide⟩, gdw_of (i := 404) (by decide +kernel) (by decide +kernel), rfl, rfl⟩
theorem loX3 : Cond.methodLink RX3 3 objectInit ∈ gdw := gdw_of (i := 406) (by decide +kernel) (by decide +kernel)
theorem pX3_9 : Fc RX3 9 2 0 (tyX3 0) true := ⟨TX3, 5, tyX3, rfl, wdX3, tyX3_ok, nmX3, by decide, rfl, rfl, rfl, gdw_of (i := 407) (by decide +kernel) (by decide +kernel)⟩
theorem pX3_15 : Fc RX3 15 2 1 (tyX3 1) true := ⟨TX3, 5, tyX3, rfl, wdX3, tyX3_ok, nmX3, by decide, rfl, rfl, rfl, gdw_of (i := 408) (by decide +kernel) (by decide +kernel)⟩
theorem pX3_18 : Fc RX3 18 2 2 (tyX3 2) true := ⟨TX3, 5, tyX3, rfl, wdX3, tyX3_ok, nmX3, by decide, rfl, rfl, rfl, gdw_of (i := 409) (by decide +kernel) (by decide +kernel)⟩
def NX3 (h : Nat) (cs : List nE) : nR :=
  nput h 0 2 (.inr (.inr (some cs.length))) (cs ++ [.inl (0, 64)]) fun cs1 =>
  nput h 1 2 (.inr (.inr (some cs1.length))) (cs1 ++ [.inl (0, 64)]) fun cs2 =>
  nput h 2 2 (.inr (.inr (some cs2.length))) (cs2 ++ [.inl (0, 4)]) fun cs3 =>
  some cs3
set_option maxRecDepth 20000 in
theorem CNX3 (h : Nat) (cs : List nE) : CN mX3_init 1 3 132 [.inr (.inr (some h))] cs (NX3 h cs) := by
  refine cn_ofN (L0 := [(0, .inr (.inr (some h)))]) (by decide +kernel) rfl (fun _ => Nat.le_of_ble_eq_true rfl) (fun _ => rfl) ?_
  unfold NX3
  refine n_aload_n 0 (kdX3_init 0 rfl) rfl ?_
  refine n_objI (kdX3_init 1 rfl) loX3 oi_m oi_c (by decide) ?_
  refine n_aload_n 0 (kdX3_init 2 rfl) rfl ?_
  refine n_bipush (v := 64) (kdX3_init 3 rfl) (by decide) ?_
  refine n_newaI (N := 64) (kdX3_init 4 rfl) wA_int (by decide) (by decide) (by decide) (by decide) (by decide) ?_
  refine n_put (kdX3_init 5 rfl) pX3_9 (fun _ => rfl) (fun _ => rfl) (fun cs1 => ?_)
  refine n_aload_n 0 (kdX3_init 6 rfl) rfl ?_
  refine n_bipush (v := 64) (kdX3_init 7 rfl) (by decide) ?_
  refine n_newaI (N := 64) (kdX3_init 8 rfl) wA_int (by decide) (by decide) (by decide) (by decide) (by decide) ?_
  refine n_put (kdX3_init 9 rfl) pX3_15 (fun _ => rfl) (fun _ => rfl) (fun cs2 => ?_)
  refine n_aload_n 0 (kdX3_init 10 rfl) rfl ?_
  refine n_iconst (v := 4) (kdX3_init 11 rfl) (by decide) ?_
  refine n_newaI (N := 4) (kdX3_init 12 rfl) wA_int (by decide) (by decide) (by decide) (by decide) (by decide) ?_
  refine n_put (kdX3_init 13 rfl) pX3_18 (fun _ => rfl) (fun _ => rfl) (fun cs3 => ?_)
  exact n_vret rfl (kdX3_init 14 rfl)
abbrev mX1_init : hMt := (yX1_init, cX1_init, 1, none)
def tX1_init : hTb := [(0, .aload_n 0, 1, 1), (1, .invokespecial 5, 3, 4), (4, .aload_n 0, 1, 5), (5, .bipush 64, 2, 7), (7, .newarray .int, 2, 9), (9, .putfield 11, 3, 12), (12, .aload_n 0, 1, 13), (13, .bipush 8, 2, 15), (15, .newarray .int, 2, 17), (17, .putfield 15, 3, 20), (20, .aload_n 0, 1, 21), (21, .sipush 1024, 3, 24), (24, .newarray .int, 2, 26), (26, .putfield 18, 3, 29), (29, .aload_n 0, 1, 30), (30, .sipush 512, 3, 33), (33, .newarray .int, 2, 35), (35, .putfield 21, 3, 38), (38, .aload_n 0, 1, 39), (39, .sipush 512, 3, 42), (42, .newarray .int, 2, 44), (44, .putfield 24, 3, 47), (47, .return_, 1, 48)]
theorem ktX1_init : TbOK mX1_init tX1_init := by
  unfold TbOK
  decide +kernel
theorem kdX1_init (k : Nat) {pc : Nat} {i : Instr} {len nx : Nat} (hk : tX1_init[k]? = some (pc, i, len, nx)) : Dc mX1_init pc i len nx := dc_of ktX1_init k hk
theorem iX1_init : MiI mX1_init := ⟨⟨gdw_of (i := 429) (by decide +kernel) (by decide +kernel), gdw_of (i := 122) (by decide +kernel) (by decide +kernel), by decide, by decide, by decide⟩, gdw_of (i := 428) (by decide +kernel) (by decide +kernel), rfl, rfl⟩
theorem loX1 : Cond.methodLink RX1 5 objectInit ∈ gdw := gdw_of (i := 430) (by decide +kernel) (by decide +kernel)
theorem pX1_11 : Fc RX1 11 1 0 (tyX1 0) true := ⟨TX1, 6, tyX1, rfl, wdX1, tyX1_ok, nmX1, by decide, rfl, rfl, rfl, gdw_of (i := 431) (by decide +kernel) (by decide +kernel)⟩
theorem pX1_15 : Fc RX1 15 1 1 (tyX1 1) true := ⟨TX1, 6, tyX1, rfl, wdX1, tyX1_ok, nmX1, by decide, rfl, rfl, rfl, gdw_of (i := 432) (by decide +kernel) (by decide +kernel)⟩
theorem pX1_18 : Fc RX1 18 1 2 (tyX1 2) true := ⟨TX1, 6, tyX1, rfl, wdX1, tyX1_ok, nmX1, by decide, rfl, rfl, rfl, gdw_of (i := 433) (by decide +kernel) (by decide +kernel)⟩
theorem pX1_21 : Fc RX1 21 1 3 (tyX1 3) true := ⟨TX1, 6, tyX1, rfl, wdX1, tyX1_ok, nmX1, by decide, rfl, rfl, rfl, gdw_of (i := 434) (by decide +kernel) (by decide +kernel)⟩
theorem pX1_24 : Fc RX1 24 1 4 (tyX1 4) true := ⟨TX1, 6, tyX1, rfl, wdX1, tyX1_ok, nmX1, by decide, rfl, rfl, rfl, gdw_of (i := 435) (by decide +kernel) (by decide +kernel)⟩
def NX1 (h : Nat) (cs : List nE) : nR :=
  nput h 0 1 (.inr (.inr (some cs.length))) (cs ++ [.inl (0, 64)]) fun cs1 =>
  nput h 1 1 (.inr (.inr (some cs1.length))) (cs1 ++ [.inl (0, 8)]) fun cs2 =>
  nput h 2 1 (.inr (.inr (some cs2.length))) (cs2 ++ [.inl (0, 1024)]) fun cs3 =>
  nput h 3 1 (.inr (.inr (some cs3.length))) (cs3 ++ [.inl (0, 512)]) fun cs4 =>
  nput h 4 1 (.inr (.inr (some cs4.length))) (cs4 ++ [.inl (0, 512)]) fun cs5 =>
  some cs5
set_option maxRecDepth 20000 in
theorem CNX1 (h : Nat) (cs : List nE) : CN mX1_init 1 5 2120 [.inr (.inr (some h))] cs (NX1 h cs) := by
  refine cn_ofN (L0 := [(0, .inr (.inr (some h)))]) (by decide +kernel) rfl (fun _ => Nat.le_of_ble_eq_true rfl) (fun _ => rfl) ?_
  unfold NX1
  refine n_aload_n 0 (kdX1_init 0 rfl) rfl ?_
  refine n_objI (kdX1_init 1 rfl) loX1 oi_m oi_c (by decide) ?_
  refine n_aload_n 0 (kdX1_init 2 rfl) rfl ?_
  refine n_bipush (v := 64) (kdX1_init 3 rfl) (by decide) ?_
  refine n_newaI (N := 64) (kdX1_init 4 rfl) wA_int (by decide) (by decide) (by decide) (by decide) (by decide) ?_
  refine n_put (kdX1_init 5 rfl) pX1_11 (fun _ => rfl) (fun _ => rfl) (fun cs1 => ?_)
  refine n_aload_n 0 (kdX1_init 6 rfl) rfl ?_
  refine n_bipush (v := 8) (kdX1_init 7 rfl) (by decide) ?_
  refine n_newaI (N := 8) (kdX1_init 8 rfl) wA_int (by decide) (by decide) (by decide) (by decide) (by decide) ?_
  refine n_put (kdX1_init 9 rfl) pX1_15 (fun _ => rfl) (fun _ => rfl) (fun cs2 => ?_)
  refine n_aload_n 0 (kdX1_init 10 rfl) rfl ?_
  refine n_sipush (v := 1024) (kdX1_init 11 rfl) (by decide) ?_
  refine n_newaI (N := 1024) (kdX1_init 12 rfl) wA_int (by decide) (by decide) (by decide) (by decide) (by decide) ?_
  refine n_put (kdX1_init 13 rfl) pX1_18 (fun _ => rfl) (fun _ => rfl) (fun cs3 => ?_)
  refine n_aload_n 0 (kdX1_init 14 rfl) rfl ?_
  refine n_sipush (v := 512) (kdX1_init 15 rfl) (by decide) ?_
  refine n_newaI (N := 512) (kdX1_init 16 rfl) wA_int (by decide) (by decide) (by decide) (by decide) (by decide) ?_
  refine n_put (kdX1_init 17 rfl) pX1_21 (fun _ => rfl) (fun _ => rfl) (fun cs4 => ?_)
  refine n_aload_n 0 (kdX1_init 18 rfl) rfl ?_
  refine n_sipush (v := 512) (kdX1_init 19 rfl) (by decide) ?_
  refine n_newaI (N := 512) (kdX1_init 20 rfl) wA_int (by decide) (by decide) (by decide) (by decide) (by decide) ?_
  refine n_put (kdX1_init 21 rfl) pX1_24 (fun _ => rfl) (fun _ => rfl) (fun cs5 => ?_)
  exact n_vret rfl (kdX1_init 22 rfl)
abbrev mX5_init : hMt := (yX5_init, cX5_init, 3, none)
def tX5_init : hTb := [(0, .aload_n 0, 1, 1), (1, .invokespecial 3, 3, 4), (4, .iload_n 1, 1, 5), (5, .iconst 1, 1, 6), (6, .invokestatic 9, 3, 9), (9, .istore_n 2, 1, 10), (10, .aload_n 0, 1, 11), (11, .iload_n 2, 1, 12), (12, .newarray .int, 2, 14), (14, .putfield 15, 3, 17), (17, .aload_n 0, 1, 18), (18, .iload_n 2, 1, 19), (19, .newarray .int, 2, 21), (21, .putfield 21, 3, 24), (24, .aload_n 0, 1, 25), (25, .iload_n 2, 1, 26), (26, .newarray .int, 2, 28), (28, .putfield 24, 3, 31), (31, .return_, 1, 32)]
theorem ktX5_init : TbOK mX5_init tX5_init := by
  unfold TbOK
  decide +kernel
theorem kdX5_init (k : Nat) {pc : Nat} {i : Instr} {len nx : Nat} (hk : tX5_init[k]? = some (pc, i, len, nx)) : Dc mX5_init pc i len nx := dc_of ktX5_init k hk
theorem iX5_init : MiI mX5_init := ⟨⟨gdw_of (i := 386) (by decide +kernel) (by decide +kernel), gdw_of (i := 119) (by decide +kernel) (by decide +kernel), by decide, by decide, by decide⟩, gdw_of (i := 385) (by decide +kernel) (by decide +kernel), rfl, rfl⟩
theorem loX5 : Cond.methodLink RX5 3 objectInit ∈ gdw := gdw_of (i := 387) (by decide +kernel) (by decide +kernel)
theorem pX5_15 : Fc RX5 15 4 0 (tyX5 0) true := ⟨TX5, 3, tyX5, rfl, wdX5, tyX5_ok, nmX5, by decide, rfl, rfl, rfl, gdw_of (i := 391) (by decide +kernel) (by decide +kernel)⟩
theorem pX5_21 : Fc RX5 21 4 1 (tyX5 1) true := ⟨TX5, 3, tyX5, rfl, wdX5, tyX5_ok, nmX5, by decide, rfl, rfl, rfl, gdw_of (i := 392) (by decide +kernel) (by decide +kernel)⟩
theorem pX5_24 : Fc RX5 24 4 2 (tyX5 2) true := ⟨TX5, 3, tyX5, rfl, wdX5, tyX5_ok, nmX5, by decide, rfl, rfl, rfl, gdw_of (i := 393) (by decide +kernel) (by decide +kernel)⟩
def NX5 (N h : Nat) (cs : List nE) : nR :=
  nput h 0 4 (.inr (.inr (some cs.length))) (cs ++ [.inl (0, N)]) fun cs1 =>
  nput h 1 4 (.inr (.inr (some cs1.length))) (cs1 ++ [.inl (0, N)]) fun cs2 =>
  nput h 2 4 (.inr (.inr (some cs2.length))) (cs2 ++ [.inl (0, N)]) fun cs3 =>
  some cs3
set_option maxRecDepth 20000 in
theorem CNX5 (N h : Nat) (cs : List nE) (h1 : 1 ≤ N) (h2 : N ≤ 2460) : CN mX5_init 1 3 (3 * N) [.inr (.inr (some h)), .inl (nI N)] cs (NX5 N h cs) := by
  have hN : 1 ≤ N ∧ N ≤ 2460 := ⟨h1, h2⟩
  refine cn_ofN (L0 := [(0, .inr (.inr (some h))), (1, .inl (nI N))]) (by decide +kernel) rfl (fun _ => Nat.le_of_ble_eq_true rfl) (fun _ => rfl) ?_
  unfold NX5
  refine n_aload_n 0 (kdX5_init 0 rfl) rfl ?_
  refine n_objI (kdX5_init 1 rfl) loX5 oi_m oi_c (by decide) ?_
  refine n_iload_n 1 (kdX5_init 2 rfl) rfl ?_
  refine n_iconst (v := 1) (kdX5_init 3 rfl) (by decide) ?_
  refine n_max (d := 0) (hk := Nat.zero_le _) (hn := Nat.zero_le _) (kdX5_init 4 rfl) (gdw_of (i := 388) (by decide +kernel) (by decide +kernel)) ?_
  rw [show (if nI N < 1 then (1 : Int32) else nI N) = nI N from if_neg (nI_max hN)]
  refine n_istore_n (L2 := [(2, .inl (nI N)), (0, .inr (.inr (some h))), (1, .inl (nI N))]) (kdX5_init 5 rfl) (fun _ => rfl) (by decide) ?_
  refine n_aload_n 1 (kdX5_init 6 rfl) rfl ?_
  refine n_iload_n 0 (kdX5_init 7 rfl) rfl ?_
  refine n_newaI (N := N) (kdX5_init 8 rfl) wA_int (nI_pos (by omega)) (nI_clamp (by omega)) (by omega) (by omega) (by omega) ?_
  refine n_put (kdX5_init 9 rfl) pX5_15 (fun _ => rfl) (fun _ => rfl) (fun cs1 => ?_)
  refine n_aload_n 1 (kdX5_init 10 rfl) rfl ?_
  refine n_iload_n 0 (kdX5_init 11 rfl) rfl ?_
  refine n_newaI (N := N) (kdX5_init 12 rfl) wA_int (nI_pos (by omega)) (nI_clamp (by omega)) (by omega) (by omega) (by omega) ?_
  refine n_put (kdX5_init 13 rfl) pX5_21 (fun _ => rfl) (fun _ => rfl) (fun cs2 => ?_)
  refine n_aload_n 1 (kdX5_init 14 rfl) rfl ?_
  refine n_iload_n 0 (kdX5_init 15 rfl) rfl ?_
  refine n_newaI (N := N) (kdX5_init 16 rfl) wA_int (nI_pos (by omega)) (nI_clamp (by omega)) (by omega) (by omega) (by omega) ?_
  refine n_put (kdX5_init 17 rfl) pX5_24 (fun _ => rfl) (fun _ => rfl) (fun cs3 => ?_)
  refine n_widen (k2 := 3) (n2 := 3 * N) (by omega) (by omega) ?_
  exact n_vret rfl (kdX5_init 18 rfl)
abbrev mX6_init : hMt := (yX6_init, cX6_init, 1, none)
def tX6_init : hTb := [(0, .aload_n 0, 1, 1), (1, .invokespecial 3, 3, 4), (4, .aload_n 0, 1, 5), (5, .sipush 240, 3, 8), (8, .newarray .int, 2, 10), (10, .putfield 9, 3, 13), (13, .aload_n 0, 1, 14), (14, .bipush 13, 2, 16), (16, .newarray .boolean, 2, 18), (18, .putfield 15, 3, 21), (21, .aload_n 0, 1, 22), (22, .new 19, 3, 25), (25, .dup, 1, 26), (26, .invokespecial 21, 3, 29), (29, .putfield 22, 3, 32), (32, .aload_n 0, 1, 33), (33, .new 26, 3, 36), (36, .dup, 1, 37), (37, .invokespecial 28, 3, 40), (40, .putfield 29, 3, 43), (43, .return_, 1, 44)]
theorem ktX6_init : TbOK mX6_init tX6_init := by
  unfold TbOK
  decide +kernel
theorem kdX6_init (k : Nat) {pc : Nat} {i : Instr} {len nx : Nat} (hk : tX6_init[k]? = some (pc, i, len, nx)) : Dc mX6_init pc i len nx := dc_of ktX6_init k hk
theorem iX6_init : MiI mX6_init := ⟨⟨gdw_of (i := 149) (by decide +kernel) (by decide +kernel), gdw_of (i := 114) (by decide +kernel) (by decide +kernel), by decide, by decide, by decide⟩, gdw_of (i := 148) (by decide +kernel) (by decide +kernel), rfl, rfl⟩
theorem loX6 : Cond.methodLink RX6 3 objectInit ∈ gdw := gdw_of (i := 150) (by decide +kernel) (by decide +kernel)
theorem pX6_9 : Fc RX6 9 5 0 (tyX6 0) true := ⟨TX6, 8, tyX6, rfl, wdX6, tyX6_ok, nmX6, by decide, rfl, rfl, rfl, gdw_of (i := 193) (by decide +kernel) (by decide +kernel)⟩
theorem pX6_15 : Fc RX6 15 5 1 (tyX6 1) true := ⟨TX6, 8, tyX6, rfl, wdX6, tyX6_ok, nmX6, by decide, rfl, rfl, rfl, gdw_of (i := 194) (by decide +kernel) (by decide +kernel)⟩
theorem ncX6_19 : Nc RX6 19 3 blX4 := ⟨RX4, TX4, 3, tyX4, rfl, wdX4, tyX4_ok, gdw_of (i := 151) (by decide +kernel) (by decide +kernel), gdw_of (i := 152) (by decide +kernel) (by decide +kernel), gdw_of (i := 115) (by decide +kernel) (by decide +kernel), rfl, fun z j hj => match j, hj with | 0, _ => rfl | 1, _ => rfl | 2, _ => rfl | j + 3, hj => absurd hj (by omega)⟩
theorem lcX6_21 : Lk RX6 21 mX4_init := Or.inr (by decide +kernel)
theorem pX6_22 : Fc RX6 22 5 2 (tyX6 2) true := ⟨TX6, 8, tyX6, rfl, wdX6, tyX6_ok, nmX6, by decide, rfl, rfl, rfl, gdw_of (i := 195) (by decide +kernel) (by decide +kernel)⟩
theorem ncX6_26 : Nc RX6 26 6 blX7 := ⟨RX7, TX7, 4, tyX7, rfl, wdX7, tyX7_ok, gdw_of (i := 169) (by decide +kernel) (by decide +kernel), gdw_of (i := 170) (by decide +kernel) (by decide +kernel), gdw_of (i := 116) (by decide +kernel) (by decide +kernel), rfl, fun z j hj => match j, hj with | 0, _ => rfl | 1, _ => rfl | 2, _ => rfl | 3, _ => rfl | j + 4, hj => absurd hj (by omega)⟩
theorem lcX6_28 : Lk RX6 28 mX7_init := Or.inr (by decide +kernel)
theorem pX6_29 : Fc RX6 29 5 3 (tyX6 3) true := ⟨TX6, 8, tyX6, rfl, wdX6, tyX6_ok, nmX6, by decide, rfl, rfl, rfl, gdw_of (i := 197) (by decide +kernel) (by decide +kernel)⟩
def NX6 (h : Nat) (cs : List nE) : nR :=
  nput h 0 5 (.inr (.inr (some cs.length))) (cs ++ [.inl (0, 240)]) fun cs1 =>
  nput h 1 5 (.inr (.inr (some cs1.length))) (cs1 ++ [.inl (1, 13)]) fun cs2 =>
  ncal (NX4 cs2.length (cs2 ++ [.inr (.inr (3, blX4))])) fun cs3 =>
  nput h 2 5 (.inr (.inr (some cs2.length))) cs3 fun cs4 =>
  ncal (NX7 cs4.length (cs4 ++ [.inr (.inr (6, blX7))])) fun cs5 =>
  nput h 3 5 (.inr (.inr (some cs4.length))) cs5 fun cs6 =>
  some cs6
set_option maxRecDepth 20000 in
theorem CNX6 (h : Nat) (cs : List nE) : CN mX6_init 2 10 341 [.inr (.inr (some h))] cs (NX6 h cs) := by
  refine cn_ofN (L0 := [(0, .inr (.inr (some h)))]) (by decide +kernel) rfl (fun _ => Nat.le_of_ble_eq_true rfl) (fun _ => rfl) ?_
  unfold NX6
  refine n_aload_n 0 (kdX6_init 0 rfl) rfl ?_
  refine n_objI (kdX6_init 1 rfl) loX6 oi_m oi_c (by decide) ?_
  refine n_aload_n 0 (kdX6_init 2 rfl) rfl ?_
  refine n_sipush (v := 240) (kdX6_init 3 rfl) (by decide) ?_
  refine n_newaI (N := 240) (kdX6_init 4 rfl) wA_int (by decide) (by decide) (by decide) (by decide) (by decide) ?_
  refine n_put (kdX6_init 5 rfl) pX6_9 (fun _ => rfl) (fun _ => rfl) (fun cs1 => ?_)
  refine n_aload_n 0 (kdX6_init 6 rfl) rfl ?_
  refine n_bipush (v := 13) (kdX6_init 7 rfl) (by decide) ?_
  refine n_newaZ (N := 13) (kdX6_init 8 rfl) wA_boolean (by decide) (by decide) (by decide) (by decide) (by decide) ?_
  refine n_put (kdX6_init 9 rfl) pX6_15 (fun _ => rfl) (fun _ => rfl) (fun cs2 => ?_)
  refine n_aload_n 0 (kdX6_init 10 rfl) rfl ?_
  refine n_new (fs := blX4) (kdX6_init 11 rfl) ncX6_19 (by decide) (by show _ + 3 ≤ _; decide) ?_
  refine n_dup (kdX6_init 12 rfl) ?_
  refine n_call (As := []) (S := [.inr (.inr (some cs2.length)), .inr (.inr (some h))]) (mc2 := 3) (ms2 := 45) (df := 1) (kdX6_init 13 rfl) iX4_init lcX6_21 rfl rfl rfl (by decide) (by decide) (by decide) (fun _ => Nat.le_of_ble_eq_true rfl) (CNX4 cs2.length (cs2 ++ [.inr (.inr (3, blX4))])) (fun cs3 => ?_)
  refine n_put (kdX6_init 14 rfl) pX6_22 (fun _ => rfl) (fun _ => rfl) (fun cs4 => ?_)
  refine n_aload_n 0 (kdX6_init 15 rfl) rfl ?_
  refine n_new (fs := blX7) (kdX6_init 16 rfl) ncX6_26 (by decide) (by show _ + 4 ≤ _; decide) ?_
  refine n_dup (kdX6_init 17 rfl) ?_
  refine n_call (As := []) (S := [.inr (.inr (some cs4.length)), .inr (.inr (some h))]) (mc2 := 3) (ms2 := 36) (df := 1) (kdX6_init 18 rfl) iX7_init lcX6_28 rfl rfl rfl (by decide) (by decide) (by decide) (fun _ => Nat.le_of_ble_eq_true rfl) (CNX7 cs4.length (cs4 ++ [.inr (.inr (6, blX7))])) (fun cs5 => ?_)
  refine n_put (kdX6_init 19 rfl) pX6_29 (fun _ => rfl) (fun _ => rfl) (fun cs6 => ?_)
  exact n_vret rfl (kdX6_init 20 rfl)
abbrev mX12_init : hMt := (yX12_init, cX12_init, 1, none)
def tX12_init : hTb := [(0, .aload_n 0, 1, 1), (1, .invokespecial 3, 3, 4), (4, .aload_n 0, 1, 5), (5, .sipush 240, 3, 8), (8, .newarray .int, 2, 10), (10, .putfield 9, 3, 13), (13, .aload_n 0, 1, 14), (14, .bipush 13, 2, 16), (16, .newarray .int, 2, 18), (18, .putfield 13, 3, 21), (21, .aload_n 0, 1, 22), (22, .bipush 16, 2, 24), (24, .newarray .int, 2, 26), (26, .putfield 16, 3, 29), (29, .aload_n 0, 1, 30), (30, .bipush 16, 2, 32), (32, .newarray .int, 2, 34), (34, .putfield 19, 3, 37), (37, .aload_n 0, 1, 38), (38, .bipush 13, 2, 40), (40, .newarray .int, 2, 42), (42, .putfield 22, 3, 45), (45, .aload_n 0, 1, 46), (46, .bipush 16, 2, 48), (48, .newarray .int, 2, 50), (50, .putfield 25, 3, 53), (53, .aload_n 0, 1, 54), (54, .bipush 16, 2, 56), (56, .newarray .int, 2, 58), (58, .putfield 28, 3, 61), (61, .aload_n 0, 1, 62), (62, .sipush 180, 3, 65), (65, .newarray .int, 2, 67), (67, .putfield 31, 3, 70), (70, .aload_n 0, 1, 71), (71, .iconst 5, 1, 72), (72, .newarray .int, 2, 74), (74, .putfield 34, 3, 77), (77, .aload_n 0, 1, 78), (78, .sipush 232, 3, 81), (81, .newarray .int, 2, 83), (83, .putfield 37, 3, 86), (86, .aload_n 0, 1, 87), (87, .iconst 4, 1, 88), (88, .newarray .int, 2, 90), (90, .putfield 40, 3, 93), (93, .aload_n 0, 1, 94), (94, .iconst 3, 1, 95), (95, .putfield 43, 3, 98), (98, .aload_n 0, 1, 99), (99, .iconst 1, 1, 100), (100, .putfield 47, 3, 103), (103, .aload_n 0, 1, 104), (104, .ldc 50, 2, 106), (106, .putfield 51, 3, 109), (109, .aload_n 0, 1, 110), (110, .sipush 9280, 3, 113), (113, .newarray .int, 2, 115), (115, .putfield 54, 3, 118), (118, .aload_n 0, 1, 119), (119, .sipush 255, 3, 122), (122, .newarray .int, 2, 124), (124, .putfield 57, 3, 127), (127, .aload_n 0, 1, 128), (128, .sipush 512, 3, 131), (131, .newarray .int, 2, 133), (133, .putfield 60, 3, 136), (136, .aload_n 0, 1, 137), (137, .sipush 512, 3, 140), (140, .newarray .int, 2, 142), (142, .putfield 63, 3, 145), (145, .aload_n 0, 1, 146), (146, .sipush 512, 3, 149), (149, .newarray .boolean, 2, 151), (151, .putfield 66, 3, 154), (154, .aload_n 0, 1, 155), (155, .sipush 512, 3, 158), (158, .newarray .boolean, 2, 160), (160, .putfield 70, 3, 163), (163, .aload_n 0, 1, 164), (164, .sipush 1398, 3, 167), (167, .newarray .int, 2, 169), (169, .putfield 73, 3, 172), (172, .aload_n 0, 1, 173), (173, .sipush 232, 3, 176), (176, .newarray .int, 2, 178), (178, .putfield 76, 3, 181), (181, .return_, 1, 182)]
theorem ktX12_init : TbOK mX12_init tX12_init := by
  unfold TbOK
  decide +kernel
theorem kdX12_init (k : Nat) {pc : Nat} {i : Instr} {len nx : Nat} (hk : tX12_init[k]? = some (pc, i, len, nx)) : Dc mX12_init pc i len nx := dc_of ktX12_init k hk
theorem iX12_init : MiI mX12_init := ⟨⟨gdw_of (i := 1422) (by decide +kernel) (by decide +kernel), gdw_of (i := 124) (by decide +kernel) (by decide +kernel), by decide, by decide, by decide⟩, gdw_of (i := 1421) (by decide +kernel) (by decide +kernel), rfl, rfl⟩
theorem loX12 : Cond.methodLink RX12 3 objectInit ∈ gdw := gdw_of (i := 1423) (by decide +kernel) (by decide +kernel)
theorem pX12_9 : Fc RX12 9 10 1 (tyX12 1) true := ⟨TX12, 40, tyX12, rfl, wdX12, tyX12_ok, nmX12, by decide, rfl, rfl, rfl, gdw_of (i := 1426) (by decide +kernel) (by decide +kernel)⟩
theorem pX12_13 : Fc RX12 13 10 9 (tyX12 9) true := ⟨TX12, 40, tyX12, rfl, wdX12, tyX12_ok, nmX12, by decide, rfl, rfl, rfl, gdw_of (i := 1434) (by decide +kernel) (by decide +kernel)⟩
theorem pX12_16 : Fc RX12 16 10 10 (tyX12 10) true := ⟨TX12, 40, tyX12, rfl, wdX12, tyX12_ok, nmX12, by decide, rfl, rfl, rfl, gdw_of (i := 1435) (by decide +kernel) (by decide +kernel)⟩
theorem pX12_19 : Fc RX12 19 10 11 (tyX12 11) true := ⟨TX12, 40, tyX12, rfl, wdX12, tyX12_ok, nmX12, by decide, rfl, rfl, rfl, gdw_of (i := 1436) (by decide +kernel) (by decide +kernel)⟩
theorem pX12_22 : Fc RX12 22 10 12 (tyX12 12) true := ⟨TX12, 40, tyX12, rfl, wdX12, tyX12_ok, nmX12, by decide, rfl, rfl, rfl, gdw_of (i := 1437) (by decide +kernel) (by decide +kernel)⟩
theorem pX12_25 : Fc RX12 25 10 13 (tyX12 13) true := ⟨TX12, 40, tyX12, rfl, wdX12, tyX12_ok, nmX12, by decide, rfl, rfl, rfl, gdw_of (i := 1438) (by decide +kernel) (by decide +kernel)⟩
theorem pX12_28 : Fc RX12 28 10 14 (tyX12 14) true := ⟨TX12, 40, tyX12, rfl, wdX12, tyX12_ok, nmX12, by decide, rfl, rfl, rfl, gdw_of (i := 1439) (by decide +kernel) (by decide +kernel)⟩
theorem pX12_31 : Fc RX12 31 10 16 (tyX12 16) true := ⟨TX12, 40, tyX12, rfl, wdX12, tyX12_ok, nmX12, by decide, rfl, rfl, rfl, gdw_of (i := 1441) (by decide +kernel) (by decide +kernel)⟩
theorem pX12_34 : Fc RX12 34 10 17 (tyX12 17) true := ⟨TX12, 40, tyX12, rfl, wdX12, tyX12_ok, nmX12, by decide, rfl, rfl, rfl, gdw_of (i := 1442) (by decide +kernel) (by decide +kernel)⟩
theorem pX12_37 : Fc RX12 37 10 19 (tyX12 19) true := ⟨TX12, 40, tyX12, rfl, wdX12, tyX12_ok, nmX12, by decide, rfl, rfl, rfl, gdw_of (i := 1444) (by decide +kernel) (by decide +kernel)⟩
theorem pX12_40 : Fc RX12 40 10 20 (tyX12 20) true := ⟨TX12, 40, tyX12, rfl, wdX12, tyX12_ok, nmX12, by decide, rfl, rfl, rfl, gdw_of (i := 1445) (by decide +kernel) (by decide +kernel)⟩
theorem pX12_43 : Fc RX12 43 10 21 .int false := ⟨TX12, 40, tyX12, rfl, wdX12, tyX12_ok, nmX12, by decide, rfl, rfl, rfl, gdw_of (i := 1446) (by decide +kernel) (by decide +kernel)⟩
theorem pX12_47 : Fc RX12 47 10 22 .int false := ⟨TX12, 40, tyX12, rfl, wdX12, tyX12_ok, nmX12, by decide, rfl, rfl, rfl, gdw_of (i := 1447) (by decide +kernel) (by decide +kernel)⟩
theorem pX12_51 : Fc RX12 51 10 23 .int false := ⟨TX12, 40, tyX12, rfl, wdX12, tyX12_ok, nmX12, by decide, rfl, rfl, rfl, gdw_of (i := 1448) (by decide +kernel) (by decide +kernel)⟩
theorem pX12_54 : Fc RX12 54 10 27 (tyX12 27) true := ⟨TX12, 40, tyX12, rfl, wdX12, tyX12_ok, nmX12, by decide, rfl, rfl, rfl, gdw_of (i := 1452) (by decide +kernel) (by decide +kernel)⟩
theorem pX12_57 : Fc RX12 57 10 30 (tyX12 30) true := ⟨TX12, 40, tyX12, rfl, wdX12, tyX12_ok, nmX12, by decide, rfl, rfl, rfl, gdw_of (i := 1455) (by decide +kernel) (by decide +kernel)⟩
theorem pX12_60 : Fc RX12 60 10 33 (tyX12 33) true := ⟨TX12, 40, tyX12, rfl, wdX12, tyX12_ok, nmX12, by decide, rfl, rfl, rfl, gdw_of (i := 1458) (by decide +kernel) (by decide +kernel)⟩
theorem pX12_63 : Fc RX12 63 10 34 (tyX12 34) true := ⟨TX12, 40, tyX12, rfl, wdX12, tyX12_ok, nmX12, by decide, rfl, rfl, rfl, gdw_of (i := 1459) (by decide +kernel) (by decide +kernel)⟩
theorem pX12_66 : Fc RX12 66 10 35 (tyX12 35) true := ⟨TX12, 40, tyX12, rfl, wdX12, tyX12_ok, nmX12, by decide, rfl, rfl, rfl, gdw_of (i := 1460) (by decide +kernel) (by decide +kernel)⟩
theorem pX12_70 : Fc RX12 70 10 36 (tyX12 36) true := ⟨TX12, 40, tyX12, rfl, wdX12, tyX12_ok, nmX12, by decide, rfl, rfl, rfl, gdw_of (i := 1461) (by decide +kernel) (by decide +kernel)⟩
theorem pX12_73 : Fc RX12 73 10 37 (tyX12 37) true := ⟨TX12, 40, tyX12, rfl, wdX12, tyX12_ok, nmX12, by decide, rfl, rfl, rfl, gdw_of (i := 1462) (by decide +kernel) (by decide +kernel)⟩
theorem pX12_76 : Fc RX12 76 10 38 (tyX12 38) true := ⟨TX12, 40, tyX12, rfl, wdX12, tyX12_ok, nmX12, by decide, rfl, rfl, rfl, gdw_of (i := 1463) (by decide +kernel) (by decide +kernel)⟩
def NX12 (h : Nat) (cs : List nE) : nR :=
  nput h 1 10 (.inr (.inr (some cs.length))) (cs ++ [.inl (0, 240)]) fun cs1 =>
  nput h 9 10 (.inr (.inr (some cs1.length))) (cs1 ++ [.inl (0, 13)]) fun cs2 =>
  nput h 10 10 (.inr (.inr (some cs2.length))) (cs2 ++ [.inl (0, 16)]) fun cs3 =>
  nput h 11 10 (.inr (.inr (some cs3.length))) (cs3 ++ [.inl (0, 16)]) fun cs4 =>
  nput h 12 10 (.inr (.inr (some cs4.length))) (cs4 ++ [.inl (0, 13)]) fun cs5 =>
  nput h 13 10 (.inr (.inr (some cs5.length))) (cs5 ++ [.inl (0, 16)]) fun cs6 =>
  nput h 14 10 (.inr (.inr (some cs6.length))) (cs6 ++ [.inl (0, 16)]) fun cs7 =>
  nput h 16 10 (.inr (.inr (some cs7.length))) (cs7 ++ [.inl (0, 180)]) fun cs8 =>
  nput h 17 10 (.inr (.inr (some cs8.length))) (cs8 ++ [.inl (0, 5)]) fun cs9 =>
  nput h 19 10 (.inr (.inr (some cs9.length))) (cs9 ++ [.inl (0, 232)]) fun cs10 =>
  nput h 20 10 (.inr (.inr (some cs10.length))) (cs10 ++ [.inl (0, 4)]) fun cs11 =>
  nput h 21 10 (.inl 3) cs11 fun cs12 =>
  nput h 22 10 (.inl 1) cs12 fun cs13 =>
  nput h 23 10 (.inl (-1000000000)) cs13 fun cs14 =>
  nput h 27 10 (.inr (.inr (some cs14.length))) (cs14 ++ [.inl (0, 9280)]) fun cs15 =>
  nput h 30 10 (.inr (.inr (some cs15.length))) (cs15 ++ [.inl (0, 255)]) fun cs16 =>
  nput h 33 10 (.inr (.inr (some cs16.length))) (cs16 ++ [.inl (0, 512)]) fun cs17 =>
  nput h 34 10 (.inr (.inr (some cs17.length))) (cs17 ++ [.inl (0, 512)]) fun cs18 =>
  nput h 35 10 (.inr (.inr (some cs18.length))) (cs18 ++ [.inl (1, 512)]) fun cs19 =>
  nput h 36 10 (.inr (.inr (some cs19.length))) (cs19 ++ [.inl (1, 512)]) fun cs20 =>
  nput h 37 10 (.inr (.inr (some cs20.length))) (cs20 ++ [.inl (0, 1398)]) fun cs21 =>
  nput h 38 10 (.inr (.inr (some cs21.length))) (cs21 ++ [.inl (0, 232)]) fun cs22 =>
  some cs22
set_option maxRecDepth 20000 in
theorem CNX12 (h : Nat) (cs : List nE) : CN mX12_init 1 19 13964 [.inr (.inr (some h))] cs (NX12 h cs) := by
  refine cn_ofN (L0 := [(0, .inr (.inr (some h)))]) (by decide +kernel) rfl (fun _ => Nat.le_of_ble_eq_true rfl) (fun _ => rfl) ?_
  unfold NX12
  refine n_aload_n 0 (kdX12_init 0 rfl) rfl ?_
  refine n_objI (kdX12_init 1 rfl) loX12 oi_m oi_c (by decide) ?_
  refine n_aload_n 0 (kdX12_init 2 rfl) rfl ?_
  refine n_sipush (v := 240) (kdX12_init 3 rfl) (by decide) ?_
  refine n_newaI (N := 240) (kdX12_init 4 rfl) wA_int (by decide) (by decide) (by decide) (by decide) (by decide) ?_
  refine n_put (kdX12_init 5 rfl) pX12_9 (fun _ => rfl) (fun _ => rfl) (fun cs1 => ?_)
  refine n_aload_n 0 (kdX12_init 6 rfl) rfl ?_
  refine n_bipush (v := 13) (kdX12_init 7 rfl) (by decide) ?_
  refine n_newaI (N := 13) (kdX12_init 8 rfl) wA_int (by decide) (by decide) (by decide) (by decide) (by decide) ?_
  refine n_put (kdX12_init 9 rfl) pX12_13 (fun _ => rfl) (fun _ => rfl) (fun cs2 => ?_)
  refine n_aload_n 0 (kdX12_init 10 rfl) rfl ?_
  refine n_bipush (v := 16) (kdX12_init 11 rfl) (by decide) ?_
  refine n_newaI (N := 16) (kdX12_init 12 rfl) wA_int (by decide) (by decide) (by decide) (by decide) (by decide) ?_
  refine n_put (kdX12_init 13 rfl) pX12_16 (fun _ => rfl) (fun _ => rfl) (fun cs3 => ?_)
  refine n_aload_n 0 (kdX12_init 14 rfl) rfl ?_
  refine n_bipush (v := 16) (kdX12_init 15 rfl) (by decide) ?_
  refine n_newaI (N := 16) (kdX12_init 16 rfl) wA_int (by decide) (by decide) (by decide) (by decide) (by decide) ?_
  refine n_put (kdX12_init 17 rfl) pX12_19 (fun _ => rfl) (fun _ => rfl) (fun cs4 => ?_)
  refine n_aload_n 0 (kdX12_init 18 rfl) rfl ?_
  refine n_bipush (v := 13) (kdX12_init 19 rfl) (by decide) ?_
  refine n_newaI (N := 13) (kdX12_init 20 rfl) wA_int (by decide) (by decide) (by decide) (by decide) (by decide) ?_
  refine n_put (kdX12_init 21 rfl) pX12_22 (fun _ => rfl) (fun _ => rfl) (fun cs5 => ?_)
  refine n_aload_n 0 (kdX12_init 22 rfl) rfl ?_
  refine n_bipush (v := 16) (kdX12_init 23 rfl) (by decide) ?_
  refine n_newaI (N := 16) (kdX12_init 24 rfl) wA_int (by decide) (by decide) (by decide) (by decide) (by decide) ?_
  refine n_put (kdX12_init 25 rfl) pX12_25 (fun _ => rfl) (fun _ => rfl) (fun cs6 => ?_)
  refine n_aload_n 0 (kdX12_init 26 rfl) rfl ?_
  refine n_bipush (v := 16) (kdX12_init 27 rfl) (by decide) ?_
  refine n_newaI (N := 16) (kdX12_init 28 rfl) wA_int (by decide) (by decide) (by decide) (by decide) (by decide) ?_
  refine n_put (kdX12_init 29 rfl) pX12_28 (fun _ => rfl) (fun _ => rfl) (fun cs7 => ?_)
  refine n_aload_n 0 (kdX12_init 30 rfl) rfl ?_
  refine n_sipush (v := 180) (kdX12_init 31 rfl) (by decide) ?_
  refine n_newaI (N := 180) (kdX12_init 32 rfl) wA_int (by decide) (by decide) (by decide) (by decide) (by decide) ?_
  refine n_put (kdX12_init 33 rfl) pX12_31 (fun _ => rfl) (fun _ => rfl) (fun cs8 => ?_)
  refine n_aload_n 0 (kdX12_init 34 rfl) rfl ?_
  refine n_iconst (v := 5) (kdX12_init 35 rfl) (by decide) ?_
  refine n_newaI (N := 5) (kdX12_init 36 rfl) wA_int (by decide) (by decide) (by decide) (by decide) (by decide) ?_
  refine n_put (kdX12_init 37 rfl) pX12_34 (fun _ => rfl) (fun _ => rfl) (fun cs9 => ?_)
  refine n_aload_n 0 (kdX12_init 38 rfl) rfl ?_
  refine n_sipush (v := 232) (kdX12_init 39 rfl) (by decide) ?_
  refine n_newaI (N := 232) (kdX12_init 40 rfl) wA_int (by decide) (by decide) (by decide) (by decide) (by decide) ?_
  refine n_put (kdX12_init 41 rfl) pX12_37 (fun _ => rfl) (fun _ => rfl) (fun cs10 => ?_)
  refine n_aload_n 0 (kdX12_init 42 rfl) rfl ?_
  refine n_iconst (v := 4) (kdX12_init 43 rfl) (by decide) ?_
  refine n_newaI (N := 4) (kdX12_init 44 rfl) wA_int (by decide) (by decide) (by decide) (by decide) (by decide) ?_
  refine n_put (kdX12_init 45 rfl) pX12_40 (fun _ => rfl) (fun _ => rfl) (fun cs11 => ?_)
  refine n_aload_n 0 (kdX12_init 46 rfl) rfl ?_
  refine n_iconst (v := 3) (kdX12_init 47 rfl) (by decide) ?_
  refine n_put (kdX12_init 48 rfl) pX12_43 (fun _ => rfl) (fun _ => rfl) (fun cs12 => ?_)
  refine n_aload_n 0 (kdX12_init 49 rfl) rfl ?_
  refine n_iconst (v := 1) (kdX12_init 50 rfl) (by decide) ?_
  refine n_put (kdX12_init 51 rfl) pX12_47 (fun _ => rfl) (fun _ => rfl) (fun cs13 => ?_)
  refine n_aload_n 0 (kdX12_init 52 rfl) rfl ?_
  refine n_ldc (kdX12_init 53 rfl) cX12_50 ?_
  refine n_put (kdX12_init 54 rfl) pX12_51 (fun _ => rfl) (fun _ => rfl) (fun cs14 => ?_)
  refine n_aload_n 0 (kdX12_init 55 rfl) rfl ?_
  refine n_sipush (v := 9280) (kdX12_init 56 rfl) (by decide) ?_
  refine n_newaI (N := 9280) (kdX12_init 57 rfl) wA_int (by decide) (by decide) (by decide) (by decide) (by decide) ?_
  refine n_put (kdX12_init 58 rfl) pX12_54 (fun _ => rfl) (fun _ => rfl) (fun cs15 => ?_)
  refine n_aload_n 0 (kdX12_init 59 rfl) rfl ?_
  refine n_sipush (v := 255) (kdX12_init 60 rfl) (by decide) ?_
  refine n_newaI (N := 255) (kdX12_init 61 rfl) wA_int (by decide) (by decide) (by decide) (by decide) (by decide) ?_
  refine n_put (kdX12_init 62 rfl) pX12_57 (fun _ => rfl) (fun _ => rfl) (fun cs16 => ?_)
  refine n_aload_n 0 (kdX12_init 63 rfl) rfl ?_
  refine n_sipush (v := 512) (kdX12_init 64 rfl) (by decide) ?_
  refine n_newaI (N := 512) (kdX12_init 65 rfl) wA_int (by decide) (by decide) (by decide) (by decide) (by decide) ?_
  refine n_put (kdX12_init 66 rfl) pX12_60 (fun _ => rfl) (fun _ => rfl) (fun cs17 => ?_)
  refine n_aload_n 0 (kdX12_init 67 rfl) rfl ?_
  refine n_sipush (v := 512) (kdX12_init 68 rfl) (by decide) ?_
  refine n_newaI (N := 512) (kdX12_init 69 rfl) wA_int (by decide) (by decide) (by decide) (by decide) (by decide) ?_
  refine n_put (kdX12_init 70 rfl) pX12_63 (fun _ => rfl) (fun _ => rfl) (fun cs18 => ?_)
  refine n_aload_n 0 (kdX12_init 71 rfl) rfl ?_
  refine n_sipush (v := 512) (kdX12_init 72 rfl) (by decide) ?_
  refine n_newaZ (N := 512) (kdX12_init 73 rfl) wA_boolean (by decide) (by decide) (by decide) (by decide) (by decide) ?_
  refine n_put (kdX12_init 74 rfl) pX12_66 (fun _ => rfl) (fun _ => rfl) (fun cs19 => ?_)
  refine n_aload_n 0 (kdX12_init 75 rfl) rfl ?_
  refine n_sipush (v := 512) (kdX12_init 76 rfl) (by decide) ?_
  refine n_newaZ (N := 512) (kdX12_init 77 rfl) wA_boolean (by decide) (by decide) (by decide) (by decide) (by decide) ?_
  refine n_put (kdX12_init 78 rfl) pX12_70 (fun _ => rfl) (fun _ => rfl) (fun cs20 => ?_)
  refine n_aload_n 0 (kdX12_init 79 rfl) rfl ?_
  refine n_sipush (v := 1398) (kdX12_init 80 rfl) (by decide) ?_
  refine n_newaI (N := 1398) (kdX12_init 81 rfl) wA_int (by decide) (by decide) (by decide) (by decide) (by decide) ?_
  refine n_put (kdX12_init 82 rfl) pX12_73 (fun _ => rfl) (fun _ => rfl) (fun cs21 => ?_)
  refine n_aload_n 0 (kdX12_init 83 rfl) rfl ?_
  refine n_sipush (v := 232) (kdX12_init 84 rfl) (by decide) ?_
  refine n_newaI (N := 232) (kdX12_init 85 rfl) wA_int (by decide) (by decide) (by decide) (by decide) (by decide) ?_
  refine n_put (kdX12_init 86 rfl) pX12_76 (fun _ => rfl) (fun _ => rfl) (fun cs22 => ?_)
  exact n_vret rfl (kdX12_init 87 rfl)
