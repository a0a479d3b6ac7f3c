/-! facts of the tables, by program -/
section
variable {mt : hMt} {d pc nx : Nat} {L : hL} {S : List hV} {m : hM}
theorem g_idivx {x y : Int32} {k : Int32 → hR} (hd : Dc mt pc .idiv 1 nx) (h : ∀ z, G mt d nx L (.inl z :: S) m (k z)) : G mt d pc L (.inl y :: .inl x :: S) m (jidiv x y k) := g_idiv hd (h _)
theorem g_iremx {x y : Int32} {k : Int32 → hR} (hd : Dc mt pc .irem 1 nx) (h : ∀ z, G mt d nx L (.inl z :: S) m (k z)) : G mt d pc L (.inl y :: .inl x :: S) m (jirem x y k) := g_irem hd (h _)
theorem g_lremx {x y : Int64} {k : Int64 → hR} (hd : Dc mt pc .lrem 1 nx) (h : ∀ z, G mt d nx L (.inr (.inl z) :: S) m (k z)) : G mt d pc L (.inr (.inl y) :: .inr (.inl x) :: S) m (jlrem x y k) := g_lrem hd (h _)
end
def FU : Nat := 100000
theorem wdX0 : ∀ w ∈ u_ws RX0 TX0 2, w ∈ gdw := by
  have h : ∀ w ∈ u_ws RX0 TX0 2, w ∈ lw_tbl ∧ goodWord w = true := by decide +kernel
  exact fun w hw => List.mem_filter.mpr (h w hw)
theorem wdX1 : ∀ w ∈ u_ws RX1 TX1 6, w ∈ gdw := by
  have h : ∀ w ∈ u_ws RX1 TX1 6, w ∈ lw_tbl ∧ goodWord w = true := by decide +kernel
  exact fun w hw => List.mem_filter.mpr (h w hw)
theorem wdX3 : ∀ w ∈ u_ws RX3 TX3 5, w ∈ gdw := by
  have h : ∀ w ∈ u_ws RX3 TX3 5, w ∈ lw_tbl ∧ goodWord w = true := by decide +kernel
  exact fun w hw => List.mem_filter.mpr (h w hw)
theorem wdX4 : ∀ w ∈ u_ws RX4 TX4 3, w ∈ gdw := by
  have h : ∀ w ∈ u_ws RX4 TX4 3, w ∈ lw_tbl ∧ goodWord w = true := by decide +kernel
  exact fun w hw => List.mem_filter.mpr (h w hw)
theorem wdX5 : ∀ w ∈ u_ws RX5 TX5 3, w ∈ gdw := by
  have h : ∀ w ∈ u_ws RX5 TX5 3, w ∈ lw_tbl ∧ goodWord w = true := by decide +kernel
  exact fun w hw => List.mem_filter.mpr (h w hw)
theorem wdX6 : ∀ w ∈ u_ws RX6 TX6 8, w ∈ gdw := by
  have h : ∀ w ∈ u_ws RX6 TX6 8, w ∈ lw_tbl ∧ goodWord w = true := by decide +kernel
  exact fun w hw => List.mem_filter.mpr (h w hw)
theorem wdX7 : ∀ w ∈ u_ws RX7 TX7 4, w ∈ gdw := by
  have h : ∀ w ∈ u_ws RX7 TX7 4, w ∈ lw_tbl ∧ goodWord w = true := by decide +kernel
  exact fun w hw => List.mem_filter.mpr (h w hw)
theorem wdX8 : ∀ w ∈ u_ws RX8 TX8 18, w ∈ gdw := by
  have h : ∀ w ∈ u_ws RX8 TX8 18, w ∈ lw_tbl ∧ goodWord w = true := by decide +kernel
  exact fun w hw => List.mem_filter.mpr (h w hw)
theorem wdX10 : ∀ w ∈ u_ws RX10 TX10 15, w ∈ gdw := by
  have h : ∀ w ∈ u_ws RX10 TX10 15, w ∈ lw_tbl ∧ goodWord w = true := by decide +kernel
  exact fun w hw => List.mem_filter.mpr (h w hw)
theorem wdX11 : ∀ w ∈ u_ws RX11 TX11 18, w ∈ gdw := by
  have h : ∀ w ∈ u_ws RX11 TX11 18, w ∈ lw_tbl ∧ goodWord w = true := by decide +kernel
  exact fun w hw => List.mem_filter.mpr (h w hw)
theorem wdX12 : ∀ w ∈ u_ws RX12 TX12 40, w ∈ gdw := by
  have h : ∀ w ∈ u_ws RX12 TX12 40, w ∈ lw_tbl ∧ goodWord w = true := by decide +kernel
  exact fun w hw => List.mem_filter.mpr (h w hw)
theorem fX11_10 : Fl RX11 10 0 0 (tyX11 0) true := ⟨9, RX11, TX11, 18, tyX11, by decide, rfl, rfl, rfl, wdX11, tyX11_ok, nmX11, by decide, rfl, rfl, rfl, Or.inl (gdw_of (i := 466) (by decide +kernel) (by decide +kernel))⟩
theorem fX11_19 : Fl RX11 19 0 1 (tyX11 1) true := ⟨9, RX11, TX11, 18, tyX11, by decide, rfl, rfl, rfl, wdX11, tyX11_ok, nmX11, by decide, rfl, rfl, rfl, Or.inl (gdw_of (i := 467) (by decide +kernel) (by decide +kernel))⟩
theorem fX11_25 : Fl RX11 25 0 2 (tyX11 2) true := ⟨9, RX11, TX11, 18, tyX11, by decide, rfl, rfl, rfl, wdX11, tyX11_ok, nmX11, by decide, rfl, rfl, rfl, Or.inl (gdw_of (i := 468) (by decide +kernel) (by decide +kernel))⟩
theorem fX11_32 : Fl RX11 32 0 3 (tyX11 3) true := ⟨9, RX11, TX11, 18, tyX11, by decide, rfl, rfl, rfl, wdX11, tyX11_ok, nmX11, by decide, rfl, rfl, rfl, Or.inl (gdw_of (i := 469) (by decide +kernel) (by decide +kernel))⟩
theorem fX11_36 : Fl RX11 36 0 4 (tyX11 4) true := ⟨9, RX11, TX11, 18, tyX11, by decide, rfl, rfl, rfl, wdX11, tyX11_ok, nmX11, by decide, rfl, rfl, rfl, Or.inl (gdw_of (i := 470) (by decide +kernel) (by decide +kernel))⟩
theorem fX11_45 : Fl RX11 45 0 5 (tyX11 5) true := ⟨9, RX11, TX11, 18, tyX11, by decide, rfl, rfl, rfl, wdX11, tyX11_ok, nmX11, by decide, rfl, rfl, rfl, Or.inl (gdw_of (i := 471) (by decide +kernel) (by decide +kernel))⟩
theorem fX11_49 : Fl RX11 49 0 6 (tyX11 6) true := ⟨9, RX11, TX11, 18, tyX11, by decide, rfl, rfl, rfl, wdX11, tyX11_ok, nmX11, by decide, rfl, rfl, rfl, Or.inl (gdw_of (i := 472) (by decide +kernel) (by decide +kernel))⟩
theorem fX11_52 : Fl RX11 52 0 7 (tyX11 7) true := ⟨9, RX11, TX11, 18, tyX11, by decide, rfl, rfl, rfl, wdX11, tyX11_ok, nmX11, by decide, rfl, rfl, rfl, Or.inl (gdw_of (i := 473) (by decide +kernel) (by decide +kernel))⟩
theorem fX11_58 : Fl RX11 58 0 8 (tyX11 8) true := ⟨9, RX11, TX11, 18, tyX11, by decide, rfl, rfl, rfl, wdX11, tyX11_ok, nmX11, by decide, rfl, rfl, rfl, Or.inl (gdw_of (i := 474) (by decide +kernel) (by decide +kernel))⟩
theorem fX11_65 : Fl RX11 65 0 9 (tyX11 9) true := ⟨9, RX11, TX11, 18, tyX11, by decide, rfl, rfl, rfl, wdX11, tyX11_ok, nmX11, by decide, rfl, rfl, rfl, Or.inl (gdw_of (i := 475) (by decide +kernel) (by decide +kernel))⟩
theorem fX11_72 : Fl RX11 72 0 10 (tyX11 10) true := ⟨9, RX11, TX11, 18, tyX11, by decide, rfl, rfl, rfl, wdX11, tyX11_ok, nmX11, by decide, rfl, rfl, rfl, Or.inl (gdw_of (i := 476) (by decide +kernel) (by decide +kernel))⟩
theorem fX11_76 : Fl RX11 76 0 11 (tyX11 11) true := ⟨9, RX11, TX11, 18, tyX11, by decide, rfl, rfl, rfl, wdX11, tyX11_ok, nmX11, by decide, rfl, rfl, rfl, Or.inl (gdw_of (i := 477) (by decide +kernel) (by decide +kernel))⟩
theorem fX11_80 : Fl RX11 80 0 17 .int false := ⟨9, RX11, TX11, 18, tyX11, by decide, rfl, rfl, rfl, wdX11, tyX11_ok, nmX11, by decide, rfl, rfl, rfl, Or.inl (gdw_of (i := 483) (by decide +kernel) (by decide +kernel))⟩
theorem fX11_106 : Fl RX11 106 0 12 .boolean false := ⟨9, RX11, TX11, 18, tyX11, by decide, rfl, rfl, rfl, wdX11, tyX11_ok, nmX11, by decide, rfl, rfl, rfl, Or.inl (gdw_of (i := 478) (by decide +kernel) (by decide +kernel))⟩
theorem fX11_137 : Fl RX11 137 12 0 (tyX8 0) true := ⟨7, RX8, TX8, 18, tyX8, by decide, rfl, rfl, rfl, wdX8, tyX8_ok, nmX8, by decide, rfl, rfl, rfl, Or.inr (by decide +kernel)⟩
theorem fX11_140 : Fl RX11 140 12 1 (tyX8 1) true := ⟨7, RX8, TX8, 18, tyX8, by decide, rfl, rfl, rfl, wdX8, tyX8_ok, nmX8, by decide, rfl, rfl, rfl, Or.inr (by decide +kernel)⟩
theorem fX11_153 : Fl RX11 153 12 6 .int false := ⟨7, RX8, TX8, 18, tyX8, by decide, rfl, rfl, rfl, wdX8, tyX8_ok, nmX8, by decide, rfl, rfl, rfl, Or.inr (by decide +kernel)⟩
theorem fX11_162 : Fl RX11 162 0 14 .int false := ⟨9, RX11, TX11, 18, tyX11, by decide, rfl, rfl, rfl, wdX11, tyX11_ok, nmX11, by decide, rfl, rfl, rfl, Or.inl (gdw_of (i := 480) (by decide +kernel) (by decide +kernel))⟩
theorem fX11_165 : Fl RX11 165 1 4 .int false := ⟨5, RX6, TX6, 8, tyX6, by decide, rfl, rfl, rfl, wdX6, tyX6_ok, nmX6, by decide, rfl, rfl, rfl, Or.inr (by decide +kernel)⟩
theorem fX11_168 : Fl RX11 168 0 16 .int false := ⟨9, RX11, TX11, 18, tyX11, by decide, rfl, rfl, rfl, wdX11, tyX11_ok, nmX11, by decide, rfl, rfl, rfl, Or.inl (gdw_of (i := 482) (by decide +kernel) (by decide +kernel))⟩
theorem fX11_181 : Fl RX11 181 12 17 .long false := ⟨7, RX8, TX8, 18, tyX8, by decide, rfl, rfl, rfl, wdX8, tyX8_ok, nmX8, by decide, rfl, rfl, rfl, Or.inr (by decide +kernel)⟩
theorem fX11_200 : Fl RX11 200 0 13 .boolean false := ⟨9, RX11, TX11, 18, tyX11, by decide, rfl, rfl, rfl, wdX11, tyX11_ok, nmX11, by decide, rfl, rfl, rfl, Or.inl (gdw_of (i := 479) (by decide +kernel) (by decide +kernel))⟩
theorem fX11_213 : Fl RX11 213 12 5 (tyX8 5) true := ⟨7, RX8, TX8, 18, tyX8, by decide, rfl, rfl, rfl, wdX8, tyX8_ok, nmX8, by decide, rfl, rfl, rfl, Or.inr (by decide +kernel)⟩
theorem fX11_217 : Fl RX11 217 18 3 .int false := ⟨8, RX10, TX10, 15, tyX10, by decide, rfl, rfl, rfl, wdX10, tyX10_ok, nmX10, by decide, rfl, rfl, rfl, Or.inr (by decide +kernel)⟩
theorem fX11_222 : Fl RX11 222 8 3 .int false := ⟨6, RX7, TX7, 4, tyX7, by decide, rfl, rfl, rfl, wdX7, tyX7_ok, nmX7, by decide, rfl, rfl, rfl, Or.inr (by decide +kernel)⟩
theorem fX11_233 : Fl RX11 233 8 0 (tyX7 0) true := ⟨6, RX7, TX7, 4, tyX7, by decide, rfl, rfl, rfl, wdX7, tyX7_ok, nmX7, by decide, rfl, rfl, rfl, Or.inr (by decide +kernel)⟩
theorem fX11_236 : Fl RX11 236 8 1 (tyX7 1) true := ⟨6, RX7, TX7, 4, tyX7, by decide, rfl, rfl, rfl, wdX7, tyX7_ok, nmX7, by decide, rfl, rfl, rfl, Or.inr (by decide +kernel)⟩
theorem fX11_239 : Fl RX11 239 8 2 (tyX7 2) true := ⟨6, RX7, TX7, 4, tyX7, by decide, rfl, rfl, rfl, wdX7, tyX7_ok, nmX7, by decide, rfl, rfl, rfl, Or.inr (by decide +kernel)⟩
theorem fX11_301 : Fl RX11 301 24 3 .int false := ⟨2, RX3, TX3, 5, tyX3, by decide, rfl, rfl, rfl, wdX3, tyX3_ok, nmX3, by decide, rfl, rfl, rfl, Or.inr (by decide +kernel)⟩
theorem fX11_304 : Fl RX11 304 24 4 .int false := ⟨2, RX3, TX3, 5, tyX3, by decide, rfl, rfl, rfl, wdX3, tyX3_ok, nmX3, by decide, rfl, rfl, rfl, Or.inr (by decide +kernel)⟩
theorem fX11_316 : Fl RX11 316 18 10 .int false := ⟨8, RX10, TX10, 15, tyX10, by decide, rfl, rfl, rfl, wdX10, tyX10_ok, nmX10, by decide, rfl, rfl, rfl, Or.inr (by decide +kernel)⟩
theorem fX11_322 : Fl RX11 322 18 5 .int false := ⟨8, RX10, TX10, 15, tyX10, by decide, rfl, rfl, rfl, wdX10, tyX10_ok, nmX10, by decide, rfl, rfl, rfl, Or.inr (by decide +kernel)⟩
theorem fX11_325 : Fl RX11 325 18 2 .boolean false := ⟨8, RX10, TX10, 15, tyX10, by decide, rfl, rfl, rfl, wdX10, tyX10_ok, nmX10, by decide, rfl, rfl, rfl, Or.inr (by decide +kernel)⟩
theorem fX11_328 : Fl RX11 328 12 7 .int false := ⟨7, RX8, TX8, 18, tyX8, by decide, rfl, rfl, rfl, wdX8, tyX8_ok, nmX8, by decide, rfl, rfl, rfl, Or.inr (by decide +kernel)⟩
theorem fX11_331 : Fl RX11 331 12 9 .int false := ⟨7, RX8, TX8, 18, tyX8, by decide, rfl, rfl, rfl, wdX8, tyX8_ok, nmX8, by decide, rfl, rfl, rfl, Or.inr (by decide +kernel)⟩
theorem fX11_344 : Fl RX11 344 1 2 (tyX6 2) true := ⟨5, RX6, TX6, 8, tyX6, by decide, rfl, rfl, rfl, wdX6, tyX6_ok, nmX6, by decide, rfl, rfl, rfl, Or.inr (by decide +kernel)⟩
theorem fX11_354 : Fl RX11 354 1 3 (tyX6 3) true := ⟨5, RX6, TX6, 8, tyX6, by decide, rfl, rfl, rfl, wdX6, tyX6_ok, nmX6, by decide, rfl, rfl, rfl, Or.inr (by decide +kernel)⟩
theorem fX11_372 : Fl RX11 372 12 15 .boolean false := ⟨7, RX8, TX8, 18, tyX8, by decide, rfl, rfl, rfl, wdX8, tyX8_ok, nmX8, by decide, rfl, rfl, rfl, Or.inr (by decide +kernel)⟩
theorem fX11_375 : Fl RX11 375 12 16 .boolean false := ⟨7, RX8, TX8, 18, tyX8, by decide, rfl, rfl, rfl, wdX8, tyX8_ok, nmX8, by decide, rfl, rfl, rfl, Or.inr (by decide +kernel)⟩
theorem fX11_378 : Fl RX11 378 12 12 .int false := ⟨7, RX8, TX8, 18, tyX8, by decide, rfl, rfl, rfl, wdX8, tyX8_ok, nmX8, by decide, rfl, rfl, rfl, Or.inr (by decide +kernel)⟩
theorem fX11_381 : Fl RX11 381 12 13 .int false := ⟨7, RX8, TX8, 18, tyX8, by decide, rfl, rfl, rfl, wdX8, tyX8_ok, nmX8, by decide, rfl, rfl, rfl, Or.inr (by decide +kernel)⟩
theorem fX11_423 : Fl RX11 423 0 15 .int false := ⟨9, RX11, TX11, 18, tyX11, by decide, rfl, rfl, rfl, wdX11, tyX11_ok, nmX11, by decide, rfl, rfl, rfl, Or.inl (gdw_of (i := 481) (by decide +kernel) (by decide +kernel))⟩
theorem fX0_13 : Fl RX0 13 34 0 (tyX0 0) true := ⟨0, RX0, TX0, 2, tyX0, by decide, rfl, rfl, rfl, wdX0, tyX0_ok, nmX0, by decide, rfl, rfl, rfl, Or.inl (gdw_of (i := 458) (by decide +kernel) (by decide +kernel))⟩
theorem fX0_17 : Fl RX0 17 34 1 (tyX0 1) true := ⟨0, RX0, TX0, 2, tyX0, by decide, rfl, rfl, rfl, wdX0, tyX0_ok, nmX0, by decide, rfl, rfl, rfl, Or.inl (gdw_of (i := 459) (by decide +kernel) (by decide +kernel))⟩
theorem fX0_30 : Fl RX0 30 12 15 .boolean false := ⟨7, RX8, TX8, 18, tyX8, by decide, rfl, rfl, rfl, wdX8, tyX8_ok, nmX8, by decide, rfl, rfl, rfl, Or.inr (by decide +kernel)⟩
theorem fX0_38 : Fl RX0 38 12 16 .boolean false := ⟨7, RX8, TX8, 18, tyX8, by decide, rfl, rfl, rfl, wdX8, tyX8_ok, nmX8, by decide, rfl, rfl, rfl, Or.inr (by decide +kernel)⟩
theorem fX0_41 : Fl RX0 41 12 11 .int false := ⟨7, RX8, TX8, 18, tyX8, by decide, rfl, rfl, rfl, wdX8, tyX8_ok, nmX8, by decide, rfl, rfl, rfl, Or.inr (by decide +kernel)⟩
theorem fX0_65 : Fl RX0 65 12 0 (tyX8 0) true := ⟨7, RX8, TX8, 18, tyX8, by decide, rfl, rfl, rfl, wdX8, tyX8_ok, nmX8, by decide, rfl, rfl, rfl, Or.inr (by decide +kernel)⟩
theorem fX0_85 : Fl RX0 85 12 12 .int false := ⟨7, RX8, TX8, 18, tyX8, by decide, rfl, rfl, rfl, wdX8, tyX8_ok, nmX8, by decide, rfl, rfl, rfl, Or.inr (by decide +kernel)⟩
theorem fX1_11 : Fl RX1 11 28 0 (tyX1 0) true := ⟨1, RX1, TX1, 6, tyX1, by decide, rfl, rfl, rfl, wdX1, tyX1_ok, nmX1, by decide, rfl, rfl, rfl, Or.inl (gdw_of (i := 431) (by decide +kernel) (by decide +kernel))⟩
theorem fX1_15 : Fl RX1 15 28 1 (tyX1 1) true := ⟨1, RX1, TX1, 6, tyX1, by decide, rfl, rfl, rfl, wdX1, tyX1_ok, nmX1, by decide, rfl, rfl, rfl, Or.inl (gdw_of (i := 432) (by decide +kernel) (by decide +kernel))⟩
theorem fX1_18 : Fl RX1 18 28 2 (tyX1 2) true := ⟨1, RX1, TX1, 6, tyX1, by decide, rfl, rfl, rfl, wdX1, tyX1_ok, nmX1, by decide, rfl, rfl, rfl, Or.inl (gdw_of (i := 433) (by decide +kernel) (by decide +kernel))⟩
theorem fX1_21 : Fl RX1 21 28 3 (tyX1 3) true := ⟨1, RX1, TX1, 6, tyX1, by decide, rfl, rfl, rfl, wdX1, tyX1_ok, nmX1, by decide, rfl, rfl, rfl, Or.inl (gdw_of (i := 434) (by decide +kernel) (by decide +kernel))⟩
theorem fX1_24 : Fl RX1 24 28 4 (tyX1 4) true := ⟨1, RX1, TX1, 6, tyX1, by decide, rfl, rfl, rfl, wdX1, tyX1_ok, nmX1, by decide, rfl, rfl, rfl, Or.inl (gdw_of (i := 435) (by decide +kernel) (by decide +kernel))⟩
theorem fX1_33 : Fl RX1 33 28 5 .int false := ⟨1, RX1, TX1, 6, tyX1, by decide, rfl, rfl, rfl, wdX1, tyX1_ok, nmX1, by decide, rfl, rfl, rfl, Or.inl (gdw_of (i := 436) (by decide +kernel) (by decide +kernel))⟩
theorem fX1_52 : Fl RX1 52 12 0 (tyX8 0) true := ⟨7, RX8, TX8, 18, tyX8, by decide, rfl, rfl, rfl, wdX8, tyX8_ok, nmX8, by decide, rfl, rfl, rfl, Or.inr (by decide +kernel)⟩
theorem fX1_57 : Fl RX1 57 12 7 .int false := ⟨7, RX8, TX8, 18, tyX8, by decide, rfl, rfl, rfl, wdX8, tyX8_ok, nmX8, by decide, rfl, rfl, rfl, Or.inr (by decide +kernel)⟩
theorem fX3_9 : Fl RX3 9 24 0 (tyX3 0) true := ⟨2, RX3, TX3, 5, tyX3, by decide, rfl, rfl, rfl, wdX3, tyX3_ok, nmX3, by decide, rfl, rfl, rfl, Or.inl (gdw_of (i := 407) (by decide +kernel) (by decide +kernel))⟩
theorem fX3_15 : Fl RX3 15 24 1 (tyX3 1) true := ⟨2, RX3, TX3, 5, tyX3, by decide, rfl, rfl, rfl, wdX3, tyX3_ok, nmX3, by decide, rfl, rfl, rfl, Or.inl (gdw_of (i := 408) (by decide +kernel) (by decide +kernel))⟩
theorem fX3_18 : Fl RX3 18 24 2 (tyX3 2) true := ⟨2, RX3, TX3, 5, tyX3, by decide, rfl, rfl, rfl, wdX3, tyX3_ok, nmX3, by decide, rfl, rfl, rfl, Or.inl (gdw_of (i := 409) (by decide +kernel) (by decide +kernel))⟩
theorem fX3_44 : Fl RX3 44 12 0 (tyX8 0) true := ⟨7, RX8, TX8, 18, tyX8, by decide, rfl, rfl, rfl, wdX8, tyX8_ok, nmX8, by decide, rfl, rfl, rfl, Or.inr (by decide +kernel)⟩
theorem fX3_85 : Fl RX3 85 12 7 .int false := ⟨7, RX8, TX8, 18, tyX8, by decide, rfl, rfl, rfl, wdX8, tyX8_ok, nmX8, by decide, rfl, rfl, rfl, Or.inr (by decide +kernel)⟩
theorem fX3_96 : Fl RX3 96 12 9 .int false := ⟨7, RX8, TX8, 18, tyX8, by decide, rfl, rfl, rfl, wdX8, tyX8_ok, nmX8, by decide, rfl, rfl, rfl, Or.inr (by decide +kernel)⟩
theorem fX3_105 : Fl RX3 105 24 3 .int false := ⟨2, RX3, TX3, 5, tyX3, by decide, rfl, rfl, rfl, wdX3, tyX3_ok, nmX3, by decide, rfl, rfl, rfl, Or.inl (gdw_of (i := 410) (by decide +kernel) (by decide +kernel))⟩
theorem fX3_108 : Fl RX3 108 24 4 .int false := ⟨2, RX3, TX3, 5, tyX3, by decide, rfl, rfl, rfl, wdX3, tyX3_ok, nmX3, by decide, rfl, rfl, rfl, Or.inl (gdw_of (i := 412) (by decide +kernel) (by decide +kernel))⟩
theorem fX4_9 : Fl RX4 9 4 0 (tyX4 0) true := ⟨3, RX4, TX4, 3, tyX4, by decide, rfl, rfl, rfl, wdX4, tyX4_ok, nmX4, by decide, rfl, rfl, rfl, Or.inl (gdw_of (i := 157) (by decide +kernel) (by decide +kernel))⟩
theorem fX4_15 : Fl RX4 15 4 1 (tyX4 1) true := ⟨3, RX4, TX4, 3, tyX4, by decide, rfl, rfl, rfl, wdX4, tyX4_ok, nmX4, by decide, rfl, rfl, rfl, Or.inl (gdw_of (i := 158) (by decide +kernel) (by decide +kernel))⟩
theorem fX4_18 : Fl RX4 18 4 2 (tyX4 2) true := ⟨3, RX4, TX4, 3, tyX4, by decide, rfl, rfl, rfl, wdX4, tyX4_ok, nmX4, by decide, rfl, rfl, rfl, Or.inl (gdw_of (i := 159) (by decide +kernel) (by decide +kernel))⟩
theorem fX5_15 : Fl RX5 15 20 0 (tyX5 0) true := ⟨4, RX5, TX5, 3, tyX5, by decide, rfl, rfl, rfl, wdX5, tyX5_ok, nmX5, by decide, rfl, rfl, rfl, Or.inl (gdw_of (i := 391) (by decide +kernel) (by decide +kernel))⟩
theorem fX5_21 : Fl RX5 21 20 1 (tyX5 1) true := ⟨4, RX5, TX5, 3, tyX5, by decide, rfl, rfl, rfl, wdX5, tyX5_ok, nmX5, by decide, rfl, rfl, rfl, Or.inl (gdw_of (i := 392) (by decide +kernel) (by decide +kernel))⟩
theorem fX5_24 : Fl RX5 24 20 2 (tyX5 2) true := ⟨4, RX5, TX5, 3, tyX5, by decide, rfl, rfl, rfl, wdX5, tyX5_ok, nmX5, by decide, rfl, rfl, rfl, Or.inl (gdw_of (i := 393) (by decide +kernel) (by decide +kernel))⟩
theorem fX5_34 : Fl RX5 34 18 9 .int false := ⟨8, RX10, TX10, 15, tyX10, by decide, rfl, rfl, rfl, wdX10, tyX10_ok, nmX10, by decide, rfl, rfl, rfl, Or.inr (by decide +kernel)⟩
theorem fX5_40 : Fl RX5 40 18 10 .int false := ⟨8, RX10, TX10, 15, tyX10, by decide, rfl, rfl, rfl, wdX10, tyX10_ok, nmX10, by decide, rfl, rfl, rfl, Or.inr (by decide +kernel)⟩
theorem fX5_43 : Fl RX5 43 18 13 .int false := ⟨8, RX10, TX10, 15, tyX10, by decide, rfl, rfl, rfl, wdX10, tyX10_ok, nmX10, by decide, rfl, rfl, rfl, Or.inr (by decide +kernel)⟩
theorem fX6_9 : Fl RX6 9 1 0 (tyX6 0) true := ⟨5, RX6, TX6, 8, tyX6, by decide, rfl, rfl, rfl, wdX6, tyX6_ok, nmX6, by decide, rfl, rfl, rfl, Or.inl (gdw_of (i := 193) (by decide +kernel) (by decide +kernel))⟩
theorem fX6_15 : Fl RX6 15 1 1 (tyX6 1) true := ⟨5, RX6, TX6, 8, tyX6, by decide, rfl, rfl, rfl, wdX6, tyX6_ok, nmX6, by decide, rfl, rfl, rfl, Or.inl (gdw_of (i := 194) (by decide +kernel) (by decide +kernel))⟩
theorem fX6_22 : Fl RX6 22 1 2 (tyX6 2) true := ⟨5, RX6, TX6, 8, tyX6, by decide, rfl, rfl, rfl, wdX6, tyX6_ok, nmX6, by decide, rfl, rfl, rfl, Or.inl (gdw_of (i := 195) (by decide +kernel) (by decide +kernel))⟩
theorem fX6_29 : Fl RX6 29 1 3 (tyX6 3) true := ⟨5, RX6, TX6, 8, tyX6, by decide, rfl, rfl, rfl, wdX6, tyX6_ok, nmX6, by decide, rfl, rfl, rfl, Or.inl (gdw_of (i := 197) (by decide +kernel) (by decide +kernel))⟩
theorem fX6_37 : Fl RX6 37 1 4 .int false := ⟨5, RX6, TX6, 8, tyX6, by decide, rfl, rfl, rfl, wdX6, tyX6_ok, nmX6, by decide, rfl, rfl, rfl, Or.inl (gdw_of (i := 199) (by decide +kernel) (by decide +kernel))⟩
theorem fX6_49 : Fl RX6 49 1 5 .int false := ⟨5, RX6, TX6, 8, tyX6, by decide, rfl, rfl, rfl, wdX6, tyX6_ok, nmX6, by decide, rfl, rfl, rfl, Or.inl (gdw_of (i := 201) (by decide +kernel) (by decide +kernel))⟩
theorem fX6_52 : Fl RX6 52 1 6 .int false := ⟨5, RX6, TX6, 8, tyX6, by decide, rfl, rfl, rfl, wdX6, tyX6_ok, nmX6, by decide, rfl, rfl, rfl, Or.inl (gdw_of (i := 202) (by decide +kernel) (by decide +kernel))⟩
theorem fX6_66 : Fl RX6 66 8 3 .int false := ⟨6, RX7, TX7, 4, tyX7, by decide, rfl, rfl, rfl, wdX7, tyX7_ok, nmX7, by decide, rfl, rfl, rfl, Or.inr (by decide +kernel)⟩
theorem fX6_113 : Fl RX6 113 1 7 .int false := ⟨5, RX6, TX6, 8, tyX6, by decide, rfl, rfl, rfl, wdX6, tyX6_ok, nmX6, by decide, rfl, rfl, rfl, Or.inl (gdw_of (i := 203) (by decide +kernel) (by decide +kernel))⟩
theorem fX7_9 : Fl RX7 9 8 0 (tyX7 0) true := ⟨6, RX7, TX7, 4, tyX7, by decide, rfl, rfl, rfl, wdX7, tyX7_ok, nmX7, by decide, rfl, rfl, rfl, Or.inl (gdw_of (i := 175) (by decide +kernel) (by decide +kernel))⟩
theorem fX7_15 : Fl RX7 15 8 1 (tyX7 1) true := ⟨6, RX7, TX7, 4, tyX7, by decide, rfl, rfl, rfl, wdX7, tyX7_ok, nmX7, by decide, rfl, rfl, rfl, Or.inl (gdw_of (i := 177) (by decide +kernel) (by decide +kernel))⟩
theorem fX7_18 : Fl RX7 18 8 2 (tyX7 2) true := ⟨6, RX7, TX7, 4, tyX7, by decide, rfl, rfl, rfl, wdX7, tyX7_ok, nmX7, by decide, rfl, rfl, rfl, Or.inl (gdw_of (i := 179) (by decide +kernel) (by decide +kernel))⟩
theorem fX7_21 : Fl RX7 21 8 3 .int false := ⟨6, RX7, TX7, 4, tyX7, by decide, rfl, rfl, rfl, wdX7, tyX7_ok, nmX7, by decide, rfl, rfl, rfl, Or.inl (gdw_of (i := 181) (by decide +kernel) (by decide +kernel))⟩
theorem fX8_9 : Fl RX8 9 12 0 (tyX8 0) true := ⟨7, RX8, TX8, 18, tyX8, by decide, rfl, rfl, rfl, wdX8, tyX8_ok, nmX8, by decide, rfl, rfl, rfl, Or.inl (gdw_of (i := 305) (by decide +kernel) (by decide +kernel))⟩
theorem fX8_15 : Fl RX8 15 12 1 (tyX8 1) true := ⟨7, RX8, TX8, 18, tyX8, by decide, rfl, rfl, rfl, wdX8, tyX8_ok, nmX8, by decide, rfl, rfl, rfl, Or.inl (gdw_of (i := 310) (by decide +kernel) (by decide +kernel))⟩
theorem fX8_18 : Fl RX8 18 12 2 (tyX8 2) true := ⟨7, RX8, TX8, 18, tyX8, by decide, rfl, rfl, rfl, wdX8, tyX8_ok, nmX8, by decide, rfl, rfl, rfl, Or.inl (gdw_of (i := 312) (by decide +kernel) (by decide +kernel))⟩
theorem fX8_21 : Fl RX8 21 12 3 (tyX8 3) true := ⟨7, RX8, TX8, 18, tyX8, by decide, rfl, rfl, rfl, wdX8, tyX8_ok, nmX8, by decide, rfl, rfl, rfl, Or.inl (gdw_of (i := 313) (by decide +kernel) (by decide +kernel))⟩
theorem fX8_24 : Fl RX8 24 12 4 (tyX8 4) true := ⟨7, RX8, TX8, 18, tyX8, by decide, rfl, rfl, rfl, wdX8, tyX8_ok, nmX8, by decide, rfl, rfl, rfl, Or.inl (gdw_of (i := 314) (by decide +kernel) (by decide +kernel))⟩
theorem fX8_30 : Fl RX8 30 12 5 (tyX8 5) true := ⟨7, RX8, TX8, 18, tyX8, by decide, rfl, rfl, rfl, wdX8, tyX8_ok, nmX8, by decide, rfl, rfl, rfl, Or.inl (gdw_of (i := 315) (by decide +kernel) (by decide +kernel))⟩
theorem fX8_41 : Fl RX8 41 12 6 .int false := ⟨7, RX8, TX8, 18, tyX8, by decide, rfl, rfl, rfl, wdX8, tyX8_ok, nmX8, by decide, rfl, rfl, rfl, Or.inl (gdw_of (i := 317) (by decide +kernel) (by decide +kernel))⟩
theorem fX8_45 : Fl RX8 45 12 7 .int false := ⟨7, RX8, TX8, 18, tyX8, by decide, rfl, rfl, rfl, wdX8, tyX8_ok, nmX8, by decide, rfl, rfl, rfl, Or.inl (gdw_of (i := 319) (by decide +kernel) (by decide +kernel))⟩
theorem fX8_48 : Fl RX8 48 12 8 .int false := ⟨7, RX8, TX8, 18, tyX8, by decide, rfl, rfl, rfl, wdX8, tyX8_ok, nmX8, by decide, rfl, rfl, rfl, Or.inl (gdw_of (i := 323) (by decide +kernel) (by decide +kernel))⟩
theorem fX8_57 : Fl RX8 57 12 9 .int false := ⟨7, RX8, TX8, 18, tyX8, by decide, rfl, rfl, rfl, wdX8, tyX8_ok, nmX8, by decide, rfl, rfl, rfl, Or.inl (gdw_of (i := 324) (by decide +kernel) (by decide +kernel))⟩
theorem fX8_60 : Fl RX8 60 12 10 .int false := ⟨7, RX8, TX8, 18, tyX8, by decide, rfl, rfl, rfl, wdX8, tyX8_ok, nmX8, by decide, rfl, rfl, rfl, Or.inl (gdw_of (i := 327) (by decide +kernel) (by decide +kernel))⟩
theorem fX8_63 : Fl RX8 63 12 11 .int false := ⟨7, RX8, TX8, 18, tyX8, by decide, rfl, rfl, rfl, wdX8, tyX8_ok, nmX8, by decide, rfl, rfl, rfl, Or.inl (gdw_of (i := 328) (by decide +kernel) (by decide +kernel))⟩
theorem fX8_66 : Fl RX8 66 12 12 .int false := ⟨7, RX8, TX8, 18, tyX8, by decide, rfl, rfl, rfl, wdX8, tyX8_ok, nmX8, by decide, rfl, rfl, rfl, Or.inl (gdw_of (i := 330) (by decide +kernel) (by decide +kernel))⟩
theorem fX8_69 : Fl RX8 69 12 13 .int false := ⟨7, RX8, TX8, 18, tyX8, by decide, rfl, rfl, rfl, wdX8, tyX8_ok, nmX8, by decide, rfl, rfl, rfl, Or.inl (gdw_of (i := 333) (by decide +kernel) (by decide +kernel))⟩
theorem fX8_72 : Fl RX8 72 12 14 .int false := ⟨7, RX8, TX8, 18, tyX8, by decide, rfl, rfl, rfl, wdX8, tyX8_ok, nmX8, by decide, rfl, rfl, rfl, Or.inl (gdw_of (i := 335) (by decide +kernel) (by decide +kernel))⟩
theorem fX8_75 : Fl RX8 75 12 15 .boolean false := ⟨7, RX8, TX8, 18, tyX8, by decide, rfl, rfl, rfl, wdX8, tyX8_ok, nmX8, by decide, rfl, rfl, rfl, Or.inl (gdw_of (i := 336) (by decide +kernel) (by decide +kernel))⟩
theorem fX8_79 : Fl RX8 79 12 16 .boolean false := ⟨7, RX8, TX8, 18, tyX8, by decide, rfl, rfl, rfl, wdX8, tyX8_ok, nmX8, by decide, rfl, rfl, rfl, Or.inl (gdw_of (i := 339) (by decide +kernel) (by decide +kernel))⟩
theorem fX8_82 : Fl RX8 82 12 17 .long false := ⟨7, RX8, TX8, 18, tyX8, by decide, rfl, rfl, rfl, wdX8, tyX8_ok, nmX8, by decide, rfl, rfl, rfl, Or.inl (gdw_of (i := 342) (by decide +kernel) (by decide +kernel))⟩
theorem fX8_96 : Fl RX8 96 18 2 .boolean false := ⟨8, RX10, TX10, 15, tyX10, by decide, rfl, rfl, rfl, wdX10, tyX10_ok, nmX10, by decide, rfl, rfl, rfl, Or.inr (by decide +kernel)⟩
theorem fX8_99 : Fl RX8 99 18 0 .int false := ⟨8, RX10, TX10, 15, tyX10, by decide, rfl, rfl, rfl, wdX10, tyX10_ok, nmX10, by decide, rfl, rfl, rfl, Or.inr (by decide +kernel)⟩
theorem fX8_102 : Fl RX8 102 18 1 .int false := ⟨8, RX10, TX10, 15, tyX10, by decide, rfl, rfl, rfl, wdX10, tyX10_ok, nmX10, by decide, rfl, rfl, rfl, Or.inr (by decide +kernel)⟩
theorem fX8_105 : Fl RX8 105 18 3 .int false := ⟨8, RX10, TX10, 15, tyX10, by decide, rfl, rfl, rfl, wdX10, tyX10_ok, nmX10, by decide, rfl, rfl, rfl, Or.inr (by decide +kernel)⟩
theorem fX8_108 : Fl RX8 108 18 4 .int false := ⟨8, RX10, TX10, 15, tyX10, by decide, rfl, rfl, rfl, wdX10, tyX10_ok, nmX10, by decide, rfl, rfl, rfl, Or.inr (by decide +kernel)⟩
theorem fX8_111 : Fl RX8 111 18 5 .int false := ⟨8, RX10, TX10, 15, tyX10, by decide, rfl, rfl, rfl, wdX10, tyX10_ok, nmX10, by decide, rfl, rfl, rfl, Or.inr (by decide +kernel)⟩
theorem fX8_114 : Fl RX8 114 18 6 .int false := ⟨8, RX10, TX10, 15, tyX10, by decide, rfl, rfl, rfl, wdX10, tyX10_ok, nmX10, by decide, rfl, rfl, rfl, Or.inr (by decide +kernel)⟩
theorem fX8_117 : Fl RX8 117 18 7 .int false := ⟨8, RX10, TX10, 15, tyX10, by decide, rfl, rfl, rfl, wdX10, tyX10_ok, nmX10, by decide, rfl, rfl, rfl, Or.inr (by decide +kernel)⟩
theorem fX8_120 : Fl RX8 120 18 8 .int false := ⟨8, RX10, TX10, 15, tyX10, by decide, rfl, rfl, rfl, wdX10, tyX10_ok, nmX10, by decide, rfl, rfl, rfl, Or.inr (by decide +kernel)⟩
theorem fX8_202 : Fl RX8 202 18 9 .int false := ⟨8, RX10, TX10, 15, tyX10, by decide, rfl, rfl, rfl, wdX10, tyX10_ok, nmX10, by decide, rfl, rfl, rfl, Or.inr (by decide +kernel)⟩
theorem fX8_205 : Fl RX8 205 18 10 .int false := ⟨8, RX10, TX10, 15, tyX10, by decide, rfl, rfl, rfl, wdX10, tyX10_ok, nmX10, by decide, rfl, rfl, rfl, Or.inr (by decide +kernel)⟩
theorem fX8_208 : Fl RX8 208 18 12 .int false := ⟨8, RX10, TX10, 15, tyX10, by decide, rfl, rfl, rfl, wdX10, tyX10_ok, nmX10, by decide, rfl, rfl, rfl, Or.inr (by decide +kernel)⟩
theorem fX8_211 : Fl RX8 211 18 13 .int false := ⟨8, RX10, TX10, 15, tyX10, by decide, rfl, rfl, rfl, wdX10, tyX10_ok, nmX10, by decide, rfl, rfl, rfl, Or.inr (by decide +kernel)⟩
theorem fX8_229 : Fl RX8 229 18 11 .int false := ⟨8, RX10, TX10, 15, tyX10, by decide, rfl, rfl, rfl, wdX10, tyX10_ok, nmX10, by decide, rfl, rfl, rfl, Or.inr (by decide +kernel)⟩
theorem fX8_231 : Fl RX8 231 18 14 (tyX10 14) true := ⟨8, RX10, TX10, 15, tyX10, by decide, rfl, rfl, rfl, wdX10, tyX10_ok, nmX10, by decide, rfl, rfl, rfl, Or.inr (by decide +kernel)⟩
theorem fX10_9 : Fl RX10 9 18 14 (tyX10 14) true := ⟨8, RX10, TX10, 15, tyX10, by decide, rfl, rfl, rfl, wdX10, tyX10_ok, nmX10, by decide, rfl, rfl, rfl, Or.inl (gdw_of (i := 272) (by decide +kernel) (by decide +kernel))⟩
theorem fX10_15 : Fl RX10 15 18 0 .int false := ⟨8, RX10, TX10, 15, tyX10, by decide, rfl, rfl, rfl, wdX10, tyX10_ok, nmX10, by decide, rfl, rfl, rfl, Or.inl (gdw_of (i := 237) (by decide +kernel) (by decide +kernel))⟩
theorem fX10_19 : Fl RX10 19 18 1 .int false := ⟨8, RX10, TX10, 15, tyX10, by decide, rfl, rfl, rfl, wdX10, tyX10_ok, nmX10, by decide, rfl, rfl, rfl, Or.inl (gdw_of (i := 239) (by decide +kernel) (by decide +kernel))⟩
theorem fX10_22 : Fl RX10 22 18 2 .boolean false := ⟨8, RX10, TX10, 15, tyX10, by decide, rfl, rfl, rfl, wdX10, tyX10_ok, nmX10, by decide, rfl, rfl, rfl, Or.inl (gdw_of (i := 241) (by decide +kernel) (by decide +kernel))⟩
theorem fX10_26 : Fl RX10 26 18 3 .int false := ⟨8, RX10, TX10, 15, tyX10, by decide, rfl, rfl, rfl, wdX10, tyX10_ok, nmX10, by decide, rfl, rfl, rfl, Or.inl (gdw_of (i := 244) (by decide +kernel) (by decide +kernel))⟩
theorem fX10_29 : Fl RX10 29 18 4 .int false := ⟨8, RX10, TX10, 15, tyX10, by decide, rfl, rfl, rfl, wdX10, tyX10_ok, nmX10, by decide, rfl, rfl, rfl, Or.inl (gdw_of (i := 247) (by decide +kernel) (by decide +kernel))⟩
theorem fX10_32 : Fl RX10 32 18 5 .int false := ⟨8, RX10, TX10, 15, tyX10, by decide, rfl, rfl, rfl, wdX10, tyX10_ok, nmX10, by decide, rfl, rfl, rfl, Or.inl (gdw_of (i := 249) (by decide +kernel) (by decide +kernel))⟩
theorem fX10_35 : Fl RX10 35 18 6 .int false := ⟨8, RX10, TX10, 15, tyX10, by decide, rfl, rfl, rfl, wdX10, tyX10_ok, nmX10, by decide, rfl, rfl, rfl, Or.inl (gdw_of (i := 252) (by decide +kernel) (by decide +kernel))⟩
theorem fX10_38 : Fl RX10 38 18 7 .int false := ⟨8, RX10, TX10, 15, tyX10, by decide, rfl, rfl, rfl, wdX10, tyX10_ok, nmX10, by decide, rfl, rfl, rfl, Or.inl (gdw_of (i := 254) (by decide +kernel) (by decide +kernel))⟩
theorem fX10_41 : Fl RX10 41 18 8 .int false := ⟨8, RX10, TX10, 15, tyX10, by decide, rfl, rfl, rfl, wdX10, tyX10_ok, nmX10, by decide, rfl, rfl, rfl, Or.inl (gdw_of (i := 256) (by decide +kernel) (by decide +kernel))⟩
theorem fX10_44 : Fl RX10 44 18 9 .int false := ⟨8, RX10, TX10, 15, tyX10, by decide, rfl, rfl, rfl, wdX10, tyX10_ok, nmX10, by decide, rfl, rfl, rfl, Or.inl (gdw_of (i := 258) (by decide +kernel) (by decide +kernel))⟩
theorem fX10_47 : Fl RX10 47 18 10 .int false := ⟨8, RX10, TX10, 15, tyX10, by decide, rfl, rfl, rfl, wdX10, tyX10_ok, nmX10, by decide, rfl, rfl, rfl, Or.inl (gdw_of (i := 261) (by decide +kernel) (by decide +kernel))⟩
theorem fX10_50 : Fl RX10 50 18 11 .int false := ⟨8, RX10, TX10, 15, tyX10, by decide, rfl, rfl, rfl, wdX10, tyX10_ok, nmX10, by decide, rfl, rfl, rfl, Or.inl (gdw_of (i := 265) (by decide +kernel) (by decide +kernel))⟩
theorem fX10_53 : Fl RX10 53 18 12 .int false := ⟨8, RX10, TX10, 15, tyX10, by decide, rfl, rfl, rfl, wdX10, tyX10_ok, nmX10, by decide, rfl, rfl, rfl, Or.inl (gdw_of (i := 267) (by decide +kernel) (by decide +kernel))⟩
theorem fX10_56 : Fl RX10 56 18 13 .int false := ⟨8, RX10, TX10, 15, tyX10, by decide, rfl, rfl, rfl, wdX10, tyX10_ok, nmX10, by decide, rfl, rfl, rfl, Or.inl (gdw_of (i := 269) (by decide +kernel) (by decide +kernel))⟩
theorem fX12_9 : Fl RX12 9 40 1 (tyX12 1) true := ⟨10, RX12, TX12, 40, tyX12, by decide, rfl, rfl, rfl, wdX12, tyX12_ok, nmX12, by decide, rfl, rfl, rfl, Or.inl (gdw_of (i := 1426) (by decide +kernel) (by decide +kernel))⟩
theorem fX12_13 : Fl RX12 13 40 9 (tyX12 9) true := ⟨10, RX12, TX12, 40, tyX12, by decide, rfl, rfl, rfl, wdX12, tyX12_ok, nmX12, by decide, rfl, rfl, rfl, Or.inl (gdw_of (i := 1434) (by decide +kernel) (by decide +kernel))⟩
theorem fX12_16 : Fl RX12 16 40 10 (tyX12 10) true := ⟨10, RX12, TX12, 40, tyX12, by decide, rfl, rfl, rfl, wdX12, tyX12_ok, nmX12, by decide, rfl, rfl, rfl, Or.inl (gdw_of (i := 1435) (by decide +kernel) (by decide +kernel))⟩
theorem fX12_19 : Fl RX12 19 40 11 (tyX12 11) true := ⟨10, RX12, TX12, 40, tyX12, by decide, rfl, rfl, rfl, wdX12, tyX12_ok, nmX12, by decide, rfl, rfl, rfl, Or.inl (gdw_of (i := 1436) (by decide +kernel) (by decide +kernel))⟩
theorem fX12_22 : Fl RX12 22 40 12 (tyX12 12) true := ⟨10, RX12, TX12, 40, tyX12, by decide, rfl, rfl, rfl, wdX12, tyX12_ok, nmX12, by decide, rfl, rfl, rfl, Or.inl (gdw_of (i := 1437) (by decide +kernel) (by decide +kernel))⟩
theorem fX12_25 : Fl RX12 25 40 13 (tyX12 13) true := ⟨10, RX12, TX12, 40, tyX12, by decide, rfl, rfl, rfl, wdX12, tyX12_ok, nmX12, by decide, rfl, rfl, rfl, Or.inl (gdw_of (i := 1438) (by decide +kernel) (by decide +kernel))⟩
theorem fX12_28 : Fl RX12 28 40 14 (tyX12 14) true := ⟨10, RX12, TX12, 40, tyX12, by decide, rfl, rfl, rfl, wdX12, tyX12_ok, nmX12, by decide, rfl, rfl, rfl, Or.inl (gdw_of (i := 1439) (by decide +kernel) (by decide +kernel))⟩
theorem fX12_31 : Fl RX12 31 40 16 (tyX12 16) true := ⟨10, RX12, TX12, 40, tyX12, by decide, rfl, rfl, rfl, wdX12, tyX12_ok, nmX12, by decide, rfl, rfl, rfl, Or.inl (gdw_of (i := 1441) (by decide +kernel) (by decide +kernel))⟩
theorem fX12_34 : Fl RX12 34 40 17 (tyX12 17) true := ⟨10, RX12, TX12, 40, tyX12, by decide, rfl, rfl, rfl, wdX12, tyX12_ok, nmX12, by decide, rfl, rfl, rfl, Or.inl (gdw_of (i := 1442) (by decide +kernel) (by decide +kernel))⟩
theorem fX12_37 : Fl RX12 37 40 19 (tyX12 19) true := ⟨10, RX12, TX12, 40, tyX12, by decide, rfl, rfl, rfl, wdX12, tyX12_ok, nmX12, by decide, rfl, rfl, rfl, Or.inl (gdw_of (i := 1444) (by decide +kernel) (by decide +kernel))⟩
theorem fX12_40 : Fl RX12 40 40 20 (tyX12 20) true := ⟨10, RX12, TX12, 40, tyX12, by decide, rfl, rfl, rfl, wdX12, tyX12_ok, nmX12, by decide, rfl, rfl, rfl, Or.inl (gdw_of (i := 1445) (by decide +kernel) (by decide +kernel))⟩
theorem fX12_43 : Fl RX12 43 40 21 .int false := ⟨10, RX12, TX12, 40, tyX12, by decide, rfl, rfl, rfl, wdX12, tyX12_ok, nmX12, by decide, rfl, rfl, rfl, Or.inl (gdw_of (i := 1446) (by decide +kernel) (by decide +kernel))⟩
theorem fX12_47 : Fl RX12 47 40 22 .int false := ⟨10, RX12, TX12, 40, tyX12, by decide, rfl, rfl, rfl, wdX12, tyX12_ok, nmX12, by decide, rfl, rfl, rfl, Or.inl (gdw_of (i := 1447) (by decide +kernel) (by decide +kernel))⟩
theorem fX12_51 : Fl RX12 51 40 23 .int false := ⟨10, RX12, TX12, 40, tyX12, by decide, rfl, rfl, rfl, wdX12, tyX12_ok, nmX12, by decide, rfl, rfl, rfl, Or.inl (gdw_of (i := 1448) (by decide +kernel) (by decide +kernel))⟩
theorem fX12_54 : Fl RX12 54 40 27 (tyX12 27) true := ⟨10, RX12, TX12, 40, tyX12, by decide, rfl, rfl, rfl, wdX12, tyX12_ok, nmX12, by decide, rfl, rfl, rfl, Or.inl (gdw_of (i := 1452) (by decide +kernel) (by decide +kernel))⟩
theorem fX12_57 : Fl RX12 57 40 30 (tyX12 30) true := ⟨10, RX12, TX12, 40, tyX12, by decide, rfl, rfl, rfl, wdX12, tyX12_ok, nmX12, by decide, rfl, rfl, rfl, Or.inl (gdw_of (i := 1455) (by decide +kernel) (by decide +kernel))⟩
theorem fX12_60 : Fl RX12 60 40 33 (tyX12 33) true := ⟨10, RX12, TX12, 40, tyX12, by decide, rfl, rfl, rfl, wdX12, tyX12_ok, nmX12, by decide, rfl, rfl, rfl, Or.inl (gdw_of (i := 1458) (by decide +kernel) (by decide +kernel))⟩
theorem fX12_63 : Fl RX12 63 40 34 (tyX12 34) true := ⟨10, RX12, TX12, 40, tyX12, by decide, rfl, rfl, rfl, wdX12, tyX12_ok, nmX12, by decide, rfl, rfl, rfl, Or.inl (gdw_of (i := 1459) (by decide +kernel) (by decide +kernel))⟩
theorem fX12_66 : Fl RX12 66 40 35 (tyX12 35) true := ⟨10, RX12, TX12, 40, tyX12, by decide, rfl, rfl, rfl, wdX12, tyX12_ok, nmX12, by decide, rfl, rfl, rfl, Or.inl (gdw_of (i := 1460) (by decide +kernel) (by decide +kernel))⟩
theorem fX12_70 : Fl RX12 70 40 36 (tyX12 36) true := ⟨10, RX12, TX12, 40, tyX12, by decide, rfl, rfl, rfl, wdX12, tyX12_ok, nmX12, by decide, rfl, rfl, rfl, Or.inl (gdw_of (i := 1461) (by decide +kernel) (by decide +kernel))⟩
theorem fX12_73 : Fl RX12 73 40 37 (tyX12 37) true := ⟨10, RX12, TX12, 40, tyX12, by decide, rfl, rfl, rfl, wdX12, tyX12_ok, nmX12, by decide, rfl, rfl, rfl, Or.inl (gdw_of (i := 1462) (by decide +kernel) (by decide +kernel))⟩
theorem fX12_76 : Fl RX12 76 40 38 (tyX12 38) true := ⟨10, RX12, TX12, 40, tyX12, by decide, rfl, rfl, rfl, wdX12, tyX12_ok, nmX12, by decide, rfl, rfl, rfl, Or.inl (gdw_of (i := 1463) (by decide +kernel) (by decide +kernel))⟩
theorem fX12_79 : Fl RX12 79 40 0 .int false := ⟨10, RX12, TX12, 40, tyX12, by decide, rfl, rfl, rfl, wdX12, tyX12_ok, nmX12, by decide, rfl, rfl, rfl, Or.inl (gdw_of (i := 1425) (by decide +kernel) (by decide +kernel))⟩
theorem fX12_86 : Fl RX12 86 40 2 .int false := ⟨10, RX12, TX12, 40, tyX12, by decide, rfl, rfl, rfl, wdX12, tyX12_ok, nmX12, by decide, rfl, rfl, rfl, Or.inl (gdw_of (i := 1427) (by decide +kernel) (by decide +kernel))⟩
theorem fX12_93 : Fl RX12 93 40 3 .int false := ⟨10, RX12, TX12, 40, tyX12, by decide, rfl, rfl, rfl, wdX12, tyX12_ok, nmX12, by decide, rfl, rfl, rfl, Or.inl (gdw_of (i := 1428) (by decide +kernel) (by decide +kernel))⟩
theorem fX12_96 : Fl RX12 96 40 5 .int false := ⟨10, RX12, TX12, 40, tyX12, by decide, rfl, rfl, rfl, wdX12, tyX12_ok, nmX12, by decide, rfl, rfl, rfl, Or.inl (gdw_of (i := 1430) (by decide +kernel) (by decide +kernel))⟩
theorem fX12_99 : Fl RX12 99 40 8 .long false := ⟨10, RX12, TX12, 40, tyX12, by decide, rfl, rfl, rfl, wdX12, tyX12_ok, nmX12, by decide, rfl, rfl, rfl, Or.inl (gdw_of (i := 1433) (by decide +kernel) (by decide +kernel))⟩
theorem fX12_119 : Fl RX12 119 40 7 .int false := ⟨10, RX12, TX12, 40, tyX12, by decide, rfl, rfl, rfl, wdX12, tyX12_ok, nmX12, by decide, rfl, rfl, rfl, Or.inl (gdw_of (i := 1432) (by decide +kernel) (by decide +kernel))⟩
theorem fX12_122 : Fl RX12 122 40 6 .int false := ⟨10, RX12, TX12, 40, tyX12, by decide, rfl, rfl, rfl, wdX12, tyX12_ok, nmX12, by decide, rfl, rfl, rfl, Or.inl (gdw_of (i := 1431) (by decide +kernel) (by decide +kernel))⟩
theorem fX12_132 : Fl RX12 132 40 4 .int false := ⟨10, RX12, TX12, 40, tyX12, by decide, rfl, rfl, rfl, wdX12, tyX12_ok, nmX12, by decide, rfl, rfl, rfl, Or.inl (gdw_of (i := 1429) (by decide +kernel) (by decide +kernel))⟩
theorem fX12_203 : Fl RX12 203 40 15 .boolean false := ⟨10, RX12, TX12, 40, tyX12, by decide, rfl, rfl, rfl, wdX12, tyX12_ok, nmX12, by decide, rfl, rfl, rfl, Or.inl (gdw_of (i := 1440) (by decide +kernel) (by decide +kernel))⟩
theorem fX12_207 : Fl RX12 207 40 28 .int false := ⟨10, RX12, TX12, 40, tyX12, by decide, rfl, rfl, rfl, wdX12, tyX12_ok, nmX12, by decide, rfl, rfl, rfl, Or.inl (gdw_of (i := 1453) (by decide +kernel) (by decide +kernel))⟩
theorem fX12_210 : Fl RX12 210 40 39 .boolean false := ⟨10, RX12, TX12, 40, tyX12, by decide, rfl, rfl, rfl, wdX12, tyX12_ok, nmX12, by decide, rfl, rfl, rfl, Or.inl (gdw_of (i := 1464) (by decide +kernel) (by decide +kernel))⟩
theorem fX12_219 : Fl RX12 219 40 18 .int false := ⟨10, RX12, TX12, 40, tyX12, by decide, rfl, rfl, rfl, wdX12, tyX12_ok, nmX12, by decide, rfl, rfl, rfl, Or.inl (gdw_of (i := 1443) (by decide +kernel) (by decide +kernel))⟩
theorem fX12_256 : Fl RX12 256 40 24 .boolean false := ⟨10, RX12, TX12, 40, tyX12, by decide, rfl, rfl, rfl, wdX12, tyX12_ok, nmX12, by decide, rfl, rfl, rfl, Or.inl (gdw_of (i := 1449) (by decide +kernel) (by decide +kernel))⟩
theorem fX12_294 : Fl RX12 294 40 25 .int false := ⟨10, RX12, TX12, 40, tyX12, by decide, rfl, rfl, rfl, wdX12, tyX12_ok, nmX12, by decide, rfl, rfl, rfl, Or.inl (gdw_of (i := 1450) (by decide +kernel) (by decide +kernel))⟩
theorem fX12_298 : Fl RX12 298 40 26 .int false := ⟨10, RX12, TX12, 40, tyX12, by decide, rfl, rfl, rfl, wdX12, tyX12_ok, nmX12, by decide, rfl, rfl, rfl, Or.inl (gdw_of (i := 1451) (by decide +kernel) (by decide +kernel))⟩
theorem fX12_331 : Fl RX12 331 40 29 .long false := ⟨10, RX12, TX12, 40, tyX12, by decide, rfl, rfl, rfl, wdX12, tyX12_ok, nmX12, by decide, rfl, rfl, rfl, Or.inl (gdw_of (i := 1454) (by decide +kernel) (by decide +kernel))⟩
theorem fX12_340 : Fl RX12 340 40 31 .int false := ⟨10, RX12, TX12, 40, tyX12, by decide, rfl, rfl, rfl, wdX12, tyX12_ok, nmX12, by decide, rfl, rfl, rfl, Or.inl (gdw_of (i := 1456) (by decide +kernel) (by decide +kernel))⟩
theorem fX12_343 : Fl RX12 343 40 32 .int false := ⟨10, RX12, TX12, 40, tyX12, by decide, rfl, rfl, rfl, wdX12, tyX12_ok, nmX12, by decide, rfl, rfl, rfl, Or.inl (gdw_of (i := 1457) (by decide +kernel) (by decide +kernel))⟩
theorem cX11_118 : Cond.constant RX11 118 (-1000000000) ∈ gdw := gdw_of (i := 755) (by decide +kernel) (by decide +kernel)
theorem cX11_446 : Cond.constantLong RX11 446 6364136223846793005 ∈ gdw := gdw_of (i := 949) (by decide +kernel) (by decide +kernel)
theorem cX11_448 : Cond.constantLong RX11 448 1442695040888963407 ∈ gdw := gdw_of (i := 950) (by decide +kernel) (by decide +kernel)
theorem cX1_93 : Cond.constant RX1 93 (-1000000000) ∈ gdw := gdw_of (i := 1240) (by decide +kernel) (by decide +kernel)
theorem cX3_61 : Cond.constant RX3 61 1000000000 ∈ gdw := gdw_of (i := 880) (by decide +kernel) (by decide +kernel)
theorem cX3_67 : Cond.constant RX3 67 (-1000000000) ∈ gdw := gdw_of (i := 891) (by decide +kernel) (by decide +kernel)
theorem cX5_45 : Cond.constant RX5 45 (-1000000000) ∈ gdw := gdw_of (i := 811) (by decide +kernel) (by decide +kernel)
theorem cX6_153 : Cond.constant RX6 153 100000 ∈ gdw := gdw_of (i := 645) (by decide +kernel) (by decide +kernel)
theorem cX7_29 : Cond.constant RX7 29 (-1000000000) ∈ gdw := gdw_of (i := 685) (by decide +kernel) (by decide +kernel)
theorem cX8_123 : Cond.constant RX8 123 (-1000000000) ∈ gdw := gdw_of (i := 777) (by decide +kernel) (by decide +kernel)
theorem cX12_50 : Cond.constant RX12 50 (-1000000000) ∈ gdw := gdw_of (i := 1424) (by decide +kernel) (by decide +kernel)
theorem cX12_111 : Cond.constantLong RX12 111 32 ∈ gdw := gdw_of (i := 1590) (by decide +kernel) (by decide +kernel)
theorem cX12_113 : Cond.constantLong RX12 113 97 ∈ gdw := gdw_of (i := 1591) (by decide +kernel) (by decide +kernel)
theorem cX12_118 : Cond.constant RX12 118 1000000 ∈ gdw := gdw_of (i := 1599) (by decide +kernel) (by decide +kernel)
theorem cX12_135 : Cond.constantLong RX12 135 96 ∈ gdw := gdw_of (i := 1610) (by decide +kernel) (by decide +kernel)
theorem cX12_137 : Cond.constantLong RX12 137 1024 ∈ gdw := gdw_of (i := 1614) (by decide +kernel) (by decide +kernel)
theorem cX12_222 : Cond.constantLong RX12 222 4294967295 ∈ gdw := gdw_of (i := 1705) (by decide +kernel) (by decide +kernel)
theorem cX12_224 : Cond.constantLong RX12 224 6364136223846793005 ∈ gdw := gdw_of (i := 1706) (by decide +kernel) (by decide +kernel)
theorem cX12_226 : Cond.constantLong RX12 226 1442695040888963407 ∈ gdw := gdw_of (i := 1707) (by decide +kernel) (by decide +kernel)
theorem cX12_293 : Cond.constant RX12 293 2147483647 ∈ gdw := gdw_of (i := 1795) (by decide +kernel) (by decide +kernel)
theorem cX12_297 : Cond.constant RX12 297 (-2147483648) ∈ gdw := gdw_of (i := 1796) (by decide +kernel) (by decide +kernel)
theorem rc_0 : Rc 0 RX11 := rc_ob (by decide) rfl rfl
theorem rc_1 : Rc 1 RX6 := rc_ob (by decide) rfl rfl
theorem rc_4 : Rc 4 RX4 := rc_ob (by decide) rfl rfl
theorem rc_8 : Rc 8 RX7 := rc_ob (by decide) rfl rfl
theorem rc_12 : Rc 12 RX8 := rc_ob (by decide) rfl rfl
theorem rc_18 : Rc 18 RX10 := rc_ob (by decide) rfl rfl
theorem rc_20 : Rc 20 RX5 := rc_ob (by decide) rfl rfl
theorem rc_24 : Rc 24 RX3 := rc_ob (by decide) rfl rfl
theorem rc_28 : Rc 28 RX1 := rc_ob (by decide) rfl rfl
theorem rc_34 : Rc 34 RX0 := rc_ob (by decide) rfl rfl
theorem rc_40 : Rc 40 RX12 := rc_ob (by decide) rfl rfl
theorem acW_ok : acW := ⟨gdw_of (i := 716) (by decide +kernel) (by decide +kernel), gdw_of (i := 715) (by decide +kernel) (by decide +kernel), gdw_of (i := 132) (by decide +kernel) (by decide +kernel)⟩
theorem lX0_68 : Cond.methodLink RX0 68 arraycopyName ∈ gdw := gdw_of (i := 1290) (by decide +kernel) (by decide +kernel)
theorem lX4_35 : Cond.methodLink RX4 35 arraycopyName ∈ gdw := gdw_of (i := 714) (by decide +kernel) (by decide +kernel)
theorem lX7_34 : Cond.methodLink RX7 34 arraycopyName ∈ gdw := gdw_of (i := 745) (by decide +kernel) (by decide +kernel)
theorem lX8_86 : Cond.methodLink RX8 86 arraycopyName ∈ gdw := gdw_of (i := 915) (by decide +kernel) (by decide +kernel)
theorem lX10_59 : Cond.methodLink RX10 59 arraycopyName ∈ gdw := gdw_of (i := 920) (by decide +kernel) (by decide +kernel)
