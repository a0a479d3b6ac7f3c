/-! the JDK: String over constant words -/
def RJ0 : String := "java/lang/String"
abbrev cJ0_length_8abf5 : ByteArray := prog_20_method_54_code
def yJ0_length_8abf5 : MethodName := ⟨RJ0, "length", "()I"⟩
abbrev cJ0_charAt_5068e : ByteArray := prog_20_method_56_code
def yJ0_charAt_5068e : MethodName := ⟨RJ0, "charAt", "(I)C"⟩
abbrev cJ0_coder_7d493 : ByteArray := prog_20_method_152_code
def yJ0_coder_7d493 : MethodName := ⟨RJ0, "coder", "()B"⟩
abbrev cJ0_isLatin1_aae02 : ByteArray := prog_20_method_154_code
def yJ0_isLatin1_aae02 : MethodName := ⟨RJ0, "isLatin1", "()Z"⟩
abbrev cJ0_checkIndex_df160 : ByteArray := prog_20_method_155_code
def yJ0_checkIndex_df160 : MethodName := ⟨RJ0, "checkIndex", "(II)V"⟩
def RJ1 : String := "java/lang/StringLatin1"
abbrev cJ1_charAt_3b067 : ByteArray := prog_21_method_2_code
def yJ1_charAt_3b067 : MethodName := ⟨RJ1, "charAt", "([BI)C"⟩
def RJ3 : String := "jdk/internal/util/Preconditions"
abbrev cJ3_checkIndex_8e157 : ByteArray := prog_26_method_11_code
def yJ3_checkIndex_8e157 : MethodName := ⟨RJ3, "checkIndex", "(IILjava/util/function/BiFunction;)I"⟩
theorem sX4_21 : Zl RX4 21 "HuntedEye$Clause" "ALL" "[LHuntedEye$Clause;" := Or.inr (by decide +kernel)
theorem sX4_27 : Zl RX4 27 "HuntedEye$Clause" "usual" "I" := Or.inr (by decide +kernel)
theorem sX6_82 : Zl RX6 82 "HuntedEye$Clause" "ALL" "[LHuntedEye$Clause;" := Or.inr (by decide +kernel)
theorem sX6_92 : Zl RX6 92 "HuntedEye$Clause" "word" "Ljava/lang/String;" := Or.inr (by decide +kernel)
theorem sX6_100 : Zl RX6 100 "HuntedEye$Clause" "most" "I" := Or.inr (by decide +kernel)
theorem sX6_103 : Zl RX6 103 "HuntedEye$Clause" "low" "I" := Or.inr (by decide +kernel)
theorem sX6_106 : Zl RX6 106 "HuntedEye$Clause" "high" "I" := Or.inr (by decide +kernel)
theorem sX6_126 : Zl RX6 126 "HuntedEye$Step" "ALL" "[LHuntedEye$Step;" := Or.inr (by decide +kernel)
theorem sX6_134 : Zl RX6 134 "HuntedEye$Step" "word" "Ljava/lang/String;" := Or.inr (by decide +kernel)
theorem sX6_135 : Zl RX6 135 "HuntedEye$Step" "numbers" "I" := Or.inr (by decide +kernel)
theorem sX9_57 : Zl RX9 57 "HuntedEye$Step" "low" "I" := Or.inl (gdw_of (i := 2033) (by decide +kernel) (by decide +kernel))
theorem sX9_60 : Zl RX9 60 "HuntedEye$Step" "high" "I" := Or.inl (gdw_of (i := 2034) (by decide +kernel) (by decide +kernel))
theorem sJ0_9 : Zl RJ0 9 "java/lang/String" "value" "[B" := Or.inl (gdw_of (i := 2026) (by decide +kernel) (by decide +kernel))
theorem sJ0_15 : Zl RJ0 15 "java/lang/String" "coder" "B" := Or.inl (gdw_of (i := 2027) (by decide +kernel) (by decide +kernel))
theorem sJ0_38 : Zl RJ0 38 "java/lang/String" "COMPACT_STRINGS" "Z" := Or.inl (gdw_of (i := 594) (by decide +kernel) (by decide +kernel))
abbrev mJ3_checkIndex_8e157 : hMt := (yJ3_checkIndex_8e157, cJ3_checkIndex_8e157, 3, some .int)
def tJ3_checkIndex_8e157 : hTb := [(0, .iload_n 0, 1, 1), (1, .ifCond .lt 8, 3, 4), (4, .iload_n 0, 1, 5), (5, .iload_n 1, 1, 6), (6, .if_icmp .lt 10, 3, 9), (9, .aload_n 2, 1, 10), (10, .iload_n 0, 1, 11), (11, .iload_n 1, 1, 12), (12, .invokestatic 95, 3, 15), (15, .athrow, 1, 16), (16, .iload_n 0, 1, 17), (17, .ireturn, 1, 18)]
theorem ktJ3_checkIndex_8e157 : TbOK mJ3_checkIndex_8e157 tJ3_checkIndex_8e157 := by
  unfold TbOK
  decide +kernel
theorem kdJ3_checkIndex_8e157 (k : Nat) {pc : Nat} {i : Instr} {len nx : Nat} (hk : tJ3_checkIndex_8e157[k]? = some (pc, i, len, nx)) : Dc mJ3_checkIndex_8e157 pc i len nx := dc_of ktJ3_checkIndex_8e157 k hk
theorem iJ3_checkIndex_8e157 : MiS mJ3_checkIndex_8e157 := ⟨⟨gdw_of (i := 614) (by decide +kernel) (by decide +kernel), gdw_of (i := 129) (by decide +kernel) (by decide +kernel), by decide, by decide, by decide⟩, gdw_of (i := 613) (by decide +kernel) (by decide +kernel)⟩
abbrev mJ0_checkIndex_df160 : hMt := (yJ0_checkIndex_df160, cJ0_checkIndex_df160, 2, none)
def tJ0_checkIndex_df160 : hTb := [(0, .iload_n 0, 1, 1), (1, .iload_n 1, 1, 2), (2, .getstatic 1053, 3, 5), (5, .invokestatic 1059, 3, 8), (8, .pop, 1, 9), (9, .return_, 1, 10)]
theorem ktJ0_checkIndex_df160 : TbOK mJ0_checkIndex_df160 tJ0_checkIndex_df160 := by
  unfold TbOK
  decide +kernel
theorem kdJ0_checkIndex_df160 (k : Nat) {pc : Nat} {i : Instr} {len nx : Nat} (hk : tJ0_checkIndex_df160[k]? = some (pc, i, len, nx)) : Dc mJ0_checkIndex_df160 pc i len nx := dc_of ktJ0_checkIndex_df160 k hk
theorem iJ0_checkIndex_df160 : MiS mJ0_checkIndex_df160 := ⟨⟨gdw_of (i := 609) (by decide +kernel) (by decide +kernel), gdw_of (i := 127) (by decide +kernel) (by decide +kernel), by decide, by decide, by decide⟩, gdw_of (i := 608) (by decide +kernel) (by decide +kernel)⟩
abbrev mJ1_charAt_3b067 : hMt := (yJ1_charAt_3b067, cJ1_charAt_3b067, 2, some .char)
def tJ1_charAt_3b067 : hTb := [(0, .iload_n 1, 1, 1), (1, .aload_n 0, 1, 2), (2, .arraylength, 1, 3), (3, .invokestatic 9, 3, 6), (6, .aload_n 0, 1, 7), (7, .iload_n 1, 1, 8), (8, .baload, 1, 9), (9, .sipush 255, 3, 12), (12, .iand, 1, 13), (13, .i2c, 1, 14), (14, .ireturn, 1, 15)]
theorem ktJ1_charAt_3b067 : TbOK mJ1_charAt_3b067 tJ1_charAt_3b067 := by
  unfold TbOK
  decide +kernel
theorem kdJ1_charAt_3b067 (k : Nat) {pc : Nat} {i : Instr} {len nx : Nat} (hk : tJ1_charAt_3b067[k]? = some (pc, i, len, nx)) : Dc mJ1_charAt_3b067 pc i len nx := dc_of ktJ1_charAt_3b067 k hk
theorem iJ1_charAt_3b067 : MiS mJ1_charAt_3b067 := ⟨⟨gdw_of (i := 606) (by decide +kernel) (by decide +kernel), gdw_of (i := 128) (by decide +kernel) (by decide +kernel), by decide, by decide, by decide⟩, gdw_of (i := 605) (by decide +kernel) (by decide +kernel)⟩
abbrev mJ0_coder_7d493 : hMt := (yJ0_coder_7d493, cJ0_coder_7d493, 1, some .byte)
def tJ0_coder_7d493 : hTb := [(0, .getstatic 38, 3, 3), (3, .ifCond .eq 10, 3, 6), (6, .aload_n 0, 1, 7), (7, .getfield 15, 3, 10), (10, .goto 4, 3, 13), (13, .iconst 1, 1, 14), (14, .ireturn, 1, 15)]
theorem ktJ0_coder_7d493 : TbOK mJ0_coder_7d493 tJ0_coder_7d493 := by
  unfold TbOK
  decide +kernel
theorem kdJ0_coder_7d493 (k : Nat) {pc : Nat} {i : Instr} {len nx : Nat} (hk : tJ0_coder_7d493[k]? = some (pc, i, len, nx)) : Dc mJ0_coder_7d493 pc i len nx := dc_of ktJ0_coder_7d493 k hk
theorem iJ0_coder_7d493 : MiV mJ0_coder_7d493 := ⟨⟨gdw_of (i := 593) (by decide +kernel) (by decide +kernel), gdw_of (i := 127) (by decide +kernel) (by decide +kernel), by decide, by decide, by decide⟩, gdw_of (i := 591) (by decide +kernel) (by decide +kernel), gdw_of (i := 592) (by decide +kernel) (by decide +kernel)⟩
abbrev mJ0_isLatin1_aae02 : hMt := (yJ0_isLatin1_aae02, cJ0_isLatin1_aae02, 1, some .boolean)
def tJ0_isLatin1_aae02 : hTb := [(0, .getstatic 38, 3, 3), (3, .ifCond .eq 14, 3, 6), (6, .aload_n 0, 1, 7), (7, .getfield 15, 3, 10), (10, .ifCond .ne 7, 3, 13), (13, .iconst 1, 1, 14), (14, .goto 4, 3, 17), (17, .iconst 0, 1, 18), (18, .ireturn, 1, 19)]
theorem ktJ0_isLatin1_aae02 : TbOK mJ0_isLatin1_aae02 tJ0_isLatin1_aae02 := by
  unfold TbOK
  decide +kernel
theorem kdJ0_isLatin1_aae02 (k : Nat) {pc : Nat} {i : Instr} {len nx : Nat} (hk : tJ0_isLatin1_aae02[k]? = some (pc, i, len, nx)) : Dc mJ0_isLatin1_aae02 pc i len nx := dc_of ktJ0_isLatin1_aae02 k hk
theorem iJ0_isLatin1_aae02 : MiV mJ0_isLatin1_aae02 := ⟨⟨gdw_of (i := 603) (by decide +kernel) (by decide +kernel), gdw_of (i := 127) (by decide +kernel) (by decide +kernel), by decide, by decide, by decide⟩, gdw_of (i := 601) (by decide +kernel) (by decide +kernel), gdw_of (i := 602) (by decide +kernel) (by decide +kernel)⟩
abbrev mJ0_length_8abf5 : hMt := (yJ0_length_8abf5, cJ0_length_8abf5, 1, some .int)
def tJ0_length_8abf5 : hTb := [(0, .aload_n 0, 1, 1), (1, .getfield 9, 3, 4), (4, .arraylength, 1, 5), (5, .aload_n 0, 1, 6), (6, .invokevirtual 335, 3, 9), (9, .ishr, 1, 10), (10, .ireturn, 1, 11)]
theorem ktJ0_length_8abf5 : TbOK mJ0_length_8abf5 tJ0_length_8abf5 := by
  unfold TbOK
  decide +kernel
theorem kdJ0_length_8abf5 (k : Nat) {pc : Nat} {i : Instr} {len nx : Nat} (hk : tJ0_length_8abf5[k]? = some (pc, i, len, nx)) : Dc mJ0_length_8abf5 pc i len nx := dc_of ktJ0_length_8abf5 k hk
theorem iJ0_length_8abf5 : MiV mJ0_length_8abf5 := ⟨⟨gdw_of (i := 589) (by decide +kernel) (by decide +kernel), gdw_of (i := 127) (by decide +kernel) (by decide +kernel), by decide, by decide, by decide⟩, gdw_of (i := 587) (by decide +kernel) (by decide +kernel), gdw_of (i := 588) (by decide +kernel) (by decide +kernel)⟩
abbrev mJ0_charAt_5068e : hMt := (yJ0_charAt_5068e, cJ0_charAt_5068e, 2, some .char)
def tJ0_charAt_5068e : hTb := [(0, .aload_n 0, 1, 1), (1, .invokevirtual 492, 3, 4), (4, .ifCond .eq 12, 3, 7), (7, .aload_n 0, 1, 8), (8, .getfield 9, 3, 11), (11, .iload_n 1, 1, 12), (12, .invokestatic 495, 3, 15), (15, .ireturn, 1, 16), (16, .aload_n 0, 1, 17), (17, .getfield 9, 3, 20), (20, .iload_n 1, 1, 21), (21, .invokestatic 498, 3, 24), (24, .ireturn, 1, 25)]
theorem ktJ0_charAt_5068e : TbOK mJ0_charAt_5068e tJ0_charAt_5068e := by
  unfold TbOK
  decide +kernel
theorem kdJ0_charAt_5068e (k : Nat) {pc : Nat} {i : Instr} {len nx : Nat} (hk : tJ0_charAt_5068e[k]? = some (pc, i, len, nx)) : Dc mJ0_charAt_5068e pc i len nx := dc_of ktJ0_charAt_5068e k hk
theorem iJ0_charAt_5068e : MiV mJ0_charAt_5068e := ⟨⟨gdw_of (i := 599) (by decide +kernel) (by decide +kernel), gdw_of (i := 127) (by decide +kernel) (by decide +kernel), by decide, by decide, by decide⟩, gdw_of (i := 597) (by decide +kernel) (by decide +kernel), gdw_of (i := 598) (by decide +kernel) (by decide +kernel)⟩
theorem lX6_96 : Lk RX6 96 mJ0_length_8abf5 := Or.inl (gdw_of (i := 586) (by decide +kernel) (by decide +kernel))
theorem lX6_167 : Lk RX6 167 mJ0_charAt_5068e := Or.inl (gdw_of (i := 596) (by decide +kernel) (by decide +kernel))
theorem lJ0_335 : Lk RJ0 335 mJ0_coder_7d493 := Or.inl (gdw_of (i := 590) (by decide +kernel) (by decide +kernel))
theorem lJ0_492 : Lk RJ0 492 mJ0_isLatin1_aae02 := Or.inl (gdw_of (i := 600) (by decide +kernel) (by decide +kernel))
theorem lJ0_495 : Lk RJ0 495 mJ1_charAt_3b067 := Or.inl (gdw_of (i := 604) (by decide +kernel) (by decide +kernel))
theorem lJ0_1059 : Lk RJ0 1059 mJ3_checkIndex_8e157 := Or.inl (gdw_of (i := 612) (by decide +kernel) (by decide +kernel))
theorem lJ1_9 : Lk RJ1 9 mJ0_checkIndex_df160 := Or.inl (gdw_of (i := 607) (by decide +kernel) (by decide +kernel))
def JJ3_checkIndex_8e157 (a1 : Int32) (a2 : Int32) (m : hM) : hR :=
  if a1 < 0 then (none) else (if a1 < a2 then (some (some (.inl a1), m)) else (none))
set_option maxRecDepth 20000 in
theorem GJ3_checkIndex_8e157 (a1 : Int32) (a2 : Int32) (m : hM) : G mJ3_checkIndex_8e157 0 0 [(0, .inl a1), (1, .inl a2)] [] m (JJ3_checkIndex_8e157 a1 a2 m) := by
  unfold JJ3_checkIndex_8e157
  refine g_iload_n 0 (kdJ3_checkIndex_8e157 0 rfl) rfl ?_
  refine g_if_lt (tgt := 9) (kdJ3_checkIndex_8e157 1 rfl) (by decide) (fun _ => ?_) (fun _ => ?_)
  · exact g_none
  · refine g_iload_n 0 (kdJ3_checkIndex_8e157 2 rfl) rfl ?_
    refine g_iload_n 1 (kdJ3_checkIndex_8e157 3 rfl) rfl ?_
    refine g_icmp_lt (tgt := 16) (kdJ3_checkIndex_8e157 4 rfl) (by decide) (fun _ => ?_) (fun _ => ?_)
    · refine g_iload_n 0 (kdJ3_checkIndex_8e157 10 rfl) rfl ?_
      exact g_iret rfl (kdJ3_checkIndex_8e157 11 rfl)
    · exact g_none

theorem hPv_blind {av : List Value} {D : va_G} {ad : Nat → Nat → Nat} {ca : Nat → ClassId} {m : hM} : FrameBlind (va_Pc av (hWd D ad ca m)) := by
  intro a U g mk h
  obtain ⟨h1, h2, h3, h4, h5⟩ := h
  exact ⟨h1, h2, va_K.moved (u := U) (U := U.calling g mk a) (Vm.Alike.refl U.vm) h3, h4, hZ_same (s := U) (U := U.calling g mk a) rfl h5⟩
theorem met_of3 {mt : hMt} {d : Nat} {a1 a2 : Int32} {m : hM} {R : hR} (hy : plainFor mt.1 = true) (hn : 3 ≤ mt.2.2.1) (h : G mt d 0 [(0, .inl a1), (1, .inl a2)] [] m R) {r : Option hV} {m2 : hM} (hR : R = some (r, m2)) (l : Launch) (D : va_G) (ad : Nat → Nat → Nat) (ca : Nat → ClassId) (v : Value) (hv : v.category = 1) : Met l mt.1 (hWs mt) (hRm d) (va_Pc [.int a1, .int a2, v] (hWd D ad ca m)) (hQ D ad ca r m2) 0 0 (hA ad) := by
  obtain ⟨y, cc, maxL, ret⟩ := mt
  refine va_MetF (cc := cc) (maxL := maxL) (ret := ret) hy rfl ?_
  intro p e s mi args below meth c s₁ B hml hpre
  obtain ⟨rfl, hP, hK, hD, hz⟩ := hpre
  have hts := atoms_spec (ws := hWs (y, cc, maxL, ret)) B.pre
  have hl := lv_entry [.int a1, .int a2, v] (n := maxL) (by
    have e : (lg_sl [.int a1, .int a2, v]).length = 3 := by
      simp only [lg_sl, List.flatMap_cons, List.flatMap_nil, hv]
      rfl
    rw [e]; exact hn)
  rw [lg_entry_eq]
  have hl2 := lv_sub (l' := hLs ad [(0, .inl a1), (1, .inl a2)]) hl [0, 1] rfl
  exact h r m2 hR l D ad ca p e s mi _ below meth c s.heap [] _ ⟨⟨B.exec, B.bytes, hml, findClass_of_methodNamed B.named, hts⟩, B.returns, B.notSynchronized, hK, hz⟩ ⟨hP, hD, va_S.rf, hl2, fun q hq => by
    simp only [List.mem_cons, List.not_mem_nil, or_false] at hq
    rcases hq with rfl | rfl <;> exact trivial, fun v h => by cases h⟩
def JJ0_checkIndex_df160 (a1 a2 : Int32) (m : hM) : hR := calI (JJ3_checkIndex_8e157 a1 a2 m) fun _ m1 => some (none, m1)
theorem g_sio {L : hL} {a1 a2 : Int32} {m : hM} (h : ∀ m1, G mJ0_checkIndex_df160 1 9 L [] m1 (some (none, m1))) : G mJ0_checkIndex_df160 1 2 L [.inl a2, .inl a1] m (JJ0_checkIndex_df160 a1 a2 m) := by
  intro r m2 hR l D ad ca p e s mi args below meth c H locs ls hC hS
  unfold JJ0_checkIndex_df160 calI at hR
  split at hR
  · rename_i x m1 hJ
    obtain ⟨v, hv, hz⟩ : ∃ v : Value, v.category = 1 ∧ va_Z "jdk/internal/util/Preconditions" "SIOOBE_FORMATTER" "Ljava/util/function/BiFunction;" v (hA ad) s s.heap := by
      rcases hC.2.2.2.2.2.2.2.2 with z | ⟨t, z⟩
      · exact ⟨.null, rfl, z⟩
      · exact ⟨.ref t, rfl, z⟩
    refine va_gets hC.1.1 hC.1.2.1 hz hS.2.2.1 hC.1.2.2.2.1 (hC.w (gdw_of (i := 610) (by decide +kernel) (by decide +kernel))) (fun _ z => z) (kdJ0_checkIndex_df160 2 rfl).1 ?_
    have hMet := met_of3 (mt := mJ3_checkIndex_8e157) (by decide +kernel) (by decide) (GJ3_checkIndex_8e157 a1 a2 m) hJ l D ad ca v hv
    have hRm0 : (hRm 0).frames + 1 ≤ (hRm 1).frames ∧ 8 + (mJ3_checkIndex_8e157.2.2.1 + 11) + (hRm 0).locals ≤ (hRm 1).locals := by decide
    have hpre : PreS s H (va_Pc [.int a1, .int a2, v] (hWd D ad ca m)) [.int a1, .int a2, v] := ⟨hPv_blind, fun U hU hW => ⟨rfl, by rw [hU]; exact hS.1, va_K.moved hW.alike hC.2.2.2.1, hS.2.1, by rw [hU]; exact hZ_warm hW (hZ_kept hC.2.2.2.2 hS.2.2.1.2.1)⟩⟩
    have hi := iJ3_checkIndex_8e157
    refine h_call (st0 := v :: .int a2 :: .int a1 :: []) (rest := []) (va_runS hC.1 hMet ⟨callB_of 3 hC.1.2.2.2.2 (hWs_good _ _ hi.1.1) rfl rfl rfl (hC.w hi.1.2.1) (hC.w (gdw_of (i := 612) (by decide +kernel) (by decide +kernel))) ⟨hi.1.2.2.1, hi.1.2.2.2.1, by decide +kernel⟩ hRm0, hC.w hi.2⟩ hpre rfl rfl hS.2.2.2.1.1 rfl (lv_room (by decide)) (kdJ0_checkIndex_df160 3 rfl).1 ⟨Nat.zero_le _, Nat.zero_le _⟩) hS.2.2.1 (fun H1 locs1 hP1 hS1 => ?_)
    refine lv_pop (va := .int x) hC.1.1 hC.1.2.1 (kdJ0_checkIndex_df160 4 rfl).1 rfl ?_
    exact h m1 r m2 hR l D ad ca p e s mi args below meth c H1 locs1 ls hC ⟨hP1, emb_addr ad ca m m1 hS.2.1, hS1, hS.2.2.2.1, hS.2.2.2.2.1, fun w hw => by cases hw⟩
  · cases hR
theorem CJ0_checkIndex_df160 (a1 a2 : Int32) (m : hM) : Cn mJ0_checkIndex_df160 1 [.inl a1, .inl a2] m (JJ0_checkIndex_df160 a1 a2 m) := by
  refine cn_of (by decide +kernel) (by simp only [List.map, vcat, List.sum_cons, List.sum_nil]; decide) ?_
  show G mJ0_checkIndex_df160 1 0 [(0, .inl a1), (1, .inl a2)] [] m _
  refine g_iload_n 0 (kdJ0_checkIndex_df160 0 rfl) rfl ?_
  refine g_iload_n 1 (kdJ0_checkIndex_df160 1 rfl) rfl ?_
  refine g_sio (fun m1 => ?_)
  exact g_vret rfl (kdJ0_checkIndex_df160 5 rfl)

def JJ1_charAt_3b067_C (n1 : Nat) (a2 : Int32) (m : hM) : hR :=
  calV (JJ0_checkIndex_df160 a2 (blen 106 n1) m) fun m1 =>
  bald 106 n1 a2 fun x2 =>
  jretN .char (ji2c (x2 &&& 255)) m1
set_option maxRecDepth 20000 in
theorem CJ1_charAt_3b067_C (n1 : Nat) (a2 : Int32) (m : hM) : Cn mJ1_charAt_3b067 2 [.inr (.inr (106, n1)), .inl a2] m (JJ1_charAt_3b067_C n1 a2 m) := by
  refine cn_of (by decide +kernel) (by simp only [List.map, vcat, List.sum_cons, List.sum_nil]; decide) ?_
  unfold JJ1_charAt_3b067_C
  show G mJ1_charAt_3b067 2 0 [(0, .inr (.inr (106, n1))), (1, .inl a2)] [] m _
  refine g_iload_n 1 (kdJ1_charAt_3b067 0 rfl) rfl ?_
  refine g_aload_n 0 (kdJ1_charAt_3b067 1 rfl) rfl ?_
  refine g_blenC (kdJ1_charAt_3b067 2 rfl) ?_
  refine g_calV (ck_S (As := [.inl a2, .inl (blen 106 n1)]) (S := []) (kdJ1_charAt_3b067 3 rfl) iJ0_checkIndex_df160 lJ1_9 rfl rfl rfl (by decide) (by simp only [List.map, vcat, List.sum_cons, List.sum_nil]; decide)) (CJ0_checkIndex_df160 a2 (blen 106 n1) m) (fun m1 => ?_)
  refine g_aload_n 0 (kdJ1_charAt_3b067 4 rfl) rfl ?_
  refine g_iload_n 1 (kdJ1_charAt_3b067 5 rfl) rfl ?_
  refine g_baldC (kdJ1_charAt_3b067 6 rfl) (fun x2 => ?_)
  refine g_sipush (v := 255) (kdJ1_charAt_3b067 7 rfl) (by decide) ?_
  refine g_iand (kdJ1_charAt_3b067 8 rfl) ?_
  refine g_i2c (kdJ1_charAt_3b067 9 rfl) ?_
  exact g_nret rfl (Or.inl rfl) (kdJ1_charAt_3b067 10 rfl)
def JJ0_coder_7d493_C (n : Nat) (m : hM) : hR :=
  if (1 : Int32) = 0 then (jretN .byte 1 m) else (jretN .byte 0 m)
set_option maxRecDepth 20000 in
theorem CJ0_coder_7d493_C (n : Nat) (m : hM) : Cn mJ0_coder_7d493 0 [.inr (.inr (102, n))] m (JJ0_coder_7d493_C n m) := by
  refine cn_of (by decide +kernel) (by simp only [List.map, vcat, List.sum_cons, List.sum_nil]; decide) ?_
  unfold JJ0_coder_7d493_C
  show G mJ0_coder_7d493 0 0 [(0, .inr (.inr (102, n)))] [] m _
  refine g_gsK (kdJ0_coder_7d493 0 rfl) sJ0_38 ?_
  refine g_if_eq (tgt := 13) (kdJ0_coder_7d493 1 rfl) (by decide) (fun _ => ?_) (fun _ => ?_)
  · refine g_iconst (v := 1) (kdJ0_coder_7d493 5 rfl) (by decide) ?_
    exact g_nret rfl (Or.inr rfl) (kdJ0_coder_7d493 6 rfl)
  · refine g_aload_n 0 (kdJ0_coder_7d493 2 rfl) rfl ?_
    refine g_gcC (kdJ0_coder_7d493 3 rfl) sJ0_15 ?_
    refine g_goto (tgt := 14) (kdJ0_coder_7d493 4 rfl) (by decide) ?_
    exact g_nret rfl (Or.inr rfl) (kdJ0_coder_7d493 6 rfl)
def JJ0_isLatin1_aae02_C (n : Nat) (m : hM) : hR :=
  if (1 : Int32) = 0 then (jretZ 0 m) else (if (0 : Int32) = 0 then (jretZ 1 m) else (jretZ 0 m))
set_option maxRecDepth 20000 in
theorem CJ0_isLatin1_aae02_C (n : Nat) (m : hM) : Cn mJ0_isLatin1_aae02 0 [.inr (.inr (102, n))] m (JJ0_isLatin1_aae02_C n m) := by
  refine cn_of (by decide +kernel) (by simp only [List.map, vcat, List.sum_cons, List.sum_nil]; decide) ?_
  unfold JJ0_isLatin1_aae02_C
  show G mJ0_isLatin1_aae02 0 0 [(0, .inr (.inr (102, n)))] [] m _
  refine g_gsK (kdJ0_isLatin1_aae02 0 rfl) sJ0_38 ?_
  refine g_if_eq (tgt := 17) (kdJ0_isLatin1_aae02 1 rfl) (by decide) (fun _ => ?_) (fun _ => ?_)
  · refine g_iconst (v := 0) (kdJ0_isLatin1_aae02 7 rfl) (by decide) ?_
    exact g_zret rfl (kdJ0_isLatin1_aae02 8 rfl)
  · refine g_aload_n 0 (kdJ0_isLatin1_aae02 2 rfl) rfl ?_
    refine g_gcC (kdJ0_isLatin1_aae02 3 rfl) sJ0_15 ?_
    refine g_if_ne (tgt := 17) (kdJ0_isLatin1_aae02 4 rfl) (by decide) (fun _ => ?_) (fun _ => ?_)
    · refine g_iconst (v := 0) (kdJ0_isLatin1_aae02 7 rfl) (by decide) ?_
      exact g_zret rfl (kdJ0_isLatin1_aae02 8 rfl)
    · refine g_iconst (v := 1) (kdJ0_isLatin1_aae02 5 rfl) (by decide) ?_
      refine g_goto (tgt := 18) (kdJ0_isLatin1_aae02 6 rfl) (by decide) ?_
      exact g_zret rfl (kdJ0_isLatin1_aae02 8 rfl)
def JJ0_length_8abf5_C (n : Nat) (m : hM) : hR :=
  calI (JJ0_coder_7d493_C n m) fun x2 m1 =>
  some (some (.inl ((blen 106 n) >>> (x2 &&& 31))), m1)
set_option maxRecDepth 20000 in
theorem CJ0_length_8abf5_C (n : Nat) (m : hM) : Cn mJ0_length_8abf5 1 [.inr (.inr (102, n))] m (JJ0_length_8abf5_C n m) := by
  refine cn_of (by decide +kernel) (by simp only [List.map, vcat, List.sum_cons, List.sum_nil]; decide) ?_
  unfold JJ0_length_8abf5_C
  show G mJ0_length_8abf5 1 0 [(0, .inr (.inr (102, n)))] [] m _
  refine g_aload_n 0 (kdJ0_length_8abf5 0 rfl) rfl ?_
  refine g_gvC (kdJ0_length_8abf5 1 rfl) sJ0_9 ?_
  refine g_blenC (kdJ0_length_8abf5 2 rfl) ?_
  refine g_aload_n 0 (kdJ0_length_8abf5 3 rfl) rfl ?_
  refine g_calI (ck_V (As := []) (S := [.inl (blen 106 n)]) (t := 102) (o := n) (kdJ0_length_8abf5 4 rfl) iJ0_coder_7d493 lJ0_335 rc_102 rfl rfl rfl (by decide) (by simp only [List.map, vcat, List.sum_cons, List.sum_nil]; decide)) (CJ0_coder_7d493_C n m) (fun x2 m1 => ?_)
  refine g_ishr (kdJ0_length_8abf5 5 rfl) ?_
  exact g_iret rfl (kdJ0_length_8abf5 6 rfl)
def JJ0_charAt_5068e_C (n : Nat) (a1 : Int32) (m : hM) : hR :=
  calI (JJ0_isLatin1_aae02_C n m) fun x2 m1 =>
  if x2 = 0 then (none) else (calI (JJ1_charAt_3b067_C n a1 m1) fun x4 m3 =>
  jretN .char x4 m3)
set_option maxRecDepth 20000 in
theorem CJ0_charAt_5068e_C (n : Nat) (a1 : Int32) (m : hM) : Cn mJ0_charAt_5068e 3 [.inr (.inr (102, n)), .inl a1] m (JJ0_charAt_5068e_C n a1 m) := by
  refine cn_of (by decide +kernel) (by simp only [List.map, vcat, List.sum_cons, List.sum_nil]; decide) ?_
  unfold JJ0_charAt_5068e_C
  show G mJ0_charAt_5068e 3 0 [(0, .inr (.inr (102, n))), (1, .inl a1)] [] m _
  refine g_aload_n 0 (kdJ0_charAt_5068e 0 rfl) rfl ?_
  refine g_calI (ck_V (As := []) (S := []) (t := 102) (o := n) (kdJ0_charAt_5068e 1 rfl) iJ0_isLatin1_aae02 lJ0_492 rc_102 rfl rfl rfl (by decide) (by simp only [List.map, vcat, List.sum_cons, List.sum_nil]; decide)) (CJ0_isLatin1_aae02_C n m) (fun x2 m1 => ?_)
  refine g_if_eq (tgt := 16) (kdJ0_charAt_5068e 2 rfl) (by decide) (fun _ => ?_) (fun _ => ?_)
  · refine g_aload_n 0 (kdJ0_charAt_5068e 8 rfl) rfl ?_
    refine g_gvC (kdJ0_charAt_5068e 9 rfl) sJ0_9 ?_
    refine g_iload_n 1 (kdJ0_charAt_5068e 10 rfl) rfl ?_
    exact g_none
  · refine g_aload_n 0 (kdJ0_charAt_5068e 3 rfl) rfl ?_
    refine g_gvC (kdJ0_charAt_5068e 4 rfl) sJ0_9 ?_
    refine g_iload_n 1 (kdJ0_charAt_5068e 5 rfl) rfl ?_
    refine g_calI (ck_S (As := [.inr (.inr (106, n)), .inl a1]) (S := []) (kdJ0_charAt_5068e 6 rfl) iJ1_charAt_3b067 lJ0_495 rfl rfl rfl (by decide) (by simp only [List.map, vcat, List.sum_cons, List.sum_nil]; decide)) (CJ1_charAt_3b067_C n a1 m1) (fun x4 m3 => ?_)
    exact g_nret rfl (Or.inl rfl) (kdJ0_charAt_5068e 7 rfl)
def JJ1_charAt_3b067_S (n1 : Nat) (a2 : Int32) (m : hM) : hR :=
  calV (JJ0_checkIndex_df160 a2 (blen 107 n1) m) fun m1 =>
  bald 107 n1 a2 fun x2 =>
  jretN .char (ji2c (x2 &&& 255)) m1
set_option maxRecDepth 20000 in
theorem CJ1_charAt_3b067_S (n1 : Nat) (a2 : Int32) (m : hM) : Cn mJ1_charAt_3b067 2 [.inr (.inr (107, n1)), .inl a2] m (JJ1_charAt_3b067_S n1 a2 m) := by
  refine cn_of (by decide +kernel) (by simp only [List.map, vcat, List.sum_cons, List.sum_nil]; decide) ?_
  unfold JJ1_charAt_3b067_S
  show G mJ1_charAt_3b067 2 0 [(0, .inr (.inr (107, n1))), (1, .inl a2)] [] m _
  refine g_iload_n 1 (kdJ1_charAt_3b067 0 rfl) rfl ?_
  refine g_aload_n 0 (kdJ1_charAt_3b067 1 rfl) rfl ?_
  refine g_blenS (kdJ1_charAt_3b067 2 rfl) ?_
  refine g_calV (ck_S (As := [.inl a2, .inl (blen 107 n1)]) (S := []) (kdJ1_charAt_3b067 3 rfl) iJ0_checkIndex_df160 lJ1_9 rfl rfl rfl (by decide) (by simp only [List.map, vcat, List.sum_cons, List.sum_nil]; decide)) (CJ0_checkIndex_df160 a2 (blen 107 n1) m) (fun m1 => ?_)
  refine g_aload_n 0 (kdJ1_charAt_3b067 4 rfl) rfl ?_
  refine g_iload_n 1 (kdJ1_charAt_3b067 5 rfl) rfl ?_
  refine g_baldS (kdJ1_charAt_3b067 6 rfl) (fun x2 => ?_)
  refine g_sipush (v := 255) (kdJ1_charAt_3b067 7 rfl) (by decide) ?_
  refine g_iand (kdJ1_charAt_3b067 8 rfl) ?_
  refine g_i2c (kdJ1_charAt_3b067 9 rfl) ?_
  exact g_nret rfl (Or.inl rfl) (kdJ1_charAt_3b067 10 rfl)
def JJ0_coder_7d493_S (n : Nat) (m : hM) : hR :=
  if (1 : Int32) = 0 then (jretN .byte 1 m) else (jretN .byte 0 m)
set_option maxRecDepth 20000 in
theorem CJ0_coder_7d493_S (n : Nat) (m : hM) : Cn mJ0_coder_7d493 0 [.inr (.inr (105, n))] m (JJ0_coder_7d493_S n m) := by
  refine cn_of (by decide +kernel) (by simp only [List.map, vcat, List.sum_cons, List.sum_nil]; decide) ?_
  unfold JJ0_coder_7d493_S
  show G mJ0_coder_7d493 0 0 [(0, .inr (.inr (105, n)))] [] m _
  refine g_gsK (kdJ0_coder_7d493 0 rfl) sJ0_38 ?_
  refine g_if_eq (tgt := 13) (kdJ0_coder_7d493 1 rfl) (by decide) (fun _ => ?_) (fun _ => ?_)
  · refine g_iconst (v := 1) (kdJ0_coder_7d493 5 rfl) (by decide) ?_
    exact g_nret rfl (Or.inr rfl) (kdJ0_coder_7d493 6 rfl)
  · refine g_aload_n 0 (kdJ0_coder_7d493 2 rfl) rfl ?_
    refine g_gcS (kdJ0_coder_7d493 3 rfl) sJ0_15 ?_
    refine g_goto (tgt := 14) (kdJ0_coder_7d493 4 rfl) (by decide) ?_
    exact g_nret rfl (Or.inr rfl) (kdJ0_coder_7d493 6 rfl)
def JJ0_isLatin1_aae02_S (n : Nat) (m : hM) : hR :=
  if (1 : Int32) = 0 then (jretZ 0 m) else (if (0 : Int32) = 0 then (jretZ 1 m) else (jretZ 0 m))
set_option maxRecDepth 20000 in
theorem CJ0_isLatin1_aae02_S (n : Nat) (m : hM) : Cn mJ0_isLatin1_aae02 0 [.inr (.inr (105, n))] m (JJ0_isLatin1_aae02_S n m) := by
  refine cn_of (by decide +kernel) (by simp only [List.map, vcat, List.sum_cons, List.sum_nil]; decide) ?_
  unfold JJ0_isLatin1_aae02_S
  show G mJ0_isLatin1_aae02 0 0 [(0, .inr (.inr (105, n)))] [] m _
  refine g_gsK (kdJ0_isLatin1_aae02 0 rfl) sJ0_38 ?_
  refine g_if_eq (tgt := 17) (kdJ0_isLatin1_aae02 1 rfl) (by decide) (fun _ => ?_) (fun _ => ?_)
  · refine g_iconst (v := 0) (kdJ0_isLatin1_aae02 7 rfl) (by decide) ?_
    exact g_zret rfl (kdJ0_isLatin1_aae02 8 rfl)
  · refine g_aload_n 0 (kdJ0_isLatin1_aae02 2 rfl) rfl ?_
    refine g_gcS (kdJ0_isLatin1_aae02 3 rfl) sJ0_15 ?_
    refine g_if_ne (tgt := 17) (kdJ0_isLatin1_aae02 4 rfl) (by decide) (fun _ => ?_) (fun _ => ?_)
    · refine g_iconst (v := 0) (kdJ0_isLatin1_aae02 7 rfl) (by decide) ?_
      exact g_zret rfl (kdJ0_isLatin1_aae02 8 rfl)
    · refine g_iconst (v := 1) (kdJ0_isLatin1_aae02 5 rfl) (by decide) ?_
      refine g_goto (tgt := 18) (kdJ0_isLatin1_aae02 6 rfl) (by decide) ?_
      exact g_zret rfl (kdJ0_isLatin1_aae02 8 rfl)
def JJ0_length_8abf5_S (n : Nat) (m : hM) : hR :=
  calI (JJ0_coder_7d493_S n m) fun x2 m1 =>
  some (some (.inl ((blen 107 n) >>> (x2 &&& 31))), m1)
set_option maxRecDepth 20000 in
theorem CJ0_length_8abf5_S (n : Nat) (m : hM) : Cn mJ0_length_8abf5 1 [.inr (.inr (105, n))] m (JJ0_length_8abf5_S n m) := by
  refine cn_of (by decide +kernel) (by simp only [List.map, vcat, List.sum_cons, List.sum_nil]; decide) ?_
  unfold JJ0_length_8abf5_S
  show G mJ0_length_8abf5 1 0 [(0, .inr (.inr (105, n)))] [] m _
  refine g_aload_n 0 (kdJ0_length_8abf5 0 rfl) rfl ?_
  refine g_gvS (kdJ0_length_8abf5 1 rfl) sJ0_9 ?_
  refine g_blenS (kdJ0_length_8abf5 2 rfl) ?_
  refine g_aload_n 0 (kdJ0_length_8abf5 3 rfl) rfl ?_
  refine g_calI (ck_V (As := []) (S := [.inl (blen 107 n)]) (t := 105) (o := n) (kdJ0_length_8abf5 4 rfl) iJ0_coder_7d493 lJ0_335 rc_105 rfl rfl rfl (by decide) (by simp only [List.map, vcat, List.sum_cons, List.sum_nil]; decide)) (CJ0_coder_7d493_S n m) (fun x2 m1 => ?_)
  refine g_ishr (kdJ0_length_8abf5 5 rfl) ?_
  exact g_iret rfl (kdJ0_length_8abf5 6 rfl)
def JJ0_charAt_5068e_S (n : Nat) (a1 : Int32) (m : hM) : hR :=
  calI (JJ0_isLatin1_aae02_S n m) fun x2 m1 =>
  if x2 = 0 then (none) else (calI (JJ1_charAt_3b067_S n a1 m1) fun x4 m3 =>
  jretN .char x4 m3)
set_option maxRecDepth 20000 in
theorem CJ0_charAt_5068e_S (n : Nat) (a1 : Int32) (m : hM) : Cn mJ0_charAt_5068e 3 [.inr (.inr (105, n)), .inl a1] m (JJ0_charAt_5068e_S n a1 m) := by
  refine cn_of (by decide +kernel) (by simp only [List.map, vcat, List.sum_cons, List.sum_nil]; decide) ?_
  unfold JJ0_charAt_5068e_S
  show G mJ0_charAt_5068e 3 0 [(0, .inr (.inr (105, n))), (1, .inl a1)] [] m _
  refine g_aload_n 0 (kdJ0_charAt_5068e 0 rfl) rfl ?_
  refine g_calI (ck_V (As := []) (S := []) (t := 105) (o := n) (kdJ0_charAt_5068e 1 rfl) iJ0_isLatin1_aae02 lJ0_492 rc_105 rfl rfl rfl (by decide) (by simp only [List.map, vcat, List.sum_cons, List.sum_nil]; decide)) (CJ0_isLatin1_aae02_S n m) (fun x2 m1 => ?_)
  refine g_if_eq (tgt := 16) (kdJ0_charAt_5068e 2 rfl) (by decide) (fun _ => ?_) (fun _ => ?_)
  · refine g_aload_n 0 (kdJ0_charAt_5068e 8 rfl) rfl ?_
    refine g_gvS (kdJ0_charAt_5068e 9 rfl) sJ0_9 ?_
    refine g_iload_n 1 (kdJ0_charAt_5068e 10 rfl) rfl ?_
    exact g_none
  · refine g_aload_n 0 (kdJ0_charAt_5068e 3 rfl) rfl ?_
    refine g_gvS (kdJ0_charAt_5068e 4 rfl) sJ0_9 ?_
    refine g_iload_n 1 (kdJ0_charAt_5068e 5 rfl) rfl ?_
    refine g_calI (ck_S (As := [.inr (.inr (107, n)), .inl a1]) (S := []) (kdJ0_charAt_5068e 6 rfl) iJ1_charAt_3b067 lJ0_495 rfl rfl rfl (by decide) (by simp only [List.map, vcat, List.sum_cons, List.sum_nil]; decide)) (CJ1_charAt_3b067_S n a1 m1) (fun x4 m3 => ?_)
    exact g_nret rfl (Or.inl rfl) (kdJ0_charAt_5068e 7 rfl)
