/-! the law's tap -/
def yL_tap : MethodName := ⟨"HuntedEyeLaw", "tap", "(LHuntedEye;II[J)I"⟩
abbrev cL_tap : ByteArray := method_3_code
def wsLt : List Cond := .codeWith yL_tap cL_tap 5 (some .int) [(0, 10, 13, 13)] :: gdw
theorem eL_0 : decode cL_tap 0 = .ok (.aload_n 3, 1) := by decide +kernel
theorem eL_1 : decode cL_tap 1 = .ok (.iconst 0, 1) := by decide +kernel
theorem eL_2 : decode cL_tap 2 = .ok (.aload_n 0, 1) := by decide +kernel
theorem eL_3 : decode cL_tap 3 = .ok (.iload_n 1, 1) := by decide +kernel
theorem eL_4 : decode cL_tap 4 = .ok (.iload_n 2, 1) := by decide +kernel
theorem eL_5 : decode cL_tap 5 = .ok (.invokevirtual 7, 3) := by decide +kernel
theorem eL_8 : decode cL_tap 8 = .ok (.i2l, 1) := by decide +kernel
theorem eL_9 : decode cL_tap 9 = .ok (.lastore, 1) := by decide +kernel
theorem eL_10 : decode cL_tap 10 = .ok (.goto 7, 3) := by decide +kernel
theorem eL_13 : decode cL_tap 13 = .ok (.astore 4, 2) := by decide +kernel
theorem eL_15 : decode cL_tap 15 = .ok (.iconst 1, 1) := by decide +kernel
theorem eL_16 : decode cL_tap 16 = .ok (.ireturn, 1) := by decide +kernel
theorem eL_17 : decode cL_tap 17 = .ok (.iconst 0, 1) := by decide +kernel
theorem eL_18 : decode cL_tap 18 = .ok (.ireturn, 1) := by decide +kernel
theorem tL_link : Cond.methodLink "HuntedEyeLaw" 7 mX11_tap.1 ∈ gdw ∧ Cond.classLink "HuntedEyeLaw" 13 NSE ∈ gdw := ⟨gdw_of (i := 1353) (by decide +kernel) (by decide +kernel), gdw_of (i := 1352) (by decide +kernel) (by decide +kernel)⟩
theorem tL_cast : Cond.castable NSE NSE ∈ vxX := by decide +kernel
def lQ (D : va_G) (ad : Nat → Nat → Nat) (ca : Nat → ClassId) (k : Int32) (m : hM) : Array Value → State → Outcome → State → Prop := fun _ st oc t => oc = .returned (some (.int k)) ∧ va_P D vwCl (emb ad ca m) t.heap ∧ va_F (hA ad) st t
def lP (D : va_G) (ad : Nat → Nat → Nat) (ca : Nat → ClassId) (m : hM) (U : State) : Prop := hWd D ad ca m U ∧ xW U ∧ xZ (hA ad) U U.heap
theorem lP_blind {as : List Value} {D : va_G} {ad : Nat → Nat → Nat} {ca : Nat → ClassId} {m : hM} : FrameBlind (va_Pc as (lP D ad ca m)) := by
  intro a U g mk h
  obtain ⟨h1, ⟨h2, h3, h4, h5⟩, h6, h7⟩ := h
  exact ⟨h1, ⟨h2, va_K.moved (u := U) (U := U.calling g mk a) (Vm.Alike.refl U.vm) h3, h4, hZ_same (s := U) (U := U.calling g mk a) rfl h5⟩, xW_same (s := U) (U := U.calling g mk a) rfl h6, xZ_moved (u := U) (U := U.calling g mk a) (Vm.Alike.refl U.vm) h7⟩
theorem hCell_60 (ad : Nat → Nat → Nat) (ca : Nat → ClassId) (m : hM) : hCell ad ca m (60, 0) = .inl (ca 4, 1, .inr (.inl (m.2 60 0))) := rfl
section
variable {p : Program} {l : Launch} {e : Env} {s : State} {mi : MethodId} {args : Array Value} {below : List Frame} {meth : Method} {c : Code} {D : va_G} {ad : Nat → Nat → Nat} {ca : Nat → ClassId}
theorem lt_out {k : Int32} {m : hM} {H : Heap} {locs : List Loc} {ls : Array Slot} {pc : Nat} {R : Room} {nc ns : Nat} (hx : p.tables.exec = Jvm.exec) (hb : c.code = cL_tap) (hr : meth.sig.returnType = some .int) (hlk : meth.locks = false) (h : Hx D ad ca m (hA ad) s H locs) (hd : decode cL_tap pc = .ok (.ireturn, 1)) (hc : nc ≤ 1) (hs : ns ≤ 6) :
    W p l e R s mi args below meth c H locs nc ns (vx_MQ below (lQ D ad ca k m) (fun _ _ _ => False) args s 1 6 (hA ad)) (F0 mi pc ls [.int k]) := by
  refine W.widen (k := 1) (n := 6) hc hs ?_
  refine vx_ret ?_
  exact W.iret hx hb hr (fun t ht hW => ⟨rfl, by rw [ht]; exact h.1, h.2.2.1.F ht⟩) h.2.2.1.2.2 hd hlk
end
set_option maxRecDepth 20000 in
theorem CL_tapV {a b r : Int32} {m : hM} (h : JX11_tap a b m = some (some (.inl r), m)) (l : Launch) (D : va_G) (ad : Nat → Nat → Nat) (ca : Nat → ClassId) :
    vx_Met l yL_tap wsLt (nRm 10 1 6) (va_Pc [.ref (ad 0 0), .int a, .int b, .ref (ad 60 0)] (lP D ad ca m)) (lQ D ad ca 0 (uL m 60 0 0 r.toInt64)) (fun _ _ _ => False) 1 6 (hA ad) := by
  refine vx_ofWH (cc := cL_tap) (maxL := 5) (ret := some .int) (hh := [(0, 10, 13, 13)]) (by decide) rfl ?_
  intro p e s mi args below meth c s₁ B hml hpre
  obtain ⟨rfl, ⟨hP, hK, hD, hz⟩, hxw, hxz⟩ := hpre
  have hts := atoms_spec (ws := wsLt) B.pre
  have K : Kx p mi c cL_tap 5 s ([.ref (ad 0 0), .int a, .int b, .ref (ad 60 0)] : List Value).toArray wsLt "HuntedEyeLaw" D ad ca := ⟨⟨B.exec, B.bytes, hml, findClass_of_methodNamed B.named, hts⟩, fun w hw => List.mem_cons_of_mem _ hw, hK, hz⟩
  have h0 : Hx D ad ca m (hA ad) s s.heap [] := ⟨hP, hD, va_S.rf, fun _ z => z, fun _ _ z => z⟩
  have hv := lv_entry ([.ref (ad 0 0), .int a, .int b, .ref (ad 60 0)] : List Value) (n := 5) (Nat.le_of_ble_eq_true rfl)
  show W p l e (nRm 10 1 6) s mi _ below meth c s.heap [] 0 0 (vx_MQ below _ _ _ s 1 6 (hA ad)) (entryFrame mi ([.ref (ad 0 0), .int a, .int b, .ref (ad 60 0)] : List Value).toArray 5)
  rw [lg_entry_eq]
  generalize (lg_sl ([.ref (ad 0 0), .int a, .int b, .ref (ad 60 0)] : List Value) ++ List.replicate (5 - (lg_sl ([.ref (ad 0 0), .int a, .int b, .ref (ad 60 0)] : List Value)).length) Slot.unset).toArray = ls at hv ⊢
  have hv : lv_has ls 5 [(0, .ref (ad 0 0)), (1, .int a), (2, .int b), (3, .ref (ad 60 0))] := hv
  refine lv_aload_n K.1.1 K.1.2.1 eL_0 rfl (lv_at hv 3 rfl) ?_
  refine lv_iconst (v := 0) K.1.1 K.1.2.1 eL_1 (by decide) ?_
  refine lv_aload_n K.1.1 K.1.2.1 eL_2 rfl (lv_at hv 0 rfl) ?_
  refine lv_iload_n K.1.1 K.1.2.1 eL_3 rfl (lv_at hv 1 rfl) ?_
  refine lv_iload_n K.1.1 K.1.2.1 eL_4 rfl (lv_at hv 2 rfl) ?_
  refine x_callV (t := 0) (o := 0) (As := [.inl a, .inl b]) (S := [.inl 0, .inr (.inr (60, 0))]) K h0 iX11_tap tL_link.1 ⟨9, TX11, 18, by decide, rfl, rfl⟩ (by decide) (fun v hv9 => by
    rcases List.mem_cons.mp hv9 with rfl | hv9
    · exact trivial
    rcases List.mem_cons.mp hv9 with rfl | hv9
    · exact trivial
    cases hv9) rfl rfl rfl ⟨Nat.le_of_ble_eq_true rfl, Nat.le_of_ble_eq_true rfl⟩ ⟨Nat.zero_le _, Nat.zero_le _⟩ (Nat.le_of_ble_eq_true rfl) hv.1 (CX11_tap a b m) h eL_5 (fun H1 locs1 hx1 _ => ?_)
  show W p l e (nRm 10 1 6) s mi _ below meth c H1 locs1 0 0 _ (F0 mi 8 ls [.int r, .int 0, .ref (ad 60 0)])
  refine lv_i2l K.1.1 K.1.2.1 eL_8 (v := r.toInt64) rfl ?_
  obtain ⟨q, e1, e2⟩ := emb_at ad ca m (t := 60) (n := 0) (by decide) (by decide)
  rw [hCell_60] at e2
  refine va_last (tys := hTy ca) K.1.1 K.1.2.1 hK hx1.1 hx1.2.1 hx1.2.2.1 q 4 e2 rfl (by unfold vp_in; decide) eL_9 (fun H2 locs2 hP2 _ hS2 => ?_)
  have hP3 : va_P D vwCl (emb ad ca (uL m 60 0 0 r.toInt64)) H2 := by
    have e3 : (Sum.inl (ca 4, 1, .inr (.inl (vp_updL (m.2 60 0) (0 : Int32).toNatClampNeg r.toInt64))) : va_E) = hCell ad ca (uL m 60 0 0 r.toInt64) (60, 0) := by
      rw [hCell_60]
      congr 5
      funext j
      show (if j = 0 then r.toInt64 else m.2 60 0 j) = if 60 = 60 ∧ 0 = 0 ∧ j = 0 then r.toInt64 else m.2 60 0 j
      by_cases hj : j = 0
      · rw [if_pos hj, if_pos ⟨rfl, rfl, hj⟩]
      · rw [if_neg hj, if_neg (fun z => hj z.2.2)]
    rw [e3, emb_set ad ca m (uL m 60 0 0 r.toInt64) hx1.2.1 e1 (fun q2 h2 => hCell_uL q2 h2)] at hP2
    exact hP2
  refine lv_goto (tgt := 17) K.1.1 K.1.2.1 eL_10 (by decide) ?_
  refine lv_iconst (v := 0) K.1.1 K.1.2.1 eL_17 (by decide) ?_
  exact lt_out K.1.1 K.1.2.1 B.returns B.notSynchronized ⟨hP3, emb_addr ad ca m _ hx1.2.1, hS2, hx1.2.2.2⟩ eL_18 (Nat.zero_le _) (Nat.zero_le _)
set_option maxRecDepth 20000 in
theorem CL_tapX {a b x y : Int32} {m : hM} (h1 : JX11_isTap a m = some (some (.inl x), m)) (h2 : JX11_within b 0 1 m = some (some (.inl y), m)) (h : x = 0 ∨ y = 0) (l : Launch) (hl : l.stackTraces = false) (D : va_G) (ad : Nat → Nat → Nat) (ca : Nat → ClassId) :
    vx_Met l yL_tap wsLt (nRm 10 1 6) (va_Pc [.ref (ad 0 0), .int a, .int b, .ref (ad 60 0)] (lP D ad ca m)) (lQ D ad ca 1 m) (fun _ _ _ => False) 1 6 (hA ad) := by
  refine vx_ofWH (cc := cL_tap) (maxL := 5) (ret := some .int) (hh := [(0, 10, 13, 13)]) (by decide) rfl ?_
  intro p e s mi args below meth c s₁ B hml hpre
  obtain ⟨rfl, ⟨hP, hK, hD, hz⟩, hxw, hxz⟩ := hpre
  have hts := atoms_spec (ws := wsLt) B.pre
  have K : Kx p mi c cL_tap 5 s ([.ref (ad 0 0), .int a, .int b, .ref (ad 60 0)] : List Value).toArray wsLt "HuntedEyeLaw" D ad ca := ⟨⟨B.exec, B.bytes, hml, findClass_of_methodNamed B.named, hts⟩, fun w hw => List.mem_cons_of_mem _ hw, hK, hz⟩
  have h0 : Hx D ad ca m (hA ad) s s.heap [] := ⟨hP, hD, va_S.rf, fun _ z => z, fun _ _ z => z⟩
  have hv := lv_entry ([.ref (ad 0 0), .int a, .int b, .ref (ad 60 0)] : List Value) (n := 5) (Nat.le_of_ble_eq_true rfl)
  have htab := vx_table (x := yL_tap) B (hts _ List.mem_cons_self)
  show W p l e (nRm 10 1 6) s mi _ below meth c s.heap [] 0 0 (vx_MQ below _ _ _ s 1 6 (hA ad)) (entryFrame mi ([.ref (ad 0 0), .int a, .int b, .ref (ad 60 0)] : List Value).toArray 5)
  rw [lg_entry_eq]
  generalize (lg_sl ([.ref (ad 0 0), .int a, .int b, .ref (ad 60 0)] : List Value) ++ List.replicate (5 - (lg_sl ([.ref (ad 0 0), .int a, .int b, .ref (ad 60 0)] : List Value)).length) Slot.unset).toArray = ls at hv ⊢
  have hv : lv_has ls 5 [(0, .ref (ad 0 0)), (1, .int a), (2, .int b), (3, .ref (ad 60 0))] := hv
  refine lv_aload_n K.1.1 K.1.2.1 eL_0 rfl (lv_at hv 3 rfl) ?_
  refine lv_iconst (v := 0) K.1.1 K.1.2.1 eL_1 (by decide) ?_
  refine lv_aload_n K.1.1 K.1.2.1 eL_2 rfl (lv_at hv 0 rfl) ?_
  refine lv_iload_n K.1.1 K.1.2.1 eL_3 rfl (lv_at hv 1 rfl) ?_
  refine lv_iload_n K.1.1 K.1.2.1 eL_4 rfl (lv_at hv 2 rfl) ?_
  have hrecv : ∃ cell : Cell, s.heap[ad 0 0]? = some cell ∧ cell.vm.isStatics = false ∧ s.vm.findClass RX11 = some cell.cls := by
    obtain ⟨q, e1, e2⟩ := emb_at ad ca m (t := 0) (n := 0) (by decide) (by decide)
    rw [hCell_ob (ci := 9) rfl] at e2
    exact va_recv hK hP (q := (RX11, TX11, 18)) rfl e2
  have hMet := CX11_tapX h1 h2 h l hl D ad ca
  have hpre : PreV s s.heap RX11 (ad 0 0) (va_Pc (([.inr (.inr (0, 0)), .inl a, .inl b] : List hV).map (ev ad)) (fun U => hWd D ad ca m U ∧ xW U ∧ xZ (hA ad) U U.heap)) [.int a, .int b] := by
    refine ⟨?_, hrecv, fun U hU hW => ⟨rfl, ⟨by rw [hU]; exact hP, va_K.moved hW.alike hK, hD, by rw [hU]; exact hZ_warm hW hz⟩, xW_warm hW hxw, by rw [hU]; exact xZ_moved hW.alike hxz⟩⟩
    exact lP_blind
  have run := vx_runV (C := RX11) (R := nRm 10 1 6) (locs := []) (cells := 0) (slots := 0) (e := e) (below := below) (meth := meth) (g := F0 mi 5 ls [.int b, .int a, .ref (ad 0 0), .int 0, .ref (ad 60 0)]) (rest := [.int 0, .ref (ad 60 0)]) K.1 hMet ⟨callB_of 2 K.1.2.2.2.2 (good_Ts K.2.1 iX11_tap.1.1) rfl rfl rfl (K.w iX11_tap.1.2.1) (K.w tL_link.1) ⟨iX11_tap.1.2.2.1, iX11_tap.1.2.2.2.1, rfl⟩ ⟨Nat.le_of_ble_eq_true rfl, Nat.le_of_ble_eq_true rfl⟩, K.w iX11_tap.2.1, K.w iX11_tap.2.2⟩ hpre rfl rfl hv.1 rfl (lv_room (Nat.le_of_ble_eq_true rfl)) eL_5 ⟨Nat.le_of_ble_eq_true rfl, Nat.le_of_ble_eq_true rfl⟩
  intro T hT X
  rcases run T hT X with ⟨v, st₀, t, T', L, q0, X', hL, e1, e2, hq, st⟩ | ⟨q, st₀, t, T', L, E, ce, q0, X', hL, e1, e2, ⟨hE, hP1, hF⟩, hce, hcv, hcl, st⟩
  · exact hq.elim
  · subst hE
    rw [← e1] at hce hP1
    have hS1 : va_S (hA ad) s.heap T'.heap ([] ++ L) := ⟨by have := hF.1; rw [q0] at this; rw [e1]; exact this, fun z z1 z2 => by have := hF.2 z (by rw [q0]; exact z1) z2; rw [q0] at this; rw [e1]; exact this, fun z hz9 => by
      rcases List.mem_append.mp hz9 with h9 | h9
      · cases h9
      · exact hL z h9⟩
    have hx1 : Hx D ad ca m (hA ad) s T'.heap ([] ++ L) := ⟨hP1, hD, hS1, fun _ z => z, fun _ _ z => z⟩
    have kk : vx_W p l e (nRm 10 1 6) s mi ([.ref (ad 0 0), .int a, .int b, .ref (ad 60 0)] : List Value).toArray below meth c T'.heap ([] ++ L) (0 + 1) (0 + 6) (vx_MQ below (lQ D ad ca 1 m) (fun _ _ _ => False) ([.ref (ad 0 0), .int a, .int b, .ref (ad 60 0)] : List Value).toArray s 1 6 (hA ad)) (F0 mi 5 ls [.int 0, .ref (ad 60 0)]) q := by
      refine vx_catch (own := "HuntedEyeLaw") (name := NSE) K.1.2.2.2.1 [] { startPc := 0, endPc := 10, handlerPc := 13, catchType := 13 } [] htab (fun z hz9 => by cases hz9) (by decide) (by decide) (K.w tL_link.2) (va_Nw.use (vxX_ot _ tL_cast) (hxw _ tL_cast)) hce hcv hcl ?_
      refine lv_astore (nL := 5) (lv' := [(4, .ref q), (0, .ref (ad 0 0)), (1, .int a), (2, .int b), (3, .ref (ad 60 0))]) K.1.1 K.1.2.1 eL_13 hv (by decide) rfl (fun ls2 hv2 => ?_)
      refine lv_iconst (v := 1) K.1.1 K.1.2.1 eL_15 (by decide) ?_
      exact lt_out K.1.1 K.1.2.1 B.returns B.notSynchronized hx1 eL_16 (Nat.le_of_ble_eq_true rfl) (Nat.le_of_ble_eq_true rfl)
    obtain ⟨t2, a1, b1⟩ := kk T' rfl X'
    exact ⟨t2, st.trans a1, b1⟩
