/-! HuntedEye.tap where it throws -/
def NSE : String := "java/util/NoSuchElementException"
def xC (D : va_G) (ad : Nat → Nat → Nat) (ca : Nat → ClassId) (m : hM) : String → State → State → Prop := fun E st t => E = NSE ∧ va_P D vwCl (emb ad ca m) t.heap ∧ va_F (hA ad) st t
theorem xX_ot : ∀ w ∈ Cond.classLink RX11 134 NSE :: Cond.initialized NSE :: vx_at0 RX11 136 NSE ["java/lang/RuntimeException", "java/lang/Exception"], vx_ot w = true := by decide +kernel
theorem xX_l : Cond.classLink RX11 134 NSE ∈ gdw ∧ Cond.initialized NSE ∈ gdw := ⟨gdw_of (i := 1357) (by decide +kernel) (by decide +kernel), gdw_of (i := 136) (by decide +kernel) (by decide +kernel)⟩
theorem x_lk1 : Cond.methodLink RX11 131 mX11_isTap.1 ∈ gdw := lX11_131.resolve_right (by decide +kernel)
theorem x_lk2 : Cond.methodLink RX11 110 mX11_within.1 ∈ gdw := lX11_110.resolve_right (by decide +kernel)
set_option maxRecDepth 20000 in
theorem CX11_tapX {a1 a2 x y : Int32} {m : hM} (h1 : JX11_isTap a1 m = some (some (.inl x), m)) (h2 : JX11_within a2 0 1 m = some (some (.inl y), m)) (h : x = 0 ∨ y = 0) (l : Launch) (hl : l.stackTraces = false) (D : va_G) (ad : Nat → Nat → Nat) (ca : Nat → ClassId) :
    vx_Met l yX11_tap (hWs mX11_tap) (nRm 8 1 6) (va_Pc (([.inr (.inr (0, 0)), .inl a1, .inl a2] : List hV).map (ev ad)) (fun U => hWd D ad ca m U ∧ xW U ∧ xZ (hA ad) U U.heap)) (fun _ _ _ _ => False) (xC D ad ca m) 1 6 (hA ad) := by
  refine vx_ofW (cc := cX11_tap) (maxL := 3) (ret := some .int) (by decide) rfl ?_
  intro p e s mi args below meth c s₁ B hml htab hpre
  obtain ⟨rfl, ⟨hP, hK, hD, hz⟩, hxw, hxz⟩ := hpre
  have hts := atoms_spec (ws := hWs mX11_tap) B.pre
  have K : Kx p mi c cX11_tap 3 s (([.inr (.inr (0, 0)), .inl a1, .inl a2] : List hV).map (ev ad)).toArray (hWs mX11_tap) RX11 D ad ca := ⟨⟨B.exec, B.bytes, hml, findClass_of_methodNamed B.named, hts⟩, fun w hw => List.mem_cons_of_mem _ hw, hK, hz⟩
  have h0 : Hx D ad ca m (hA ad) s s.heap [] := ⟨hP, hD, va_S.rf, fun _ z => z, fun _ _ z => z⟩
  have hv := lv_entry ([.ref (ad 0 0), .int a1, .int a2] : List Value) (n := 3) (Nat.le_of_ble_eq_true rfl)
  show W p l e (nRm 8 1 6) s mi _ below meth c s.heap [] 0 0 (vx_MQ below _ _ _ s 1 6 (hA ad)) (entryFrame mi ([.ref (ad 0 0), .int a1, .int a2] : List Value).toArray 3)
  rw [lg_entry_eq]
  generalize (lg_sl ([.ref (ad 0 0), .int a1, .int a2] : List Value) ++ List.replicate (3 - (lg_sl ([.ref (ad 0 0), .int a1, .int a2] : List Value)).length) Slot.unset).toArray = ls at hv ⊢
  have hv : lv_has ls 3 [(0, .ref (ad 0 0)), (1, .int a1), (2, .int a2)] := hv
  have thr : ∀ (H : Heap) (locs : List Loc), Hx D ad ca m (hA ad) s H locs → W p l e (nRm 8 1 6) s mi (([.inr (.inr (0, 0)), .inl a1, .inl a2] : List hV).map (ev ad)).toArray below meth c H locs 0 0 (vx_MQ below (fun _ _ _ _ => False) (xC D ad ca m) (([.inr (.inr (0, 0)), .inl a1, .inl a2] : List hV).map (ev ad)).toArray s 1 6 (hA ad)) (F0 mi 17 ls []) := by
    intro H locs hx
    refine vx_throw0 (own := RX11) (cls := NSE) (names := ["java/lang/RuntimeException", "java/lang/Exception"]) (ik := 134) (ic := 136) (A := hA ad) K.1.1 K.1.2.1 hl K.1.2.2.2.1 (by decide +kernel) (by decide +kernel) (K.w xX_l.1) (K.w xX_l.2) (fun w hw => va_Nw.use (vxX_ot w hw) (hxw w hw)) xX_ot hxz.1 hxz.2 hx.2.2.1 (hv.1.trans hml.symm) (kdX11_tap 9 rfl).1 (kdX11_tap 10 rfl).1 (kdX11_tap 11 rfl).1 (kdX11_tap 12 rfl).1 (fun z hz9 => (htab z hz9).elim) (by decide) (Nat.le_of_ble_eq_true rfl) (Nat.le_of_ble_eq_true rfl) (Nat.le_of_ble_eq_true rfl) B.notSynchronized (fun t _ hsz hsm => ⟨rfl, hx.1.kept (fun k q hk => hsm q.1 ((hx.1 k q hk).lt)), Nat.le_trans hx.2.2.1.1 hsz, fun q q1 q2 => (hsm q (Nat.lt_of_lt_of_le q1 hx.2.2.1.1)).trans (hx.2.2.1.2.1 q q1 q2)⟩) hx.2.2.1.2.2 (Nat.le_of_ble_eq_true rfl) (Nat.le_of_ble_eq_true rfl)
  refine lv_aload_n K.1.1 K.1.2.1 (kdX11_tap 0 rfl).1 rfl (lv_at hv 0 rfl) ?_
  refine lv_iload_n K.1.1 K.1.2.1 (kdX11_tap 1 rfl).1 rfl (lv_at hv 1 rfl) ?_
  refine x_callV (t := 0) (o := 0) (As := [.inl a1]) (S := []) K h0 iX11_isTap x_lk1 ⟨9, TX11, 18, by decide, rfl, rfl⟩ (by decide) (fun v hv9 => by rcases List.mem_cons.mp hv9 with rfl | hv9; exact trivial; cases hv9) rfl rfl rfl ⟨Nat.le_of_ble_eq_true rfl, Nat.le_of_ble_eq_true rfl⟩ ⟨Nat.zero_le _, Nat.zero_le _⟩ (Nat.zero_le _) hv.1 (CX11_isTap a1 m) h1 (kdX11_tap 2 rfl).1 (fun H1 locs1 hx1 _ => ?_)
  show W p l e (nRm 8 1 6) s mi _ below meth c H1 locs1 0 0 _ (F0 mi 5 ls [.int x])
  refine lv_if_eq (tgt := 17) K.1.1 K.1.2.1 (kdX11_tap 3 rfl).1 (by decide) (fun _ => thr H1 locs1 hx1) (fun nx => ?_)
  have y0 : y = 0 := h.resolve_left nx
  refine lv_iload_n K.1.1 K.1.2.1 (kdX11_tap 4 rfl).1 rfl (lv_at hv 2 rfl) ?_
  refine lv_iconst (v := 0) K.1.1 K.1.2.1 (kdX11_tap 5 rfl).1 (by decide) ?_
  refine lv_iconst (v := 1) K.1.1 K.1.2.1 (kdX11_tap 6 rfl).1 (by decide) ?_
  refine x_callS (As := [.inl a2, .inl 0, .inl 1]) (S := []) K hx1 iX11_within x_lk2 (fun v hv9 => by
    rcases List.mem_cons.mp hv9 with rfl | hv9
    · exact trivial
    rcases List.mem_cons.mp hv9 with rfl | hv9
    · exact trivial
    rcases List.mem_cons.mp hv9 with rfl | hv9
    · exact trivial
    cases hv9) rfl rfl rfl ⟨Nat.le_of_ble_eq_true rfl, Nat.le_of_ble_eq_true rfl⟩ ⟨Nat.zero_le _, Nat.zero_le _⟩ (Nat.zero_le _) hv.1 (CX11_within a2 0 1 m) h2 (kdX11_tap 7 rfl).1 (fun H2 locs2 hx2 _ => ?_)
  show W p l e (nRm 8 1 6) s mi _ below meth c H2 locs2 0 0 _ (F0 mi 14 ls [.int y])
  exact lv_if_ne (tgt := 25) K.1.1 K.1.2.1 (kdX11_tap 8 rfl).1 (by decide) (fun ny => absurd y0 ny) (fun _ => thr H2 locs2 hx2)
