/-! the law from its entry -/
set_option maxRecDepth 20000 in
set_option maxHeartbeats 2000000 in
theorem whole_start {p : Program} {e : Env} {s : State} {m : MethodId} {below : List Frame} {meth : Method} {c : Code} (l : Launch) (hflags : l.flags = flags0) {b L : Nat} {xs : Nat → Int32} (hL : L ≤ 3072) (C0 : lw_At p s m meth c b L xs) : W p l e room_1 s m #[Value.ref b] below meth c s.heap [] 0 0 (lw_Z below #[Value.ref b] s) (entryFrame m ([Value.ref b] : List Value).toArray 7) := by
  obtain ⟨hx, hb, hr, hml, hown, hts, hX, hbl, hlocks, hgv⟩ := C0
  have hl : l.stackTraces = false := by unfold Launch.stackTraces; rw [hflags]; decide
  obtain ⟨D, ca, hK⟩ := vK_of hts
  have hg : ∀ w ∈ gdw, w.before #[Value.ref b] s = true := fun w hw => hts w (gdw_tb hw)
  have S : CallFix p m c code 7 s #[Value.ref b] gdw "HuntedEyeLaw" := ⟨hx, hb, hml, hown, hg⟩
  have hA9 : ∀ a : Nat, a < s.heap.size → ¬ aN s a := fun a h => Nat.not_le.mpr h
  obtain ⟨hz, a0, b0, a1, a2, a3, b1, b2, b3, hZ9⟩ := hZ_of hts hgv hA9
  have hs : ∀ q ∈ fC1, q.before #[Value.ref b] s = true := flat_of_before _ hgv
  have adw : ∃ a2' : Nat → Nat → Nat, a2' 100 0 = a0 ∧ a2' 101 = a1 ∧ a2' 102 = a2 ∧ a2' 106 = a3 ∧ a2' 103 0 = b0 ∧ a2' 104 = b1 ∧ a2' 105 = b2 ∧ a2' 107 = b3 := ⟨fun t => if t = 100 then fun _ => a0 else if t = 101 then a1 else if t = 102 then a2 else if t = 106 then a3 else if t = 103 then fun _ => b0 else if t = 104 then b1 else if t = 105 then b2 else b3, rfl, rfl, rfl, rfl, rfl, rfl, rfl, rfl⟩
  obtain ⟨aw, w0, w1, w2, w3, w4, w5, w6, w7⟩ := adw
  have hZ8 : hZ (adOf s.heap.size aw) (aN s) s s.heap := hZ9 (adOf s.heap.size aw) w0 w1 w2 w3 w4 w5 w6 w7
  have hAa : ∀ q, hA (adOf s.heap.size aw) q → aN s q := by
    rintro q ⟨t, n, t1, t2, rfl⟩
    show s.heap.size ≤ adOf s.heap.size aw t n
    rw [show adOf s.heap.size aw t n = s.heap.size + pos t n from if_pos t1]
    exact Nat.le_add_right _ _
  have hZ7 : hZ (adOf s.heap.size aw) (hA (adOf s.heap.size aw)) s s.heap := ⟨hZ8.1, ⟨hZ8.2.1.1.narrow hAa, hZ8.2.1.2.1.narrow hAa, fun q hq => (hZ8.2.1.2.2.1 q hq).narrow hAa, hZ8.2.1.2.2.2.1.narrow hAa, fun i hi => (hZ8.2.1.2.2.2.2.1 i hi).narrow hAa, fun i hi => ⟨(hZ8.2.1.2.2.2.2.2 i hi).1.narrow hAa, (hZ8.2.1.2.2.2.2.2 i hi).2.1.narrow hAa, (hZ8.2.1.2.2.2.2.2 i hi).2.2.1.narrow hAa, (hZ8.2.1.2.2.2.2.2 i hi).2.2.2.narrow hAa⟩⟩,
    ⟨hZ8.2.2.1.1.narrow hAa, hZ8.2.2.1.2.1.narrow hAa, fun q hq => (hZ8.2.2.1.2.2.1 q hq).narrow hAa, hZ8.2.2.1.2.2.2.1.narrow hAa, fun i hi => (hZ8.2.2.1.2.2.2.2.1 i hi).narrow hAa, fun i hi => ⟨(hZ8.2.2.1.2.2.2.2.2 i hi).1.narrow hAa, (hZ8.2.2.1.2.2.2.2.2 i hi).2.1.narrow hAa, (hZ8.2.2.1.2.2.2.2.2 i hi).2.2.1.narrow hAa, (hZ8.2.2.1.2.2.2.2.2 i hi).2.2.2.narrow hAa⟩⟩, hZ8.2.2.2.1.narrow hAa, hZ8.2.2.2.2.narrow hAa⟩
  have xw : xW s := fun w hw => va_Nw.of (vxX_ot w hw) (hts w (vxX_in w hw))
  have xz9 : xZ (aN s) s s.heap := ⟨vx_Zqof (hts _ tX1.1) (hts _ tX1.2.2) (hs _ cX1.1) hA9, vx_Zqof (hts _ tX1.2.1) (hts _ tX1.2.2) (hs _ cX1.2) hA9⟩
  have xz : xZ (hA (adOf s.heap.size aw)) s s.heap := ⟨xz9.1.narrow hAa, xz9.2.narrow hAa⟩
  have C : LwX p s m c b L xs D (adOf s.heap.size aw) ca := ⟨⟨S, fun w hw => hw, hK, hZ7⟩, hX, hbl, hL⟩
  have hv := lv_entry ([Value.ref b] : List Value) (n := 7) (Nat.le_of_ble_eq_true rfl)
  rw [lg_entry_eq]
  generalize (lg_sl ([Value.ref b] : List Value) ++ List.replicate (7 - (lg_sl ([Value.ref b] : List Value)).length) Slot.unset).toArray = ls at hv ⊢
  have hv : lv_has ls 7 [(0, .ref b)] := hv
  have n0 : nWd D s.heap.size ca [] s.heap := ⟨rfl, fun k q hk => by cases hk⟩
  refine w_new (cs := []) S hK n0 va_S.rf ncL8 (Nat.le_of_ble_eq_true rfl) (Nat.le_of_ble_eq_true rfl) (kL0 0 rfl) (fun H1 n1 s1 => ?_)
  refine lv_dup hx hb (kL0 1 rfl) rfl ?_
  refine w_call (mtf := mX11_init) (q := 0) S hK hz n1 s1 iX11_init lL15 rfl ⟨Nat.le_of_ble_eq_true rfl, Nat.le_of_ble_eq_true rfl⟩ (Nat.le_of_ble_eq_true rfl) (Nat.le_of_ble_eq_true rfl) (Nat.le_of_ble_eq_true rfl) hv.1 (CNX11 0 _) fin1_e (kL0 2 rfl) (fun H2 locs2 n2 s2 => ?_)
  refine lv_astore_n (i := 1) (nL := 7) (lv' := [(1, .ref (s.heap.size + 0)), (0, .ref b)]) hx hb (kL0 3 rfl) rfl hv (by decide) rfl (fun ls2 hv2 => ?_)
  refine w_new (cs := fin1) S hK n2 s2 ncL16 (Nat.le_of_ble_eq_true rfl) (Nat.le_of_ble_eq_true rfl) (kL0 4 rfl) (fun H3 n3 s3 => ?_)
  refine lv_dup hx hb (kL0 5 rfl) rfl ?_
  refine w_call (mtf := mX12_init) (q := fin1.length) S hK hz n3 s3 iX12_init lL18 rfl ⟨Nat.le_of_ble_eq_true rfl, Nat.le_of_ble_eq_true rfl⟩ (Nat.le_of_ble_eq_true rfl) (Nat.le_of_ble_eq_true rfl) (Nat.le_of_ble_eq_true rfl) hv2.1 (CNX12 fin1.length _) fin2_e (kL0 6 rfl) (fun H4 locs4 n4 s4 => ?_)
  refine lv_astore_n (i := 2) (nL := 7) (lv' := [(2, .ref (s.heap.size + fin1.length)), (1, .ref (s.heap.size + 0)), (0, .ref b)]) hx hb (kL0 7 rfl) rfl hv2 (by decide) rfl (fun ls3 hv3 => ?_)
  refine lv_iconst (v := 1) hx hb (kL0 8 rfl) (by decide) ?_
  refine w_newL (N := 1) (cs := fin2) S hK n4 s4 wA_long (by decide) (by decide) (by decide) (Nat.le_of_ble_eq_true rfl) (Nat.le_of_ble_eq_true rfl) (kL0 9 rfl) (fun H5 n5 s5 => ?_)
  refine lv_astore_n (i := 3) (nL := 7) (lv' := [(3, .ref (s.heap.size + fin2.length)), (2, .ref (s.heap.size + fin1.length)), (1, .ref (s.heap.size + 0)), (0, .ref b)]) hx hb (kL0 10 rfl) rfl hv3 (by decide) rfl (fun ls4 hv4 => ?_)
  refine lv_iconst (v := 0) hx hb (kL0 11 rfl) (by decide) ?_
  refine lv_istore (nL := 7) (lv' := [(4, .int 0), (3, .ref (s.heap.size + fin2.length)), (2, .ref (s.heap.size + fin1.length)), (1, .ref (s.heap.size + 0)), (0, .ref b)]) hx hb (kL0 12 rfl) hv4 (by decide) rfl (fun ls5 hv5 => ?_)
  have hv6 : lv_has ls5 7 (lvs b (adOf s.heap.size aw) 0) := by
    have p0 : adOf s.heap.size aw 0 0 = s.heap.size + 0 := rfl
    have p40 : adOf s.heap.size aw 40 0 = s.heap.size + fin1.length := by rw [fin_len.1]; rfl
    have p60 : adOf s.heap.size aw 60 0 = s.heap.size + fin2.length := by rw [fin_len.2.1]; rfl
    unfold lvs
    rw [p0, p40, p60]
    exact lv_sub hv5 [0, 4, 3, 2, 1] rfl
  obtain ⟨g1, g2⟩ := emb_0 (a2 := aw) n5.2
  refine W.widen (k := 445 + 0) (n := 28621 + 6 * 0) (Nat.le_of_ble_eq_true rfl) (Nat.le_of_ble_eq_true rfl) ?_
  exact lw_loop C hl xw xz hr hlocks 513 0 m00 H5 locs4 ls5 rfl Inv_0 ⟨g1, g2, s5, hAa, fun q q1 q2 => absurd q1 (Nat.not_lt.mpr q2)⟩ hv6
