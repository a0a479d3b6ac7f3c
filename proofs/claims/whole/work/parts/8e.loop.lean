/-! the law: tap, and the loop -/
theorem tL_gd : ∀ w ∈ va_wsS "HuntedEyeLaw" 46 yL_tap wsLt, w ∈ gdw := by
  intro w hw
  unfold va_wsS at hw
  rcases List.mem_append.mp hw with hw | hw
  · rcases List.mem_cons.mp hw with rfl | hw
    · exact gdw_of (i := 1349) (by decide +kernel) (by decide +kernel)
    rcases List.mem_cons.mp hw with rfl | hw
    · exact gdw_of (i := 1350) (by decide +kernel) (by decide +kernel)
    rcases List.mem_cons.mp hw with rfl | hw
    · exact gdw_of (i := 112) (by decide +kernel) (by decide +kernel)
    cases hw
  · rcases List.mem_cons.mp hw with rfl | hw
    · exact gdw_of (i := 1351) (by decide +kernel) (by decide +kernel)
    · exact hw
theorem lg_cmp_0 (x : Int64) : lg_cmp x x = 0 := by
  unfold lg_cmp
  rw [if_neg (by rw [gt_iff_lt, Int64.lt_iff_toInt_lt]; omega), if_pos rfl]
section
variable {p : Program} {l : Launch} {e : Env} {s : State} {mi : MethodId} {below : List Frame} {meth : Method} {c : Code} {D : va_G} {ad : Nat → Nat → Nat} {ca : Nat → ClassId} {b L : Nat} {xs : Nat → Int32} {j k n : Nat} {ls : Array Slot} {Q : State → Prop} {m : hM} {H : Heap} {locs : List Loc}
set_option maxRecDepth 20000 in
theorem x_tap {a1 a2 k0 : Int32} {m1 : hM} (hMet : vx_Met l yL_tap wsLt (nRm 10 1 6) (va_Pc [.ref (ad 0 0), .int a1, .int a2, .ref (ad 60 0)] (lP D ad ca m)) (lQ D ad ca k0 m1) (fun _ _ _ => False) 1 6 (hA ad)) (C : LwX p s mi c b L xs D ad ca) (h : Hx D ad ca m (aN s) s H locs) (hsz : ls.size = 7) (xw : xW s) (xz : xZ (hA ad) s s.heap) (hk : k + 1 ≤ 601024 ∧ n + 6 ≤ 7293034)
    (kk : ∀ H1 locs1, Hx D ad ca m1 (aN s) s H1 locs1 → W p l e room_1 s mi #[.ref b] below meth c H1 locs1 (k + 1) (n + 6) Q (F0 mi 455 ls [.int k0])) : W p l e room_1 s mi #[.ref b] below meth c H locs k n Q (F0 mi 452 ls [.ref (ad 60 0), .int a2, .int a1, .ref (ad 0 0)]) := by
  have hpre : PreS s H (va_Pc [.ref (ad 0 0), .int a1, .int a2, .ref (ad 60 0)] (lP D ad ca m)) [.ref (ad 0 0), .int a1, .int a2, .ref (ad 60 0)] := by
    refine ⟨lP_blind, fun U hU hW => ⟨rfl, ⟨by rw [hU]; exact h.1, va_K.moved hW.alike C.1.2.2.1, h.2.1, by rw [hU]; exact hZ_warm hW (h.z C.1)⟩, xW_warm hW xw, ?_⟩⟩
    rw [hU]
    exact xZ_moved hW.alike (xZ_kept xz (fun a h1 _ => h.2.2.1.2.1 a h1 (Nat.not_le.mpr h1)))
  have cw : vx_CSW room_1 s #[.ref b] "HuntedEyeLaw" 46 yL_tap cL_tap 5 (some .int) [(0, 10, 13, 13)] wsLt (nRm 10 1 6) 1 6 4 := vx_cwSW (Ts := gdw) (ws' := gdw) 4 C.1.1.2.2.2.2 (fun w hw => ⟨tL_gd w hw, good_of_word (gdw_good (tL_gd w hw))⟩) rfl rfl rfl ⟨by decide, by decide, rfl⟩ ⟨Nat.le_of_ble_eq_true rfl, Nat.le_of_ble_eq_true rfl⟩
  have run := vx_runSX (R := room_1) (locs := locs) (cells := k) (slots := n) (e := e) (below := below) (meth := meth) (g := F0 mi 452 ls [.ref (ad 60 0), .int a2, .int a1, .ref (ad 0 0)]) (rest := []) C.1.1 hMet cw hpre rfl rfl hsz rfl (lv_room (Nat.zero_le _)) (kL1 89 rfl) ⟨hk.1, hk.2⟩
  intro T hT X
  rcases run T hT X with ⟨v, st₀, t, T', Lx, q0, X', hL, e1, e2, ⟨hv9, hp9, hF⟩, st⟩ | ⟨q, st₀, t, T', Lx, E, ce, q0, X', hL, e1, e2, hq, hce, hcv, hcl, st⟩
  · cases hv9
    have hS := h.2.2.1
    have hz := hF.1
    have hk9 := hF.2
    rw [q0] at hz hk9
    obtain ⟨t2, b1, b2⟩ := kk T'.heap (locs ++ Lx) ⟨by rw [e1]; exact hp9, emb_addr ad ca m m1 h.2.1, ⟨Nat.le_trans hS.1 (by rw [e1]; exact hz), fun q h1 h2 => by rw [e1, hk9 q (Nat.lt_of_lt_of_le h1 hS.1) (fun z => h2 (h.2.2.2.1 q z))]; exact hS.2.1 q h1 h2, fun q hq => by
      rcases List.mem_append.mp hq with h9 | h9
      · exact hS.2.2 q h9
      · exact h.2.2.2.1 _ (hL q h9)⟩, h.2.2.2⟩ T' rfl X'
    exact ⟨t2, st t2 b1, b2⟩
  · exact hq.elim
set_option maxRecDepth 20000 in
/-- behind the law's tap -/
theorem x_aft {r k0 : Int32} {m1 m2 : hM} (C : LwX p s mi c b L xs D ad ca) (h : Hx D ad ca m1 (aN s) s H locs) (hv : lv_has ls 7 (lvs b ad j)) (hn : 6 * j + 6 ≤ L) (hk : k ≤ 601024 ∧ n ≤ 7293034)
    (e2 : JX12_tap (xs (6 * j + 1)) (xs (6 * j + 2)) m1 = some (some (.inl r), m2)) (ht : m2.1 40 0 0 = k0) (hz : k0 = 0 → m2.2 60 0 0 = r.toInt64)
    (nxt : ∀ H2 locs2 ls2, Hx D ad ca m2 (aN s) s H2 locs2 → lv_has ls2 7 (lvs b ad j) → W p l e room_1 s mi #[.ref b] below meth c H2 locs2 k n Q (F0 mi 1590 ls2 [])) : W p l e room_1 s mi #[.ref b] below meth c H locs k n Q (F0 mi 455 ls [.int k0]) := by
  refine lv_istore (nL := 7) (lv' := (5, .int k0) :: lvs b ad j) C.1.1.1 C.1.1.2.1 (kL1 90 rfl) hv (by decide) rfl (fun ls2 hw => ?_)
  have hw4 := lv_at hw 1 rfl
  have hw0 := lv_at hw 2 rfl
  refine lv_aload_n C.1.1.1 C.1.1.2.1 (kL1 91 rfl) rfl (lv_at hw 4 rfl) ?_
  refine x_ld (n := 1) C h hw0 hw4 hn (by decide) (kL1 92 rfl) (kL1 93 rfl) (kL1 94 rfl) (kL1 95 rfl) (kL1 96 rfl) ?_
  refine x_ld (n := 2) C h hw0 hw4 hn (by decide) (kL1 97 rfl) (kL1 98 rfl) (kL1 99 rfl) (kL2 0 rfl) (kL2 1 rfl) ?_
  refine x_callV (t := 40) (o := 0) (As := [.inl (xs (6 * j + 1)), .inl (xs (6 * j + 2))]) (S := []) C.1 h iX12_tap (gdw_of (i := 1841) (by decide +kernel) (by decide +kernel)) ⟨10, TX12, 40, by decide, rfl, rfl⟩ (by decide) (hvI (hvI hvN)) rfl rfl rfl ⟨Nat.le_of_ble_eq_true rfl, Nat.le_of_ble_eq_true rfl⟩ hk (Nat.zero_le _) hw.1 (CX12_tap (xs (6 * j + 1)) (xs (6 * j + 2)) m1) e2 (kL2 2 rfl) (fun H2 locs2 h2 _ => ?_)
  refine lv_istore (nL := 7) (lv' := (6, .int r) :: (5, .int k0) :: lvs b ad j) C.1.1.1 C.1.1.2.1 (kL2 3 rfl) hw (by decide) rfl (fun ls3 hu => ?_)
  refine lv_aload_n C.1.1.1 C.1.1.2.1 (kL2 4 rfl) rfl (lv_at hu 5 rfl) ?_
  refine x_callV (t := 40) (o := 0) (As := []) (S := []) C.1 h2 iX12_thrown (gdw_of (i := 1546) (by decide +kernel) (by decide +kernel)) ⟨10, TX12, 40, by decide, rfl, rfl⟩ (by decide) hvN rfl rfl rfl ⟨Nat.le_of_ble_eq_true rfl, Nat.le_of_ble_eq_true rfl⟩ hk (Nat.zero_le _) hu.1 (CX12_thrown m2) (show JX12_thrown m2 = some (some (.inl (m2.1 40 0 0)), m2) from rfl) (kL2 5 rfl) (fun H3 locs3 h3 _ => ?_)
  refine lv_iload C.1.1.1 C.1.1.2.1 (kL2 6 rfl) (lv_at hu 1 rfl) ?_
  refine lv_icmp_eq (tgt := 486) C.1.1.1 C.1.1.2.1 (kL2 7 rfl) (by decide) (fun _ => ?_) (fun z => absurd ht z)
  refine lv_iload C.1.1.1 C.1.1.2.1 (kL2 10 rfl) (lv_at hu 1 rfl) ?_
  have go : W p l e room_1 s mi #[.ref b] below meth c H3 locs3 k n Q (F0 mi 503 ls3 []) := by
    refine lv_goto (tgt := 1590) C.1.1.1 C.1.1.2.1 (kL2 21 rfl) (by decide) ?_
    exact nxt H3 locs3 ls3 h3 (lv_sub hu [2, 3, 4, 5, 6] rfl)
  refine lv_if_ne (tgt := 503) C.1.1.1 C.1.1.2.1 (kL2 11 rfl) (by decide) (fun _ => go) (fun k00 => ?_)
  refine lv_aload_n C.1.1.1 C.1.1.2.1 (kL2 12 rfl) rfl (lv_at hu 6 rfl) ?_
  refine lv_iconst (v := 0) C.1.1.1 C.1.1.2.1 (kL2 13 rfl) (by decide) ?_
  obtain ⟨q, f1, f2⟩ := emb_at ad ca m2 (t := 60) (n := 0) (by decide) (by decide)
  rw [hCell_60] at f2
  refine va_lald (tys := hTy ca) C.1.1.1 C.1.1.2.1 C.1.2.2.1 h3.1 q 4 f2 rfl (by unfold vp_in; decide) (kL2 14 rfl) ?_
  refine lv_iload C.1.1.1 C.1.1.2.1 (kL2 15 rfl) (lv_at hu 0 rfl) ?_
  refine lv_i2l C.1.1.1 C.1.1.2.1 (kL2 16 rfl) rfl ?_
  refine W.lcmp C.1.1.1 C.1.1.2.1 (kL2 17 rfl) ?_
  have ec : lg_cmp (m2.2 60 0 (0 : Int32).toNatClampNeg) r.toInt64 = 0 := by
    rw [show (0 : Int32).toNatClampNeg = 0 from rfl, hz k00]
    exact lg_cmp_0 _
  exact lv_if_eq (tgt := 503) C.1.1.1 C.1.1.2.1 (kL2 18 rfl) (by decide) (fun _ => go) (fun z => absurd ec z)
theorem cs_tap (C : LwX p s mi c b L xs D ad ca) (hm : Inv m) (h : Hx D ad ca m (aN s) s H locs) (hv : lv_has ls 7 (lvs b ad j)) (hn : 6 * j + 6 ≤ L) (hk : k + 1 ≤ 601024 ∧ n + 6 ≤ 7293034) (hl : l.stackTraces = false) (xw : xW s) (xz : xZ (hA ad) s s.heap)
    (nxt : ∀ m2 H2 locs2 ls2, Inv m2 → Hx D ad ca m2 (aN s) s H2 locs2 → lv_has ls2 7 (lvs b ad j) → W p l e room_1 s mi #[.ref b] below meth c H2 locs2 (k + 1) (n + 6) Q (F0 mi 1590 ls2 [])) : W p l e room_1 s mi #[.ref b] below meth c H locs k n Q (F0 mi 438 ls []) := by
  have hv4 := lv_at hv 0 rfl
  have hv0 := lv_at hv 1 rfl
  refine lv_aload_n C.1.1.1 C.1.1.2.1 (kL1 77 rfl) rfl (lv_at hv 2 rfl) ?_
  refine x_ld (n := 1) C h hv0 hv4 hn (by decide) (kL1 78 rfl) (kL1 79 rfl) (kL1 80 rfl) (kL1 81 rfl) (kL1 82 rfl) ?_
  refine x_ld (n := 2) C h hv0 hv4 hn (by decide) (kL1 83 rfl) (kL1 84 rfl) (kL1 85 rfl) (kL1 86 rfl) (kL1 87 rfl) ?_
  refine lv_aload_n C.1.1.1 C.1.1.2.1 (kL1 88 rfl) rfl (lv_at hv 4 rfl) ?_
  rcases k_tap (xs (6 * j + 1)) (xs (6 * j + 2)) m hm with ⟨r, e1, h2⟩ | ⟨x, y, e1, e2, hxy, r, m2, e3, e4, e5⟩
  · obtain ⟨m2, f1, f2, f3, f4⟩ := h2 r.toInt64
    exact x_tap (CL_tapV e1 l D ad ca) C h hv.1 xw xz hk (fun H1 locs1 h1 => x_aft C h1 hv hn hk f1 f2 (fun _ => f3) (fun H2 locs2 ls2 h2 hv2 => nxt m2 H2 locs2 ls2 f4 h2 hv2))
  · exact x_tap (CL_tapX e1 e2 hxy l hl D ad ca) C h hv.1 xw xz hk (fun H1 locs1 h1 => x_aft C h1 hv hn hk e3 e4 (fun z => absurd z (by decide)) (fun H2 locs2 ls2 h2 hv2 => nxt m2 H2 locs2 ls2 e5 h2 hv2))
theorem x_63 (x : Int32) : ∃ v, v < 64 ∧ x &&& 63 = nI v := ⟨x.toBitVec.toNat % 2 ^ 6, Nat.mod_lt _ (by decide), pk_and x 6 (by decide)⟩
set_option maxRecDepth 20000 in
theorem lw_sw (C : LwX p s mi c b L xs D ad ca) (hm : Inv m) (h : Hx D ad ca m (aN s) s H locs) (hv : lv_has ls 7 (lvs b ad j)) (hn : 6 * j + 6 ≤ L) (hk : k + 1 ≤ 601024 ∧ n + 6 ≤ 7293034) (hl : l.stackTraces = false) (xw : xW s) (xz : xZ (hA ad) s s.heap)
    (nxt : ∀ m2 H2 locs2 ls2, Inv m2 → Hx D ad ca m2 (aN s) s H2 locs2 → lv_has ls2 7 (lvs b ad j) → W p l e room_1 s mi #[.ref b] below meth c H2 locs2 (k + 1) (n + 6) Q (F0 mi 1590 ls2 [])) (v : Nat) (hv6 : v < 64) : W p l e room_1 s mi #[.ref b] below meth c H locs k n Q (F0 mi 40 ls [.int (nI v)]) := by
  by_cases c42 : v < 43
  · match v, c42 with
    | 0, _ => exact lv_tableIn (off := 188) (tgt := 228) C.1.1.1 C.1.1.2.1 (kL0 24 rfl) (by decide) (by decide) (by decide) (by decide) (cs_feed C hm h hv hn ⟨by omega, by omega⟩ nxt)
    | 1, _ => exact lv_tableIn (off := 261) (tgt := 301) C.1.1.1 C.1.1.2.1 (kL0 24 rfl) (by decide) (by decide) (by decide) (by decide) (cs_end C hm h hv hn ⟨by omega, by omega⟩ nxt)
    | 2, _ => exact lv_tableIn (off := 286) (tgt := 326) C.1.1.1 C.1.1.2.1 (kL0 24 rfl) (by decide) (by decide) (by decide) (by decide) (cs_fault C hm h hv hn ⟨by omega, by omega⟩ nxt)
    | 3, _ => exact lv_tableIn (off := 311) (tgt := 351) C.1.1.1 C.1.1.2.1 (kL0 24 rfl) (by decide) (by decide) (by decide) (by decide) (cs_text C hm h hv hn ⟨by omega, by omega⟩ nxt)
    | 4, _ => exact lv_tableIn (off := 336) (tgt := 376) C.1.1.1 C.1.1.2.1 (kL0 24 rfl) (by decide) (by decide) (by decide) (by decide) (cs_rule C hm h hv hn ⟨by omega, by omega⟩ nxt)
    | 5, _ => exact lv_tableIn (off := 361) (tgt := 401) C.1.1.1 C.1.1.2.1 (kL0 24 rfl) (by decide) (by decide) (by decide) (by decide) (cs_told C hm h hv hn ⟨by omega, by omega⟩ nxt)
    | 6, _ => exact lv_tableIn (off := 398) (tgt := 438) C.1.1.1 C.1.1.2.1 (kL0 24 rfl) (by decide) (by decide) (by decide) (by decide) (cs_tap C hm h hv hn ⟨by omega, by omega⟩ hl xw xz nxt)
    | 7, _ => exact lv_tableIn (off := 466) (tgt := 506) C.1.1.1 C.1.1.2.1 (kL0 24 rfl) (by decide) (by decide) (by decide) (by decide) (cs_now C hm h hv hn ⟨by omega, by omega⟩ nxt)
    | 8, _ => exact lv_tableIn (off := 491) (tgt := 531) C.1.1.1 C.1.1.2.1 (kL0 24 rfl) (by decide) (by decide) (by decide) (by decide) (cs_ago C hm h hv hn ⟨by omega, by omega⟩ nxt)
    | 9, _ => exact lv_tableIn (off := 528) (tgt := 568) C.1.1.1 C.1.1.2.1 (kL0 24 rfl) (by decide) (by decide) (by decide) (by decide) (cs_risk C hm h hv hn ⟨by omega, by omega⟩ nxt)
    | 10, _ => exact lv_tableIn (off := 553) (tgt := 593) C.1.1.1 C.1.1.2.1 (kL0 24 rfl) (by decide) (by decide) (by decide) (by decide) (cs_send C hm h hv hn ⟨by omega, by omega⟩ nxt)
    | 11, _ => exact lv_tableIn (off := 578) (tgt := 618) C.1.1.1 C.1.1.2.1 (kL0 24 rfl) (by decide) (by decide) (by decide) (by decide) (cs_phase C hm h hv hn ⟨by omega, by omega⟩ nxt)
    | 12, _ => exact lv_tableIn (off := 603) (tgt := 643) C.1.1.1 C.1.1.2.1 (kL0 24 rfl) (by decide) (by decide) (by decide) (by decide) (cs_hold C hm h hv hn ⟨by omega, by omega⟩ nxt)
    | 13, _ => exact lv_tableIn (off := 628) (tgt := 668) C.1.1.1 C.1.1.2.1 (kL0 24 rfl) (by decide) (by decide) (by decide) (by decide) (cs_set C hm h hv hn ⟨by omega, by omega⟩ nxt)
    | 14, _ => exact lv_tableIn (off := 665) (tgt := 705) C.1.1.1 C.1.1.2.1 (kL0 24 rfl) (by decide) (by decide) (by decide) (by decide) (cs_drop C hm h hv hn ⟨by omega, by omega⟩ nxt)
    | 15, _ => exact lv_tableIn (off := 678) (tgt := 718) C.1.1.1 C.1.1.2.1 (kL0 24 rfl) (by decide) (by decide) (by decide) (by decide) (cs_change C hm h hv hn ⟨by omega, by omega⟩ nxt)
    | 16, _ => exact lv_tableIn (off := 715) (tgt := 755) C.1.1.1 C.1.1.2.1 (kL0 24 rfl) (by decide) (by decide) (by decide) (by decide) (cs_dice C hm h hv hn ⟨by omega, by omega⟩ nxt)
    | 17, _ => exact lv_tableIn (off := 772) (tgt := 812) C.1.1.1 C.1.1.2.1 (kL0 24 rfl) (by decide) (by decide) (by decide) (by decide) (cs_seek C hm h hv hn ⟨by omega, by omega⟩ nxt)
    | 18, _ => exact lv_tableIn (off := 785) (tgt := 825) C.1.1.1 C.1.1.2.1 (kL0 24 rfl) (by decide) (by decide) (by decide) (by decide) (cs_years C hm h hv hn ⟨by omega, by omega⟩ nxt)
    | 19, _ => exact lv_tableIn (off := 854) (tgt := 894) C.1.1.1 C.1.1.2.1 (kL0 24 rfl) (by decide) (by decide) (by decide) (by decide) (cs_status C hm h hv hn ⟨by omega, by omega⟩ nxt)
    | 20, _ => exact lv_tableIn (off := 879) (tgt := 919) C.1.1.1 C.1.1.2.1 (kL0 24 rfl) (by decide) (by decide) (by decide) (by decide) (cs_undo C hm h hv hn ⟨by omega, by omega⟩ nxt)
    | 21, _ => exact lv_tableIn (off := 892) (tgt := 932) C.1.1.1 C.1.1.2.1 (kL0 24 rfl) (by decide) (by decide) (by decide) (by decide) (cs_log C hm h hv hn ⟨by omega, by omega⟩ nxt)
    | 22, _ => exact lv_tableIn (off := 929) (tgt := 969) C.1.1.1 C.1.1.2.1 (kL0 24 rfl) (by decide) (by decide) (by decide) (by decide) (cs_step C hm h hv hn ⟨by omega, by omega⟩ nxt)
    | 23, _ => exact lv_tableIn (off := 978) (tgt := 1018) C.1.1.1 C.1.1.2.1 (kL0 24 rfl) (by decide) (by decide) (by decide) (by decide) (cs_run C hm h hv hn ⟨by omega, by omega⟩ nxt)
    | 24, _ => exact lv_tableIn (off := 1015) (tgt := 1055) C.1.1.1 C.1.1.2.1 (kL0 24 rfl) (by decide) (by decide) (by decide) (by decide) (cs_perform C hm h hv hn ⟨by omega, by omega⟩ nxt)
    | 25, _ => exact lv_tableIn (off := 1040) (tgt := 1080) C.1.1.1 C.1.1.2.1 (kL0 24 rfl) (by decide) (by decide) (by decide) (by decide) (cs_eye C hm h hv hn ⟨by omega, by omega⟩ nxt)
    | 26, _ => exact lv_tableIn (off := 1077) (tgt := 1117) C.1.1.1 C.1.1.2.1 (kL0 24 rfl) (by decide) (by decide) (by decide) (by decide) (cs_opening C hm h hv hn ⟨by omega, by omega⟩ nxt)
    | 27, _ => exact lv_tableIn (off := 1114) (tgt := 1154) C.1.1.1 C.1.1.2.1 (kL0 24 rfl) (by decide) (by decide) (by decide) (by decide) (cs_weigh C hm h hv hn ⟨by omega, by omega⟩ nxt)
    | 28, _ => exact lv_tableIn (off := 1163) (tgt := 1203) C.1.1.1 C.1.1.2.1 (kL0 24 rfl) (by decide) (by decide) (by decide) (by decide) (cs_map C hm h hv hn ⟨by omega, by omega⟩ nxt)
    | 29, _ => exact lv_tableIn (off := 1188) (tgt := 1228) C.1.1.1 C.1.1.2.1 (kL0 24 rfl) (by decide) (by decide) (by decide) (by decide) (cs_bears C hm h hv hn ⟨by omega, by omega⟩ nxt)
    | 30, _ => exact lv_tableIn (off := 1213) (tgt := 1253) C.1.1.1 C.1.1.2.1 (kL0 24 rfl) (by decide) (by decide) (by decide) (by decide) (cs_burst C hm h hv hn ⟨by omega, by omega⟩ nxt)
    | 31, _ => exact lv_tableIn (off := 1250) (tgt := 1290) C.1.1.1 C.1.1.2.1 (kL0 24 rfl) (by decide) (by decide) (by decide) (by decide) (cs_bursts C hm h hv hn ⟨by omega, by omega⟩ nxt)
    | 32, _ => exact lv_tableIn (off := 1263) (tgt := 1303) C.1.1.1 C.1.1.2.1 (kL0 24 rfl) (by decide) (by decide) (by decide) (by decide) (cs_unrolled C hm h hv hn ⟨by omega, by omega⟩ nxt)
    | 33, _ => exact lv_tableIn (off := 1288) (tgt := 1328) C.1.1.1 C.1.1.2.1 (kL0 24 rfl) (by decide) (by decide) (by decide) (by decide) (cs_improved C hm h hv hn ⟨by omega, by omega⟩ nxt)
    | 34, _ => exact lv_tableIn (off := 1325) (tgt := 1365) C.1.1.1 C.1.1.2.1 (kL0 24 rfl) (by decide) (by decide) (by decide) (by decide) (cs_settled C hm h hv hn ⟨by omega, by omega⟩ nxt)
    | 35, _ => exact lv_tableIn (off := 1350) (tgt := 1390) C.1.1.1 C.1.1.2.1 (kL0 24 rfl) (by decide) (by decide) (by decide) (by decide) (cs_quickest C hm h hv hn ⟨by omega, by omega⟩ nxt)
    | 36, _ => exact lv_tableIn (off := 1375) (tgt := 1415) C.1.1.1 C.1.1.2.1 (kL0 24 rfl) (by decide) (by decide) (by decide) (by decide) (cs_coming C hm h hv hn ⟨by omega, by omega⟩ nxt)
    | 37, _ => exact lv_tableIn (off := 1412) (tgt := 1452) C.1.1.1 C.1.1.2.1 (kL0 24 rfl) (by decide) (by decide) (by decide) (by decide) (cs_gain C hm h hv hn ⟨by omega, by omega⟩ nxt)
    | 38, _ => exact lv_tableIn (off := 1437) (tgt := 1477) C.1.1.1 C.1.1.2.1 (kL0 24 rfl) (by decide) (by decide) (by decide) (by decide) (cs_worst C hm h hv hn ⟨by omega, by omega⟩ nxt)
    | 39, _ => exact lv_tableIn (off := 1474) (tgt := 1514) C.1.1.1 C.1.1.2.1 (kL0 24 rfl) (by decide) (by decide) (by decide) (by decide) (cs_odds C hm h hv hn ⟨by omega, by omega⟩ nxt)
    | 40, _ => exact lv_tableIn (off := 1499) (tgt := 1539) C.1.1.1 C.1.1.2.1 (kL0 24 rfl) (by decide) (by decide) (by decide) (by decide) (cs_image C hm h hv hn ⟨by omega, by omega⟩ nxt)
    | 41, _ => exact lv_tableIn (off := 1512) (tgt := 1552) C.1.1.1 C.1.1.2.1 (kL0 24 rfl) (by decide) (by decide) (by decide) (by decide) (cs_back C hm h hv hn ⟨by omega, by omega⟩ nxt)
    | 42, _ => exact lv_tableIn (off := 1525) (tgt := 1565) C.1.1.1 C.1.1.2.1 (kL0 24 rfl) (by decide) (by decide) (by decide) (by decide) (cs_count C hm h hv hn ⟨by omega, by omega⟩ nxt)
    | w + 43, hw => exact absurd hw (by omega)
  · refine lv_tableOut (tgt := 1590) C.1.1.1 C.1.1.2.1 (kL0 24 rfl) (Or.inr ?_) (by decide) ?_
    · rw [nI_toInt (by omega)]
      omega
    · exact W.widen (Nat.le_succ k) (Nat.le_add_right n 6) (nxt m H locs ls hm h hv)
end
