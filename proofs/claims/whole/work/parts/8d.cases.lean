/-! the law: its cases -/
def aN (s : State) : Nat → Prop := fun q => s.heap.size ≤ q
def LwX (p : Program) (s : State) (mi : MethodId) (c : Code) (b L : Nat) (xs : Nat → Int32) (D : va_G) (ad : Nat → Nat → Nat) (ca : Nat → ClassId) : Prop :=
  Kx p mi c code 7 s #[.ref b] gdw "HuntedEyeLaw" D ad ca ∧ va_X b L xs s s.heap ∧ b < s.heap.size ∧ L ≤ 3072
def lvs (b : Nat) (ad : Nat → Nat → Nat) (j : Nat) : List (Nat × Value) := [(4, .int (nI (6 * j))), (0, .ref b), (1, .ref (ad 0 0)), (2, .ref (ad 40 0)), (3, .ref (ad 60 0))]
theorem hvN : ∀ v ∈ ([] : List hV), hVal v := fun _ h => by cases h
theorem hvI {x : Int32} {l : List hV} (h : ∀ v ∈ l, hVal v) : ∀ v ∈ ((.inl x : hV) :: l), hVal v := fun v hv => by
  rcases List.mem_cons.mp hv with rfl | hv
  · exact trivial
  · exact h v hv
theorem hvL {x : Int64} {l : List hV} (h : ∀ v ∈ l, hVal v) : ∀ v ∈ ((.inr (.inl x) : hV) :: l), hVal v := fun v hv => by
  rcases List.mem_cons.mp hv with rfl | hv
  · exact trivial
  · exact h v hv
theorem cLw92 : Cond.constantLong "HuntedEyeLaw" 92 4294967295 ∈ gdw := gdw_of (i := 2006) (by decide +kernel) (by decide +kernel)
section
variable {p : Program} {l : Launch} {e : Env} {s : State} {mi : MethodId} {below : List Frame} {meth : Method} {c : Code} {D : va_G} {ad : Nat → Nat → Nat} {ca : Nat → ClassId} {b L : Nat} {xs : Nat → Int32} {j k n : Nat} {ls : Array Slot} {Q : State → Prop} {m : hM} {H : Heap} {locs : List Loc}
theorem x_in {i : Nat} (h : i < L) (hL : L ≤ 3072) : vp_in (nI i) L := by
  unfold vp_in
  rw [nI_clamp (by omega)]
  exact fun z => z.elim (nI_pos (by omega)) (fun y => absurd h (Nat.not_lt.mpr y))
/-- script[i + n] -/
theorem x_ld {n2 pc : Nat} {st : List Value} (n : Nat) (C : LwX p s mi c b L xs D ad ca) (h : Hx D ad ca m (aN s) s H locs) (hv0 : ls[0]? = some (.val (.ref b))) (hv4 : ls[4]? = some (.val (.int (nI (6 * j))))) (hn : 6 * j + 6 ≤ L) (h5 : n ≤ 5)
    (d0 : decode code pc = .ok (.aload_n 0, 1)) (d1 : decode code (pc + 1) = .ok (.iload 4, 2)) (d2 : decode code (pc + 3) = .ok (.iconst n, 1)) (d3 : decode code (pc + 4) = .ok (.iadd, 1)) (d4 : decode code (pc + 5) = .ok (.iaload, 1))
    (kk : W p l e room_1 s mi #[.ref b] below meth c H locs k n2 Q (F0 mi (pc + 6) ls (.int (xs (6 * j + n)) :: st))) : W p l e room_1 s mi #[.ref b] below meth c H locs k n2 Q (F0 mi pc ls st) := by
  have hL := C.2.2.2
  refine lv_aload_n C.1.1.1 C.1.1.2.1 d0 rfl hv0 ?_
  refine lv_iload C.1.1.1 C.1.1.2.1 d1 hv4 ?_
  refine lv_iconst (v := nI n) C.1.1.1 C.1.1.2.1 d2 (Int32.ofInt_eq_ofNat) ?_
  refine lv_iadd C.1.1.1 C.1.1.2.1 d3 ?_
  rw [nI_add]
  refine va_sld C.1.1.1 C.1.1.2.1 C.2.1 C.2.2.1 (A := aN s) (fun z => absurd C.2.2.1 (Nat.not_lt.mpr z)) h.2.2.1 (x_in (show 6 * j + n < L by omega) hL) d4 ?_
  rw [nI_clamp (show 6 * j + n < 2 ^ 31 by omega)]
  exact kk
set_option maxRecDepth 20000 in
theorem cs_feed (C : LwX p s mi c b L xs D ad ca) (hm : Inv m) (h : Hx D ad ca m (aN s) s H locs) (hv : lv_has ls 7 (lvs b ad j)) (hn : 6 * j + 6 ≤ L) (hk : k ≤ 601024 ∧ n ≤ 7293034)
    (nxt : ∀ m2 H2 locs2 ls2, Inv m2 → Hx D ad ca m2 (aN s) s H2 locs2 → lv_has ls2 7 (lvs b ad j) → W p l e room_1 s mi #[.ref b] below meth c H2 locs2 (k + 1) (n + 6) Q (F0 mi 1590 ls2 [])) : W p l e room_1 s mi #[.ref b] below meth c H locs k n Q (F0 mi 228 ls []) := by
  have hv4 := lv_at hv 0 rfl
  have hv0 := lv_at hv 1 rfl
  have hv1 := lv_at hv 2 rfl
  have hv2 := lv_at hv 3 rfl
  obtain ⟨r, m1, m2, e1, e2, inv2⟩ := k_feed (xs (6 * j + 1)) (xs (6 * j + 2)) (xs (6 * j + 3)) (xs (6 * j + 4)) (xs (6 * j + 5)) m hm
  refine lv_aload_n C.1.1.1 C.1.1.2.1 (kL0 25 rfl) rfl hv1 ?_
  refine x_ld (n := 1) C h hv0 hv4 hn (by decide) (kL0 26 rfl) (kL0 27 rfl) (kL0 28 rfl) (kL0 29 rfl) (kL0 30 rfl) ?_
  refine x_ld (n := 2) C h hv0 hv4 hn (by decide) (kL0 31 rfl) (kL0 32 rfl) (kL0 33 rfl) (kL0 34 rfl) (kL0 35 rfl) ?_
  refine x_ld (n := 3) C h hv0 hv4 hn (by decide) (kL0 36 rfl) (kL0 37 rfl) (kL0 38 rfl) (kL0 39 rfl) (kL0 40 rfl) ?_
  refine x_ld (n := 4) C h hv0 hv4 hn (by decide) (kL0 41 rfl) (kL0 42 rfl) (kL0 43 rfl) (kL0 44 rfl) (kL0 45 rfl) ?_
  refine x_ld (n := 5) C h hv0 hv4 hn (by decide) (kL0 46 rfl) (kL0 47 rfl) (kL0 48 rfl) (kL0 49 rfl) (kL0 50 rfl) ?_
  refine x_callV (t := 0) (o := 0) (As := [.inl (xs (6 * j + 1)), .inl (xs (6 * j + 2)), .inl (xs (6 * j + 3)), .inl (xs (6 * j + 4)), .inl (xs (6 * j + 5))]) (S := []) C.1 h iX11_feed (gdw_of (i := 521) (by decide +kernel) (by decide +kernel)) ⟨9, TX11, 18, by decide, rfl, rfl⟩ (by decide) (hvI (hvI (hvI (hvI (hvI hvN))))) rfl rfl rfl ⟨Nat.le_of_ble_eq_true rfl, Nat.le_of_ble_eq_true rfl⟩ hk (Nat.zero_le _) hv.1 (CX11_feed (xs (6 * j + 1)) (xs (6 * j + 2)) (xs (6 * j + 3)) (xs (6 * j + 4)) (xs (6 * j + 5)) m) e1 (kL0 51 rfl) (fun H1 locs1 h1 _ => ?_)
  refine lv_aload_n C.1.1.1 C.1.1.2.1 (kL0 52 rfl) rfl hv2 ?_
  refine x_ld (n := 1) C h1 hv0 hv4 hn (by decide) (kL0 53 rfl) (kL0 54 rfl) (kL0 55 rfl) (kL0 56 rfl) (kL0 57 rfl) ?_
  refine x_ld (n := 2) C h1 hv0 hv4 hn (by decide) (kL0 58 rfl) (kL0 59 rfl) (kL0 60 rfl) (kL0 61 rfl) (kL0 62 rfl) ?_
  refine x_ld (n := 3) C h1 hv0 hv4 hn (by decide) (kL0 63 rfl) (kL0 64 rfl) (kL0 65 rfl) (kL0 66 rfl) (kL0 67 rfl) ?_
  refine x_ld (n := 4) C h1 hv0 hv4 hn (by decide) (kL0 68 rfl) (kL0 69 rfl) (kL0 70 rfl) (kL0 71 rfl) (kL0 72 rfl) ?_
  refine x_ld (n := 5) C h1 hv0 hv4 hn (by decide) (kL0 73 rfl) (kL0 74 rfl) (kL0 75 rfl) (kL0 76 rfl) (kL0 77 rfl) ?_
  refine x_callV (t := 40) (o := 0) (As := [.inl (xs (6 * j + 1)), .inl (xs (6 * j + 2)), .inl (xs (6 * j + 3)), .inl (xs (6 * j + 4)), .inl (xs (6 * j + 5))]) (S := [.inl r]) C.1 h1 iX12_feed (gdw_of (i := 1550) (by decide +kernel) (by decide +kernel)) ⟨10, TX12, 40, by decide, rfl, rfl⟩ (by decide) (hvI (hvI (hvI (hvI (hvI hvN))))) rfl rfl rfl ⟨Nat.le_of_ble_eq_true rfl, Nat.le_of_ble_eq_true rfl⟩ hk (Nat.le_of_ble_eq_true rfl) hv.1 (CX12_feed (xs (6 * j + 1)) (xs (6 * j + 2)) (xs (6 * j + 3)) (xs (6 * j + 4)) (xs (6 * j + 5)) m1) e2 (kL0 78 rfl) (fun H2 locs2 h2 _ => ?_)
  refine lv_icmp_eq (tgt := 1590) C.1.1.1 C.1.1.2.1 (kL0 79 rfl) (by decide) (fun _ => ?_) (fun z => absurd rfl z)
  exact W.widen (Nat.le_succ k) (Nat.le_add_right n 6) (nxt m2 H2 locs2 ls inv2 h2 hv)
set_option maxRecDepth 20000 in
theorem cs_end (C : LwX p s mi c b L xs D ad ca) (hm : Inv m) (h : Hx D ad ca m (aN s) s H locs) (hv : lv_has ls 7 (lvs b ad j)) (hn : 6 * j + 6 ≤ L) (hk : k ≤ 601024 ∧ n ≤ 7293034)
    (nxt : ∀ m2 H2 locs2 ls2, Inv m2 → Hx D ad ca m2 (aN s) s H2 locs2 → lv_has ls2 7 (lvs b ad j) → W p l e room_1 s mi #[.ref b] below meth c H2 locs2 (k + 1) (n + 6) Q (F0 mi 1590 ls2 [])) : W p l e room_1 s mi #[.ref b] below meth c H locs k n Q (F0 mi 301 ls []) := by
  have hv4 := lv_at hv 0 rfl
  have hv0 := lv_at hv 1 rfl
  have hv1 := lv_at hv 2 rfl
  have hv2 := lv_at hv 3 rfl
  obtain ⟨r, m1, m2, e1, e2, inv2⟩ := k_end (xs (6 * j + 1)) m hm
  refine lv_aload_n C.1.1.1 C.1.1.2.1 (kL0 82 rfl) rfl hv1 ?_
  refine x_ld (n := 1) C h hv0 hv4 hn (by decide) (kL0 83 rfl) (kL0 84 rfl) (kL0 85 rfl) (kL0 86 rfl) (kL0 87 rfl) ?_
  refine x_callV (t := 0) (o := 0) (As := [.inl (xs (6 * j + 1))]) (S := []) C.1 h iX11_end (gdw_of (i := 539) (by decide +kernel) (by decide +kernel)) ⟨9, TX11, 18, by decide, rfl, rfl⟩ (by decide) (hvI hvN) rfl rfl rfl ⟨Nat.le_of_ble_eq_true rfl, Nat.le_of_ble_eq_true rfl⟩ hk (Nat.zero_le _) hv.1 (CX11_end (xs (6 * j + 1)) m) e1 (kL0 88 rfl) (fun H1 locs1 h1 _ => ?_)
  refine lv_aload_n C.1.1.1 C.1.1.2.1 (kL0 89 rfl) rfl hv2 ?_
  refine x_ld (n := 1) C h1 hv0 hv4 hn (by decide) (kL0 90 rfl) (kL0 91 rfl) (kL0 92 rfl) (kL0 93 rfl) (kL0 94 rfl) ?_
  refine x_callV (t := 40) (o := 0) (As := [.inl (xs (6 * j + 1))]) (S := [.inl r]) C.1 h1 iX12_end (gdw_of (i := 1557) (by decide +kernel) (by decide +kernel)) ⟨10, TX12, 40, by decide, rfl, rfl⟩ (by decide) (hvI hvN) rfl rfl rfl ⟨Nat.le_of_ble_eq_true rfl, Nat.le_of_ble_eq_true rfl⟩ hk (Nat.le_of_ble_eq_true rfl) hv.1 (CX12_end (xs (6 * j + 1)) m1) e2 (kL0 95 rfl) (fun H2 locs2 h2 _ => ?_)
  refine lv_icmp_eq (tgt := 1590) C.1.1.1 C.1.1.2.1 (kL0 96 rfl) (by decide) (fun _ => ?_) (fun z => absurd rfl z)
  exact W.widen (Nat.le_succ k) (Nat.le_add_right n 6) (nxt m2 H2 locs2 ls inv2 h2 hv)
set_option maxRecDepth 20000 in
theorem cs_fault (C : LwX p s mi c b L xs D ad ca) (hm : Inv m) (h : Hx D ad ca m (aN s) s H locs) (hv : lv_has ls 7 (lvs b ad j)) (hn : 6 * j + 6 ≤ L) (hk : k ≤ 601024 ∧ n ≤ 7293034)
    (nxt : ∀ m2 H2 locs2 ls2, Inv m2 → Hx D ad ca m2 (aN s) s H2 locs2 → lv_has ls2 7 (lvs b ad j) → W p l e room_1 s mi #[.ref b] below meth c H2 locs2 (k + 1) (n + 6) Q (F0 mi 1590 ls2 [])) : W p l e room_1 s mi #[.ref b] below meth c H locs k n Q (F0 mi 326 ls []) := by
  have hv4 := lv_at hv 0 rfl
  have hv0 := lv_at hv 1 rfl
  have hv1 := lv_at hv 2 rfl
  have hv2 := lv_at hv 3 rfl
  obtain ⟨r, m1, m2, e1, e2, inv2⟩ := k_fault (xs (6 * j + 1)) m hm
  refine lv_aload_n C.1.1.1 C.1.1.2.1 (kL0 99 rfl) rfl hv1 ?_
  refine x_ld (n := 1) C h hv0 hv4 hn (by decide) (kL1 0 rfl) (kL1 1 rfl) (kL1 2 rfl) (kL1 3 rfl) (kL1 4 rfl) ?_
  refine x_callV (t := 0) (o := 0) (As := [.inl (xs (6 * j + 1))]) (S := []) C.1 h iX11_fault (gdw_of (i := 547) (by decide +kernel) (by decide +kernel)) ⟨9, TX11, 18, by decide, rfl, rfl⟩ (by decide) (hvI hvN) rfl rfl rfl ⟨Nat.le_of_ble_eq_true rfl, Nat.le_of_ble_eq_true rfl⟩ hk (Nat.zero_le _) hv.1 (CX11_fault (xs (6 * j + 1)) m) e1 (kL1 5 rfl) (fun H1 locs1 h1 _ => ?_)
  refine lv_aload_n C.1.1.1 C.1.1.2.1 (kL1 6 rfl) rfl hv2 ?_
  refine x_ld (n := 1) C h1 hv0 hv4 hn (by decide) (kL1 7 rfl) (kL1 8 rfl) (kL1 9 rfl) (kL1 10 rfl) (kL1 11 rfl) ?_
  refine x_callV (t := 40) (o := 0) (As := [.inl (xs (6 * j + 1))]) (S := [.inl r]) C.1 h1 iX12_fault (gdw_of (i := 1564) (by decide +kernel) (by decide +kernel)) ⟨10, TX12, 40, by decide, rfl, rfl⟩ (by decide) (hvI hvN) rfl rfl rfl ⟨Nat.le_of_ble_eq_true rfl, Nat.le_of_ble_eq_true rfl⟩ hk (Nat.le_of_ble_eq_true rfl) hv.1 (CX12_fault (xs (6 * j + 1)) m1) e2 (kL1 12 rfl) (fun H2 locs2 h2 _ => ?_)
  refine lv_icmp_eq (tgt := 1590) C.1.1.1 C.1.1.2.1 (kL1 13 rfl) (by decide) (fun _ => ?_) (fun z => absurd rfl z)
  exact W.widen (Nat.le_succ k) (Nat.le_add_right n 6) (nxt m2 H2 locs2 ls inv2 h2 hv)
set_option maxRecDepth 20000 in
theorem cs_text (C : LwX p s mi c b L xs D ad ca) (hm : Inv m) (h : Hx D ad ca m (aN s) s H locs) (hv : lv_has ls 7 (lvs b ad j)) (hn : 6 * j + 6 ≤ L) (hk : k ≤ 601024 ∧ n ≤ 7293034)
    (nxt : ∀ m2 H2 locs2 ls2, Inv m2 → Hx D ad ca m2 (aN s) s H2 locs2 → lv_has ls2 7 (lvs b ad j) → W p l e room_1 s mi #[.ref b] below meth c H2 locs2 (k + 1) (n + 6) Q (F0 mi 1590 ls2 [])) : W p l e room_1 s mi #[.ref b] below meth c H locs k n Q (F0 mi 351 ls []) := by
  have hv4 := lv_at hv 0 rfl
  have hv0 := lv_at hv 1 rfl
  have hv1 := lv_at hv 2 rfl
  have hv2 := lv_at hv 3 rfl
  obtain ⟨r, m1, m2, e1, e2, inv2⟩ := k_text (xs (6 * j + 1)) m hm
  refine lv_aload_n C.1.1.1 C.1.1.2.1 (kL1 16 rfl) rfl hv1 ?_
  refine x_ld (n := 1) C h hv0 hv4 hn (by decide) (kL1 17 rfl) (kL1 18 rfl) (kL1 19 rfl) (kL1 20 rfl) (kL1 21 rfl) ?_
  refine x_callV (t := 0) (o := 0) (As := [.inl (xs (6 * j + 1))]) (S := []) C.1 h iX11_text (gdw_of (i := 702) (by decide +kernel) (by decide +kernel)) ⟨9, TX11, 18, by decide, rfl, rfl⟩ (by decide) (hvI hvN) rfl rfl rfl ⟨Nat.le_of_ble_eq_true rfl, Nat.le_of_ble_eq_true rfl⟩ hk (Nat.zero_le _) hv.1 (CX11_text (xs (6 * j + 1)) m) e1 (kL1 22 rfl) (fun H1 locs1 h1 _ => ?_)
  refine lv_aload_n C.1.1.1 C.1.1.2.1 (kL1 23 rfl) rfl hv2 ?_
  refine x_ld (n := 1) C h1 hv0 hv4 hn (by decide) (kL1 24 rfl) (kL1 25 rfl) (kL1 26 rfl) (kL1 27 rfl) (kL1 28 rfl) ?_
  refine x_callV (t := 40) (o := 0) (As := [.inl (xs (6 * j + 1))]) (S := [.inl r]) C.1 h1 iX12_text (gdw_of (i := 1653) (by decide +kernel) (by decide +kernel)) ⟨10, TX12, 40, by decide, rfl, rfl⟩ (by decide) (hvI hvN) rfl rfl rfl ⟨Nat.le_of_ble_eq_true rfl, Nat.le_of_ble_eq_true rfl⟩ hk (Nat.le_of_ble_eq_true rfl) hv.1 (CX12_text (xs (6 * j + 1)) m1) e2 (kL1 29 rfl) (fun H2 locs2 h2 _ => ?_)
  refine lv_icmp_eq (tgt := 1590) C.1.1.1 C.1.1.2.1 (kL1 30 rfl) (by decide) (fun _ => ?_) (fun z => absurd rfl z)
  exact W.widen (Nat.le_succ k) (Nat.le_add_right n 6) (nxt m2 H2 locs2 ls inv2 h2 hv)
set_option maxRecDepth 20000 in
theorem cs_rule (C : LwX p s mi c b L xs D ad ca) (hm : Inv m) (h : Hx D ad ca m (aN s) s H locs) (hv : lv_has ls 7 (lvs b ad j)) (hn : 6 * j + 6 ≤ L) (hk : k ≤ 601024 ∧ n ≤ 7293034)
    (nxt : ∀ m2 H2 locs2 ls2, Inv m2 → Hx D ad ca m2 (aN s) s H2 locs2 → lv_has ls2 7 (lvs b ad j) → W p l e room_1 s mi #[.ref b] below meth c H2 locs2 (k + 1) (n + 6) Q (F0 mi 1590 ls2 [])) : W p l e room_1 s mi #[.ref b] below meth c H locs k n Q (F0 mi 376 ls []) := by
  have hv4 := lv_at hv 0 rfl
  have hv0 := lv_at hv 1 rfl
  have hv1 := lv_at hv 2 rfl
  have hv2 := lv_at hv 3 rfl
  obtain ⟨r, m1, m2, e1, e2, inv2⟩ := k_rule (xs (6 * j + 1)) m hm
  refine lv_aload_n C.1.1.1 C.1.1.2.1 (kL1 33 rfl) rfl hv1 ?_
  refine x_ld (n := 1) C h hv0 hv4 hn (by decide) (kL1 34 rfl) (kL1 35 rfl) (kL1 36 rfl) (kL1 37 rfl) (kL1 38 rfl) ?_
  refine x_callV (t := 0) (o := 0) (As := [.inl (xs (6 * j + 1))]) (S := []) C.1 h iX11_rule (gdw_of (i := 746) (by decide +kernel) (by decide +kernel)) ⟨9, TX11, 18, by decide, rfl, rfl⟩ (by decide) (hvI hvN) rfl rfl rfl ⟨Nat.le_of_ble_eq_true rfl, Nat.le_of_ble_eq_true rfl⟩ hk (Nat.zero_le _) hv.1 (CX11_rule (xs (6 * j + 1)) m) e1 (kL1 39 rfl) (fun H1 locs1 h1 _ => ?_)
  refine lv_aload_n C.1.1.1 C.1.1.2.1 (kL1 40 rfl) rfl hv2 ?_
  refine x_ld (n := 1) C h1 hv0 hv4 hn (by decide) (kL1 41 rfl) (kL1 42 rfl) (kL1 43 rfl) (kL1 44 rfl) (kL1 45 rfl) ?_
  refine x_callV (t := 40) (o := 0) (As := [.inl (xs (6 * j + 1))]) (S := [.inl r]) C.1 h1 iX12_rule (gdw_of (i := 1833) (by decide +kernel) (by decide +kernel)) ⟨10, TX12, 40, by decide, rfl, rfl⟩ (by decide) (hvI hvN) rfl rfl rfl ⟨Nat.le_of_ble_eq_true rfl, Nat.le_of_ble_eq_true rfl⟩ hk (Nat.le_of_ble_eq_true rfl) hv.1 (CX12_rule (xs (6 * j + 1)) m1) e2 (kL1 46 rfl) (fun H2 locs2 h2 _ => ?_)
  refine lv_icmp_eq (tgt := 1590) C.1.1.1 C.1.1.2.1 (kL1 47 rfl) (by decide) (fun _ => ?_) (fun z => absurd rfl z)
  exact W.widen (Nat.le_succ k) (Nat.le_add_right n 6) (nxt m2 H2 locs2 ls inv2 h2 hv)
set_option maxRecDepth 20000 in
theorem cs_told (C : LwX p s mi c b L xs D ad ca) (hm : Inv m) (h : Hx D ad ca m (aN s) s H locs) (hv : lv_has ls 7 (lvs b ad j)) (hn : 6 * j + 6 ≤ L) (hk : k ≤ 601024 ∧ n ≤ 7293034)
    (nxt : ∀ m2 H2 locs2 ls2, Inv m2 → Hx D ad ca m2 (aN s) s H2 locs2 → lv_has ls2 7 (lvs b ad j) → W p l e room_1 s mi #[.ref b] below meth c H2 locs2 (k + 1) (n + 6) Q (F0 mi 1590 ls2 [])) : W p l e room_1 s mi #[.ref b] below meth c H locs k n Q (F0 mi 401 ls []) := by
  have hv4 := lv_at hv 0 rfl
  have hv0 := lv_at hv 1 rfl
  have hv1 := lv_at hv 2 rfl
  have hv2 := lv_at hv 3 rfl
  obtain ⟨r, m1, m2, e1, e2, inv2⟩ := k_told (xs (6 * j + 1)) (xs (6 * j + 2)) m hm
  refine lv_aload_n C.1.1.1 C.1.1.2.1 (kL1 50 rfl) rfl hv1 ?_
  refine x_ld (n := 1) C h hv0 hv4 hn (by decide) (kL1 51 rfl) (kL1 52 rfl) (kL1 53 rfl) (kL1 54 rfl) (kL1 55 rfl) ?_
  refine x_ld (n := 2) C h hv0 hv4 hn (by decide) (kL1 56 rfl) (kL1 57 rfl) (kL1 58 rfl) (kL1 59 rfl) (kL1 60 rfl) ?_
  refine x_callV (t := 0) (o := 0) (As := [.inl (xs (6 * j + 1)), .inl (xs (6 * j + 2))]) (S := []) C.1 h iX11_told (gdw_of (i := 751) (by decide +kernel) (by decide +kernel)) ⟨9, TX11, 18, by decide, rfl, rfl⟩ (by decide) (hvI (hvI hvN)) rfl rfl rfl ⟨Nat.le_of_ble_eq_true rfl, Nat.le_of_ble_eq_true rfl⟩ hk (Nat.zero_le _) hv.1 (CX11_told (xs (6 * j + 1)) (xs (6 * j + 2)) m) e1 (kL1 61 rfl) (fun H1 locs1 h1 _ => ?_)
  refine lv_aload_n C.1.1.1 C.1.1.2.1 (kL1 62 rfl) rfl hv2 ?_
  refine x_ld (n := 1) C h1 hv0 hv4 hn (by decide) (kL1 63 rfl) (kL1 64 rfl) (kL1 65 rfl) (kL1 66 rfl) (kL1 67 rfl) ?_
  refine x_ld (n := 2) C h1 hv0 hv4 hn (by decide) (kL1 68 rfl) (kL1 69 rfl) (kL1 70 rfl) (kL1 71 rfl) (kL1 72 rfl) ?_
  refine x_callV (t := 40) (o := 0) (As := [.inl (xs (6 * j + 1)), .inl (xs (6 * j + 2))]) (S := [.inl r]) C.1 h1 iX12_told (gdw_of (i := 1837) (by decide +kernel) (by decide +kernel)) ⟨10, TX12, 40, by decide, rfl, rfl⟩ (by decide) (hvI (hvI hvN)) rfl rfl rfl ⟨Nat.le_of_ble_eq_true rfl, Nat.le_of_ble_eq_true rfl⟩ hk (Nat.le_of_ble_eq_true rfl) hv.1 (CX12_told (xs (6 * j + 1)) (xs (6 * j + 2)) m1) e2 (kL1 73 rfl) (fun H2 locs2 h2 _ => ?_)
  refine lv_icmp_eq (tgt := 1590) C.1.1.1 C.1.1.2.1 (kL1 74 rfl) (by decide) (fun _ => ?_) (fun z => absurd rfl z)
  exact W.widen (Nat.le_succ k) (Nat.le_add_right n 6) (nxt m2 H2 locs2 ls inv2 h2 hv)
set_option maxRecDepth 20000 in
theorem cs_now (C : LwX p s mi c b L xs D ad ca) (hm : Inv m) (h : Hx D ad ca m (aN s) s H locs) (hv : lv_has ls 7 (lvs b ad j)) (hn : 6 * j + 6 ≤ L) (hk : k ≤ 601024 ∧ n ≤ 7293034)
    (nxt : ∀ m2 H2 locs2 ls2, Inv m2 → Hx D ad ca m2 (aN s) s H2 locs2 → lv_has ls2 7 (lvs b ad j) → W p l e room_1 s mi #[.ref b] below meth c H2 locs2 (k + 1) (n + 6) Q (F0 mi 1590 ls2 [])) : W p l e room_1 s mi #[.ref b] below meth c H locs k n Q (F0 mi 506 ls []) := by
  have hv4 := lv_at hv 0 rfl
  have hv0 := lv_at hv 1 rfl
  have hv1 := lv_at hv 2 rfl
  have hv2 := lv_at hv 3 rfl
  obtain ⟨r, m1, m2, e1, e2, inv2⟩ := k_now (xs (6 * j + 1)) m hm
  refine lv_aload_n C.1.1.1 C.1.1.2.1 (kL2 22 rfl) rfl hv1 ?_
  refine x_ld (n := 1) C h hv0 hv4 hn (by decide) (kL2 23 rfl) (kL2 24 rfl) (kL2 25 rfl) (kL2 26 rfl) (kL2 27 rfl) ?_
  refine x_callV (t := 0) (o := 0) (As := [.inl (xs (6 * j + 1))]) (S := []) C.1 h iX11_now (gdw_of (i := 769) (by decide +kernel) (by decide +kernel)) ⟨9, TX11, 18, by decide, rfl, rfl⟩ (by decide) (hvI hvN) rfl rfl rfl ⟨Nat.le_of_ble_eq_true rfl, Nat.le_of_ble_eq_true rfl⟩ hk (Nat.zero_le _) hv.1 (CX11_now (xs (6 * j + 1)) m) e1 (kL2 28 rfl) (fun H1 locs1 h1 _ => ?_)
  refine lv_aload_n C.1.1.1 C.1.1.2.1 (kL2 29 rfl) rfl hv2 ?_
  refine x_ld (n := 1) C h1 hv0 hv4 hn (by decide) (kL2 30 rfl) (kL2 31 rfl) (kL2 32 rfl) (kL2 33 rfl) (kL2 34 rfl) ?_
  refine x_callV (t := 40) (o := 0) (As := [.inl (xs (6 * j + 1))]) (S := [.inl r]) C.1 h1 iX12_now (gdw_of (i := 1845) (by decide +kernel) (by decide +kernel)) ⟨10, TX12, 40, by decide, rfl, rfl⟩ (by decide) (hvI hvN) rfl rfl rfl ⟨Nat.le_of_ble_eq_true rfl, Nat.le_of_ble_eq_true rfl⟩ hk (Nat.le_of_ble_eq_true rfl) hv.1 (CX12_now (xs (6 * j + 1)) m1) e2 (kL2 35 rfl) (fun H2 locs2 h2 _ => ?_)
  refine lv_icmp_eq (tgt := 1590) C.1.1.1 C.1.1.2.1 (kL2 36 rfl) (by decide) (fun _ => ?_) (fun z => absurd rfl z)
  exact W.widen (Nat.le_succ k) (Nat.le_add_right n 6) (nxt m2 H2 locs2 ls inv2 h2 hv)
set_option maxRecDepth 20000 in
theorem cs_ago (C : LwX p s mi c b L xs D ad ca) (hm : Inv m) (h : Hx D ad ca m (aN s) s H locs) (hv : lv_has ls 7 (lvs b ad j)) (hn : 6 * j + 6 ≤ L) (hk : k ≤ 601024 ∧ n ≤ 7293034)
    (nxt : ∀ m2 H2 locs2 ls2, Inv m2 → Hx D ad ca m2 (aN s) s H2 locs2 → lv_has ls2 7 (lvs b ad j) → W p l e room_1 s mi #[.ref b] below meth c H2 locs2 (k + 1) (n + 6) Q (F0 mi 1590 ls2 [])) : W p l e room_1 s mi #[.ref b] below meth c H locs k n Q (F0 mi 531 ls []) := by
  have hv4 := lv_at hv 0 rfl
  have hv0 := lv_at hv 1 rfl
  have hv1 := lv_at hv 2 rfl
  have hv2 := lv_at hv 3 rfl
  obtain ⟨r, m1, m2, e1, e2, inv2⟩ := k_ago (xs (6 * j + 1)) (xs (6 * j + 2)) m hm
  refine lv_aload_n C.1.1.1 C.1.1.2.1 (kL2 39 rfl) rfl hv1 ?_
  refine x_ld (n := 1) C h hv0 hv4 hn (by decide) (kL2 40 rfl) (kL2 41 rfl) (kL2 42 rfl) (kL2 43 rfl) (kL2 44 rfl) ?_
  refine x_ld (n := 2) C h hv0 hv4 hn (by decide) (kL2 45 rfl) (kL2 46 rfl) (kL2 47 rfl) (kL2 48 rfl) (kL2 49 rfl) ?_
  refine x_callV (t := 0) (o := 0) (As := [.inl (xs (6 * j + 1)), .inl (xs (6 * j + 2))]) (S := []) C.1 h iX11_ago (gdw_of (i := 778) (by decide +kernel) (by decide +kernel)) ⟨9, TX11, 18, by decide, rfl, rfl⟩ (by decide) (hvI (hvI hvN)) rfl rfl rfl ⟨Nat.le_of_ble_eq_true rfl, Nat.le_of_ble_eq_true rfl⟩ hk (Nat.zero_le _) hv.1 (CX11_ago (xs (6 * j + 1)) (xs (6 * j + 2)) m) e1 (kL2 50 rfl) (fun H1 locs1 h1 _ => ?_)
  refine lv_aload_n C.1.1.1 C.1.1.2.1 (kL2 51 rfl) rfl hv2 ?_
  refine x_ld (n := 1) C h1 hv0 hv4 hn (by decide) (kL2 52 rfl) (kL2 53 rfl) (kL2 54 rfl) (kL2 55 rfl) (kL2 56 rfl) ?_
  refine x_ld (n := 2) C h1 hv0 hv4 hn (by decide) (kL2 57 rfl) (kL2 58 rfl) (kL2 59 rfl) (kL2 60 rfl) (kL2 61 rfl) ?_
  refine x_callV (t := 40) (o := 0) (As := [.inl (xs (6 * j + 1)), .inl (xs (6 * j + 2))]) (S := [.inl r]) C.1 h1 iX12_ago (gdw_of (i := 1849) (by decide +kernel) (by decide +kernel)) ⟨10, TX12, 40, by decide, rfl, rfl⟩ (by decide) (hvI (hvI hvN)) rfl rfl rfl ⟨Nat.le_of_ble_eq_true rfl, Nat.le_of_ble_eq_true rfl⟩ hk (Nat.le_of_ble_eq_true rfl) hv.1 (CX12_ago (xs (6 * j + 1)) (xs (6 * j + 2)) m1) e2 (kL2 62 rfl) (fun H2 locs2 h2 _ => ?_)
  refine lv_icmp_eq (tgt := 1590) C.1.1.1 C.1.1.2.1 (kL2 63 rfl) (by decide) (fun _ => ?_) (fun z => absurd rfl z)
  exact W.widen (Nat.le_succ k) (Nat.le_add_right n 6) (nxt m2 H2 locs2 ls inv2 h2 hv)
set_option maxRecDepth 20000 in
theorem cs_risk (C : LwX p s mi c b L xs D ad ca) (hm : Inv m) (h : Hx D ad ca m (aN s) s H locs) (hv : lv_has ls 7 (lvs b ad j)) (hn : 6 * j + 6 ≤ L) (hk : k ≤ 601024 ∧ n ≤ 7293034)
    (nxt : ∀ m2 H2 locs2 ls2, Inv m2 → Hx D ad ca m2 (aN s) s H2 locs2 → lv_has ls2 7 (lvs b ad j) → W p l e room_1 s mi #[.ref b] below meth c H2 locs2 (k + 1) (n + 6) Q (F0 mi 1590 ls2 [])) : W p l e room_1 s mi #[.ref b] below meth c H locs k n Q (F0 mi 568 ls []) := by
  have hv4 := lv_at hv 0 rfl
  have hv0 := lv_at hv 1 rfl
  have hv1 := lv_at hv 2 rfl
  have hv2 := lv_at hv 3 rfl
  obtain ⟨r, m1, m2, e1, e2, inv2⟩ := k_risk (xs (6 * j + 1)) m hm
  refine lv_aload_n C.1.1.1 C.1.1.2.1 (kL2 66 rfl) rfl hv1 ?_
  refine x_ld (n := 1) C h hv0 hv4 hn (by decide) (kL2 67 rfl) (kL2 68 rfl) (kL2 69 rfl) (kL2 70 rfl) (kL2 71 rfl) ?_
  refine x_callV (t := 0) (o := 0) (As := [.inl (xs (6 * j + 1))]) (S := []) C.1 h iX11_risk (gdw_of (i := 820) (by decide +kernel) (by decide +kernel)) ⟨9, TX11, 18, by decide, rfl, rfl⟩ (by decide) (hvI hvN) rfl rfl rfl ⟨Nat.le_of_ble_eq_true rfl, Nat.le_of_ble_eq_true rfl⟩ hk (Nat.zero_le _) hv.1 (CX11_risk (xs (6 * j + 1)) m) e1 (kL2 72 rfl) (fun H1 locs1 h1 _ => ?_)
  refine lv_aload_n C.1.1.1 C.1.1.2.1 (kL2 73 rfl) rfl hv2 ?_
  refine x_ld (n := 1) C h1 hv0 hv4 hn (by decide) (kL2 74 rfl) (kL2 75 rfl) (kL2 76 rfl) (kL2 77 rfl) (kL2 78 rfl) ?_
  refine x_callV (t := 40) (o := 0) (As := [.inl (xs (6 * j + 1))]) (S := [.inl r]) C.1 h1 iX12_risk (gdw_of (i := 1805) (by decide +kernel) (by decide +kernel)) ⟨10, TX12, 40, by decide, rfl, rfl⟩ (by decide) (hvI hvN) rfl rfl rfl ⟨Nat.le_of_ble_eq_true rfl, Nat.le_of_ble_eq_true rfl⟩ hk (Nat.le_of_ble_eq_true rfl) hv.1 (CX12_risk (xs (6 * j + 1)) m1) e2 (kL2 79 rfl) (fun H2 locs2 h2 _ => ?_)
  refine lv_icmp_eq (tgt := 1590) C.1.1.1 C.1.1.2.1 (kL2 80 rfl) (by decide) (fun _ => ?_) (fun z => absurd rfl z)
  exact W.widen (Nat.le_succ k) (Nat.le_add_right n 6) (nxt m2 H2 locs2 ls inv2 h2 hv)
set_option maxRecDepth 20000 in
theorem cs_send (C : LwX p s mi c b L xs D ad ca) (hm : Inv m) (h : Hx D ad ca m (aN s) s H locs) (hv : lv_has ls 7 (lvs b ad j)) (hn : 6 * j + 6 ≤ L) (hk : k ≤ 601024 ∧ n ≤ 7293034)
    (nxt : ∀ m2 H2 locs2 ls2, Inv m2 → Hx D ad ca m2 (aN s) s H2 locs2 → lv_has ls2 7 (lvs b ad j) → W p l e room_1 s mi #[.ref b] below meth c H2 locs2 (k + 1) (n + 6) Q (F0 mi 1590 ls2 [])) : W p l e room_1 s mi #[.ref b] below meth c H locs k n Q (F0 mi 593 ls []) := by
  have hv4 := lv_at hv 0 rfl
  have hv0 := lv_at hv 1 rfl
  have hv1 := lv_at hv 2 rfl
  have hv2 := lv_at hv 3 rfl
  obtain ⟨r, m1, m2, e1, e2, inv2⟩ := k_send (xs (6 * j + 1)) m hm
  refine lv_aload_n C.1.1.1 C.1.1.2.1 (kL2 83 rfl) rfl hv1 ?_
  refine x_ld (n := 1) C h hv0 hv4 hn (by decide) (kL2 84 rfl) (kL2 85 rfl) (kL2 86 rfl) (kL2 87 rfl) (kL2 88 rfl) ?_
  refine x_callV (t := 0) (o := 0) (As := [.inl (xs (6 * j + 1))]) (S := []) C.1 h iX11_send (gdw_of (i := 824) (by decide +kernel) (by decide +kernel)) ⟨9, TX11, 18, by decide, rfl, rfl⟩ (by decide) (hvI hvN) rfl rfl rfl ⟨Nat.le_of_ble_eq_true rfl, Nat.le_of_ble_eq_true rfl⟩ hk (Nat.zero_le _) hv.1 (CX11_send (xs (6 * j + 1)) m) e1 (kL2 89 rfl) (fun H1 locs1 h1 _ => ?_)
  refine lv_aload_n C.1.1.1 C.1.1.2.1 (kL2 90 rfl) rfl hv2 ?_
  refine x_ld (n := 1) C h1 hv0 hv4 hn (by decide) (kL2 91 rfl) (kL2 92 rfl) (kL2 93 rfl) (kL2 94 rfl) (kL2 95 rfl) ?_
  refine x_callV (t := 40) (o := 0) (As := [.inl (xs (6 * j + 1))]) (S := [.inl r]) C.1 h1 iX12_send (gdw_of (i := 1665) (by decide +kernel) (by decide +kernel)) ⟨10, TX12, 40, by decide, rfl, rfl⟩ (by decide) (hvI hvN) rfl rfl rfl ⟨Nat.le_of_ble_eq_true rfl, Nat.le_of_ble_eq_true rfl⟩ hk (Nat.le_of_ble_eq_true rfl) hv.1 (CX12_send (xs (6 * j + 1)) m1) e2 (kL2 96 rfl) (fun H2 locs2 h2 _ => ?_)
  refine lv_icmp_eq (tgt := 1590) C.1.1.1 C.1.1.2.1 (kL2 97 rfl) (by decide) (fun _ => ?_) (fun z => absurd rfl z)
  exact W.widen (Nat.le_succ k) (Nat.le_add_right n 6) (nxt m2 H2 locs2 ls inv2 h2 hv)
set_option maxRecDepth 20000 in
theorem cs_phase (C : LwX p s mi c b L xs D ad ca) (hm : Inv m) (h : Hx D ad ca m (aN s) s H locs) (hv : lv_has ls 7 (lvs b ad j)) (hn : 6 * j + 6 ≤ L) (hk : k ≤ 601024 ∧ n ≤ 7293034)
    (nxt : ∀ m2 H2 locs2 ls2, Inv m2 → Hx D ad ca m2 (aN s) s H2 locs2 → lv_has ls2 7 (lvs b ad j) → W p l e room_1 s mi #[.ref b] below meth c H2 locs2 (k + 1) (n + 6) Q (F0 mi 1590 ls2 [])) : W p l e room_1 s mi #[.ref b] below meth c H locs k n Q (F0 mi 618 ls []) := by
  have hv4 := lv_at hv 0 rfl
  have hv0 := lv_at hv 1 rfl
  have hv1 := lv_at hv 2 rfl
  have hv2 := lv_at hv 3 rfl
  obtain ⟨r, m1, m2, e1, e2, inv2⟩ := k_phase (xs (6 * j + 1)) m hm
  refine lv_aload_n C.1.1.1 C.1.1.2.1 (kL3 0 rfl) rfl hv1 ?_
  refine x_ld (n := 1) C h hv0 hv4 hn (by decide) (kL3 1 rfl) (kL3 2 rfl) (kL3 3 rfl) (kL3 4 rfl) (kL3 5 rfl) ?_
  refine x_callV (t := 0) (o := 0) (As := [.inl (xs (6 * j + 1))]) (S := []) C.1 h iX11_phase (gdw_of (i := 1057) (by decide +kernel) (by decide +kernel)) ⟨9, TX11, 18, by decide, rfl, rfl⟩ (by decide) (hvI hvN) rfl rfl rfl ⟨Nat.le_of_ble_eq_true rfl, Nat.le_of_ble_eq_true rfl⟩ hk (Nat.zero_le _) hv.1 (CX11_phase (xs (6 * j + 1)) m) e1 (kL3 6 rfl) (fun H1 locs1 h1 _ => ?_)
  refine lv_aload_n C.1.1.1 C.1.1.2.1 (kL3 7 rfl) rfl hv2 ?_
  refine x_ld (n := 1) C h1 hv0 hv4 hn (by decide) (kL3 8 rfl) (kL3 9 rfl) (kL3 10 rfl) (kL3 11 rfl) (kL3 12 rfl) ?_
  refine x_callV (t := 40) (o := 0) (As := [.inl (xs (6 * j + 1))]) (S := [.inl r]) C.1 h1 iX12_phase (gdw_of (i := 1747) (by decide +kernel) (by decide +kernel)) ⟨10, TX12, 40, by decide, rfl, rfl⟩ (by decide) (hvI hvN) rfl rfl rfl ⟨Nat.le_of_ble_eq_true rfl, Nat.le_of_ble_eq_true rfl⟩ hk (Nat.le_of_ble_eq_true rfl) hv.1 (CX12_phase (xs (6 * j + 1)) m1) e2 (kL3 13 rfl) (fun H2 locs2 h2 _ => ?_)
  refine lv_icmp_eq (tgt := 1590) C.1.1.1 C.1.1.2.1 (kL3 14 rfl) (by decide) (fun _ => ?_) (fun z => absurd rfl z)
  exact W.widen (Nat.le_succ k) (Nat.le_add_right n 6) (nxt m2 H2 locs2 ls inv2 h2 hv)
set_option maxRecDepth 20000 in
theorem cs_hold (C : LwX p s mi c b L xs D ad ca) (hm : Inv m) (h : Hx D ad ca m (aN s) s H locs) (hv : lv_has ls 7 (lvs b ad j)) (hn : 6 * j + 6 ≤ L) (hk : k ≤ 601024 ∧ n ≤ 7293034)
    (nxt : ∀ m2 H2 locs2 ls2, Inv m2 → Hx D ad ca m2 (aN s) s H2 locs2 → lv_has ls2 7 (lvs b ad j) → W p l e room_1 s mi #[.ref b] below meth c H2 locs2 (k + 1) (n + 6) Q (F0 mi 1590 ls2 [])) : W p l e room_1 s mi #[.ref b] below meth c H locs k n Q (F0 mi 643 ls []) := by
  have hv4 := lv_at hv 0 rfl
  have hv0 := lv_at hv 1 rfl
  have hv1 := lv_at hv 2 rfl
  have hv2 := lv_at hv 3 rfl
  obtain ⟨r, m1, m2, e1, e2, inv2⟩ := k_hold (xs (6 * j + 1)) m hm
  refine lv_aload_n C.1.1.1 C.1.1.2.1 (kL3 17 rfl) rfl hv1 ?_
  refine x_ld (n := 1) C h hv0 hv4 hn (by decide) (kL3 18 rfl) (kL3 19 rfl) (kL3 20 rfl) (kL3 21 rfl) (kL3 22 rfl) ?_
  refine x_callV (t := 0) (o := 0) (As := [.inl (xs (6 * j + 1))]) (S := []) C.1 h iX11_hold (gdw_of (i := 1061) (by decide +kernel) (by decide +kernel)) ⟨9, TX11, 18, by decide, rfl, rfl⟩ (by decide) (hvI hvN) rfl rfl rfl ⟨Nat.le_of_ble_eq_true rfl, Nat.le_of_ble_eq_true rfl⟩ hk (Nat.zero_le _) hv.1 (CX11_hold (xs (6 * j + 1)) m) e1 (kL3 23 rfl) (fun H1 locs1 h1 _ => ?_)
  refine lv_aload_n C.1.1.1 C.1.1.2.1 (kL3 24 rfl) rfl hv2 ?_
  refine x_ld (n := 1) C h1 hv0 hv4 hn (by decide) (kL3 25 rfl) (kL3 26 rfl) (kL3 27 rfl) (kL3 28 rfl) (kL3 29 rfl) ?_
  refine x_callV (t := 40) (o := 0) (As := [.inl (xs (6 * j + 1))]) (S := [.inl r]) C.1 h1 iX12_hold (gdw_of (i := 1755) (by decide +kernel) (by decide +kernel)) ⟨10, TX12, 40, by decide, rfl, rfl⟩ (by decide) (hvI hvN) rfl rfl rfl ⟨Nat.le_of_ble_eq_true rfl, Nat.le_of_ble_eq_true rfl⟩ hk (Nat.le_of_ble_eq_true rfl) hv.1 (CX12_hold (xs (6 * j + 1)) m1) e2 (kL3 30 rfl) (fun H2 locs2 h2 _ => ?_)
  refine lv_icmp_eq (tgt := 1590) C.1.1.1 C.1.1.2.1 (kL3 31 rfl) (by decide) (fun _ => ?_) (fun z => absurd rfl z)
  exact W.widen (Nat.le_succ k) (Nat.le_add_right n 6) (nxt m2 H2 locs2 ls inv2 h2 hv)
set_option maxRecDepth 20000 in
theorem cs_set (C : LwX p s mi c b L xs D ad ca) (hm : Inv m) (h : Hx D ad ca m (aN s) s H locs) (hv : lv_has ls 7 (lvs b ad j)) (hn : 6 * j + 6 ≤ L) (hk : k ≤ 601024 ∧ n ≤ 7293034)
    (nxt : ∀ m2 H2 locs2 ls2, Inv m2 → Hx D ad ca m2 (aN s) s H2 locs2 → lv_has ls2 7 (lvs b ad j) → W p l e room_1 s mi #[.ref b] below meth c H2 locs2 (k + 1) (n + 6) Q (F0 mi 1590 ls2 [])) : W p l e room_1 s mi #[.ref b] below meth c H locs k n Q (F0 mi 668 ls []) := by
  have hv4 := lv_at hv 0 rfl
  have hv0 := lv_at hv 1 rfl
  have hv1 := lv_at hv 2 rfl
  have hv2 := lv_at hv 3 rfl
  obtain ⟨r, m1, m2, e1, e2, inv2⟩ := k_set (xs (6 * j + 1)) (xs (6 * j + 2)) m hm
  refine lv_aload_n C.1.1.1 C.1.1.2.1 (kL3 34 rfl) rfl hv1 ?_
  refine x_ld (n := 1) C h hv0 hv4 hn (by decide) (kL3 35 rfl) (kL3 36 rfl) (kL3 37 rfl) (kL3 38 rfl) (kL3 39 rfl) ?_
  refine x_ld (n := 2) C h hv0 hv4 hn (by decide) (kL3 40 rfl) (kL3 41 rfl) (kL3 42 rfl) (kL3 43 rfl) (kL3 44 rfl) ?_
  refine x_callV (t := 0) (o := 0) (As := [.inl (xs (6 * j + 1)), .inl (xs (6 * j + 2))]) (S := []) C.1 h iX11_set (gdw_of (i := 1065) (by decide +kernel) (by decide +kernel)) ⟨9, TX11, 18, by decide, rfl, rfl⟩ (by decide) (hvI (hvI hvN)) rfl rfl rfl ⟨Nat.le_of_ble_eq_true rfl, Nat.le_of_ble_eq_true rfl⟩ hk (Nat.zero_le _) hv.1 (CX11_set (xs (6 * j + 1)) (xs (6 * j + 2)) m) e1 (kL3 45 rfl) (fun H1 locs1 h1 _ => ?_)
  refine lv_aload_n C.1.1.1 C.1.1.2.1 (kL3 46 rfl) rfl hv2 ?_
  refine x_ld (n := 1) C h1 hv0 hv4 hn (by decide) (kL3 47 rfl) (kL3 48 rfl) (kL3 49 rfl) (kL3 50 rfl) (kL3 51 rfl) ?_
  refine x_ld (n := 2) C h1 hv0 hv4 hn (by decide) (kL3 52 rfl) (kL3 53 rfl) (kL3 54 rfl) (kL3 55 rfl) (kL3 56 rfl) ?_
  refine x_callV (t := 40) (o := 0) (As := [.inl (xs (6 * j + 1)), .inl (xs (6 * j + 2))]) (S := [.inl r]) C.1 h1 iX12_set (gdw_of (i := 1759) (by decide +kernel) (by decide +kernel)) ⟨10, TX12, 40, by decide, rfl, rfl⟩ (by decide) (hvI (hvI hvN)) rfl rfl rfl ⟨Nat.le_of_ble_eq_true rfl, Nat.le_of_ble_eq_true rfl⟩ hk (Nat.le_of_ble_eq_true rfl) hv.1 (CX12_set (xs (6 * j + 1)) (xs (6 * j + 2)) m1) e2 (kL3 57 rfl) (fun H2 locs2 h2 _ => ?_)
  refine lv_icmp_eq (tgt := 1590) C.1.1.1 C.1.1.2.1 (kL3 58 rfl) (by decide) (fun _ => ?_) (fun z => absurd rfl z)
  exact W.widen (Nat.le_succ k) (Nat.le_add_right n 6) (nxt m2 H2 locs2 ls inv2 h2 hv)
set_option maxRecDepth 20000 in
theorem cs_drop (C : LwX p s mi c b L xs D ad ca) (hm : Inv m) (h : Hx D ad ca m (aN s) s H locs) (hv : lv_has ls 7 (lvs b ad j)) (hn : 6 * j + 6 ≤ L) (hk : k ≤ 601024 ∧ n ≤ 7293034)
    (nxt : ∀ m2 H2 locs2 ls2, Inv m2 → Hx D ad ca m2 (aN s) s H2 locs2 → lv_has ls2 7 (lvs b ad j) → W p l e room_1 s mi #[.ref b] below meth c H2 locs2 (k + 1) (n + 6) Q (F0 mi 1590 ls2 [])) : W p l e room_1 s mi #[.ref b] below meth c H locs k n Q (F0 mi 705 ls []) := by
  have hv4 := lv_at hv 0 rfl
  have hv0 := lv_at hv 1 rfl
  have hv1 := lv_at hv 2 rfl
  have hv2 := lv_at hv 3 rfl
  obtain ⟨r, m1, m2, e1, e2, inv2⟩ := k_drop  m hm
  refine lv_aload_n C.1.1.1 C.1.1.2.1 (kL3 61 rfl) rfl hv1 ?_
  refine x_callV (t := 0) (o := 0) (As := []) (S := []) C.1 h iX11_drop (gdw_of (i := 1069) (by decide +kernel) (by decide +kernel)) ⟨9, TX11, 18, by decide, rfl, rfl⟩ (by decide) hvN rfl rfl rfl ⟨Nat.le_of_ble_eq_true rfl, Nat.le_of_ble_eq_true rfl⟩ hk (Nat.zero_le _) hv.1 (CX11_drop  m) e1 (kL3 62 rfl) (fun H1 locs1 h1 _ => ?_)
  refine lv_aload_n C.1.1.1 C.1.1.2.1 (kL3 63 rfl) rfl hv2 ?_
  refine x_callV (t := 40) (o := 0) (As := []) (S := [.inl r]) C.1 h1 iX12_drop (gdw_of (i := 1767) (by decide +kernel) (by decide +kernel)) ⟨10, TX12, 40, by decide, rfl, rfl⟩ (by decide) hvN rfl rfl rfl ⟨Nat.le_of_ble_eq_true rfl, Nat.le_of_ble_eq_true rfl⟩ hk (Nat.le_of_ble_eq_true rfl) hv.1 (CX12_drop  m1) e2 (kL3 64 rfl) (fun H2 locs2 h2 _ => ?_)
  refine lv_icmp_eq (tgt := 1590) C.1.1.1 C.1.1.2.1 (kL3 65 rfl) (by decide) (fun _ => ?_) (fun z => absurd rfl z)
  exact W.widen (Nat.le_succ k) (Nat.le_add_right n 6) (nxt m2 H2 locs2 ls inv2 h2 hv)
set_option maxRecDepth 20000 in
theorem cs_change (C : LwX p s mi c b L xs D ad ca) (hm : Inv m) (h : Hx D ad ca m (aN s) s H locs) (hv : lv_has ls 7 (lvs b ad j)) (hn : 6 * j + 6 ≤ L) (hk : k ≤ 601024 ∧ n ≤ 7293034)
    (nxt : ∀ m2 H2 locs2 ls2, Inv m2 → Hx D ad ca m2 (aN s) s H2 locs2 → lv_has ls2 7 (lvs b ad j) → W p l e room_1 s mi #[.ref b] below meth c H2 locs2 (k + 1) (n + 6) Q (F0 mi 1590 ls2 [])) : W p l e room_1 s mi #[.ref b] below meth c H locs k n Q (F0 mi 718 ls []) := by
  have hv4 := lv_at hv 0 rfl
  have hv0 := lv_at hv 1 rfl
  have hv1 := lv_at hv 2 rfl
  have hv2 := lv_at hv 3 rfl
  obtain ⟨r, m1, m2, e1, e2, inv2⟩ := k_change (xs (6 * j + 1)) (xs (6 * j + 2)) m hm
  refine lv_aload_n C.1.1.1 C.1.1.2.1 (kL3 68 rfl) rfl hv1 ?_
  refine x_ld (n := 1) C h hv0 hv4 hn (by decide) (kL3 69 rfl) (kL3 70 rfl) (kL3 71 rfl) (kL3 72 rfl) (kL3 73 rfl) ?_
  refine x_ld (n := 2) C h hv0 hv4 hn (by decide) (kL3 74 rfl) (kL3 75 rfl) (kL3 76 rfl) (kL3 77 rfl) (kL3 78 rfl) ?_
  refine x_callV (t := 0) (o := 0) (As := [.inl (xs (6 * j + 1)), .inl (xs (6 * j + 2))]) (S := []) C.1 h iX11_change (gdw_of (i := 1073) (by decide +kernel) (by decide +kernel)) ⟨9, TX11, 18, by decide, rfl, rfl⟩ (by decide) (hvI (hvI hvN)) rfl rfl rfl ⟨Nat.le_of_ble_eq_true rfl, Nat.le_of_ble_eq_true rfl⟩ hk (Nat.zero_le _) hv.1 (CX11_change (xs (6 * j + 1)) (xs (6 * j + 2)) m) e1 (kL3 79 rfl) (fun H1 locs1 h1 _ => ?_)
  refine lv_aload_n C.1.1.1 C.1.1.2.1 (kL3 80 rfl) rfl hv2 ?_
  refine x_ld (n := 1) C h1 hv0 hv4 hn (by decide) (kL3 81 rfl) (kL3 82 rfl) (kL3 83 rfl) (kL3 84 rfl) (kL3 85 rfl) ?_
  refine x_ld (n := 2) C h1 hv0 hv4 hn (by decide) (kL3 86 rfl) (kL3 87 rfl) (kL3 88 rfl) (kL3 89 rfl) (kL3 90 rfl) ?_
  refine x_callV (t := 40) (o := 0) (As := [.inl (xs (6 * j + 1)), .inl (xs (6 * j + 2))]) (S := [.inl r]) C.1 h1 iX12_change (gdw_of (i := 1771) (by decide +kernel) (by decide +kernel)) ⟨10, TX12, 40, by decide, rfl, rfl⟩ (by decide) (hvI (hvI hvN)) rfl rfl rfl ⟨Nat.le_of_ble_eq_true rfl, Nat.le_of_ble_eq_true rfl⟩ hk (Nat.le_of_ble_eq_true rfl) hv.1 (CX12_change (xs (6 * j + 1)) (xs (6 * j + 2)) m1) e2 (kL3 91 rfl) (fun H2 locs2 h2 _ => ?_)
  refine lv_icmp_eq (tgt := 1590) C.1.1.1 C.1.1.2.1 (kL3 92 rfl) (by decide) (fun _ => ?_) (fun z => absurd rfl z)
  exact W.widen (Nat.le_succ k) (Nat.le_add_right n 6) (nxt m2 H2 locs2 ls inv2 h2 hv)
set_option maxRecDepth 20000 in
theorem cs_dice (C : LwX p s mi c b L xs D ad ca) (hm : Inv m) (h : Hx D ad ca m (aN s) s H locs) (hv : lv_has ls 7 (lvs b ad j)) (hn : 6 * j + 6 ≤ L) (hk : k ≤ 601024 ∧ n ≤ 7293034)
    (nxt : ∀ m2 H2 locs2 ls2, Inv m2 → Hx D ad ca m2 (aN s) s H2 locs2 → lv_has ls2 7 (lvs b ad j) → W p l e room_1 s mi #[.ref b] below meth c H2 locs2 (k + 1) (n + 6) Q (F0 mi 1590 ls2 [])) : W p l e room_1 s mi #[.ref b] below meth c H locs k n Q (F0 mi 755 ls []) := by
  have hv4 := lv_at hv 0 rfl
  have hv0 := lv_at hv 1 rfl
  have hv1 := lv_at hv 2 rfl
  have hv2 := lv_at hv 3 rfl
  obtain ⟨r, m1, m2, e1, e2, inv2⟩ := k_dice (jn (xs (6 * j + 1)) (xs (6 * j + 2))) m hm
  refine lv_aload_n C.1.1.1 C.1.1.2.1 (kL3 95 rfl) rfl hv1 ?_
  refine x_ld (n := 1) C h hv0 hv4 hn (by decide) (kL3 96 rfl) (kL3 97 rfl) (kL3 98 rfl) (kL3 99 rfl) (kL4 0 rfl) ?_
  refine lv_i2l C.1.1.1 C.1.1.2.1 (kL4 1 rfl) rfl ?_
  refine lv_bipush (v := 32) C.1.1.1 C.1.1.2.1 (kL4 2 rfl) (by decide) ?_
  refine lv_lshl C.1.1.1 C.1.1.2.1 (kL4 3 rfl) rfl ?_
  refine x_ld (n := 2) C h hv0 hv4 hn (by decide) (kL4 4 rfl) (kL4 5 rfl) (kL4 6 rfl) (kL4 7 rfl) (kL4 8 rfl) ?_
  refine lv_i2l C.1.1.1 C.1.1.2.1 (kL4 9 rfl) rfl ?_
  refine lv_ldc2 C.1.1.1 C.1.1.2.1 C.1.1.2.2.2.1 (C.1.w cLw92) (kL4 10 rfl) ?_
  refine lv_land C.1.1.1 C.1.1.2.1 (kL4 11 rfl) ?_
  refine lv_lor C.1.1.1 C.1.1.2.1 (kL4 12 rfl) ?_
  refine x_callV (t := 0) (o := 0) (As := [.inr (.inl (jn (xs (6 * j + 1)) (xs (6 * j + 2))))]) (S := []) C.1 h iX11_dice (gdw_of (i := 1077) (by decide +kernel) (by decide +kernel)) ⟨9, TX11, 18, by decide, rfl, rfl⟩ (by decide) (hvL hvN) rfl rfl rfl ⟨Nat.le_of_ble_eq_true rfl, Nat.le_of_ble_eq_true rfl⟩ hk (Nat.zero_le _) hv.1 (CX11_dice (jn (xs (6 * j + 1)) (xs (6 * j + 2))) m) e1 (kL4 13 rfl) (fun H1 locs1 h1 _ => ?_)
  refine lv_aload_n C.1.1.1 C.1.1.2.1 (kL4 14 rfl) rfl hv2 ?_
  refine x_ld (n := 1) C h1 hv0 hv4 hn (by decide) (kL4 15 rfl) (kL4 16 rfl) (kL4 17 rfl) (kL4 18 rfl) (kL4 19 rfl) ?_
  refine lv_i2l C.1.1.1 C.1.1.2.1 (kL4 20 rfl) rfl ?_
  refine lv_bipush (v := 32) C.1.1.1 C.1.1.2.1 (kL4 21 rfl) (by decide) ?_
  refine lv_lshl C.1.1.1 C.1.1.2.1 (kL4 22 rfl) rfl ?_
  refine x_ld (n := 2) C h1 hv0 hv4 hn (by decide) (kL4 23 rfl) (kL4 24 rfl) (kL4 25 rfl) (kL4 26 rfl) (kL4 27 rfl) ?_
  refine lv_i2l C.1.1.1 C.1.1.2.1 (kL4 28 rfl) rfl ?_
  refine lv_ldc2 C.1.1.1 C.1.1.2.1 C.1.1.2.2.2.1 (C.1.w cLw92) (kL4 29 rfl) ?_
  refine lv_land C.1.1.1 C.1.1.2.1 (kL4 30 rfl) ?_
  refine lv_lor C.1.1.1 C.1.1.2.1 (kL4 31 rfl) ?_
  refine x_callV (t := 40) (o := 0) (As := [.inr (.inl (jn (xs (6 * j + 1)) (xs (6 * j + 2))))]) (S := [.inl r]) C.1 h1 iX12_dice (gdw_of (i := 1775) (by decide +kernel) (by decide +kernel)) ⟨10, TX12, 40, by decide, rfl, rfl⟩ (by decide) (hvL hvN) rfl rfl rfl ⟨Nat.le_of_ble_eq_true rfl, Nat.le_of_ble_eq_true rfl⟩ hk (Nat.le_of_ble_eq_true rfl) hv.1 (CX12_dice (jn (xs (6 * j + 1)) (xs (6 * j + 2))) m1) e2 (kL4 32 rfl) (fun H2 locs2 h2 _ => ?_)
  refine lv_icmp_eq (tgt := 1590) C.1.1.1 C.1.1.2.1 (kL4 33 rfl) (by decide) (fun _ => ?_) (fun z => absurd rfl z)
  exact W.widen (Nat.le_succ k) (Nat.le_add_right n 6) (nxt m2 H2 locs2 ls inv2 h2 hv)
set_option maxRecDepth 20000 in
theorem cs_seek (C : LwX p s mi c b L xs D ad ca) (hm : Inv m) (h : Hx D ad ca m (aN s) s H locs) (hv : lv_has ls 7 (lvs b ad j)) (hn : 6 * j + 6 ≤ L) (hk : k ≤ 601024 ∧ n ≤ 7293034)
    (nxt : ∀ m2 H2 locs2 ls2, Inv m2 → Hx D ad ca m2 (aN s) s H2 locs2 → lv_has ls2 7 (lvs b ad j) → W p l e room_1 s mi #[.ref b] below meth c H2 locs2 (k + 1) (n + 6) Q (F0 mi 1590 ls2 [])) : W p l e room_1 s mi #[.ref b] below meth c H locs k n Q (F0 mi 812 ls []) := by
  have hv4 := lv_at hv 0 rfl
  have hv0 := lv_at hv 1 rfl
  have hv1 := lv_at hv 2 rfl
  have hv2 := lv_at hv 3 rfl
  obtain ⟨r, m1, m2, e1, e2, inv2⟩ := k_seek  m hm
  refine lv_aload_n C.1.1.1 C.1.1.2.1 (kL4 36 rfl) rfl hv1 ?_
  refine x_callV (t := 0) (o := 0) (As := []) (S := []) C.1 h iX11_seek (gdw_of (i := 1081) (by decide +kernel) (by decide +kernel)) ⟨9, TX11, 18, by decide, rfl, rfl⟩ (by decide) hvN rfl rfl rfl ⟨Nat.le_of_ble_eq_true rfl, Nat.le_of_ble_eq_true rfl⟩ hk (Nat.zero_le _) hv.1 (CX11_seek  m) e1 (kL4 37 rfl) (fun H1 locs1 h1 _ => ?_)
  refine lv_aload_n C.1.1.1 C.1.1.2.1 (kL4 38 rfl) rfl hv2 ?_
  refine x_callV (t := 40) (o := 0) (As := []) (S := [.inl r]) C.1 h1 iX12_seek (gdw_of (i := 1779) (by decide +kernel) (by decide +kernel)) ⟨10, TX12, 40, by decide, rfl, rfl⟩ (by decide) hvN rfl rfl rfl ⟨Nat.le_of_ble_eq_true rfl, Nat.le_of_ble_eq_true rfl⟩ hk (Nat.le_of_ble_eq_true rfl) hv.1 (CX12_seek  m1) e2 (kL4 39 rfl) (fun H2 locs2 h2 _ => ?_)
  refine lv_icmp_eq (tgt := 1590) C.1.1.1 C.1.1.2.1 (kL4 40 rfl) (by decide) (fun _ => ?_) (fun z => absurd rfl z)
  exact W.widen (Nat.le_succ k) (Nat.le_add_right n 6) (nxt m2 H2 locs2 ls inv2 h2 hv)
set_option maxRecDepth 20000 in
theorem cs_years (C : LwX p s mi c b L xs D ad ca) (hm : Inv m) (h : Hx D ad ca m (aN s) s H locs) (hv : lv_has ls 7 (lvs b ad j)) (hn : 6 * j + 6 ≤ L) (hk : k ≤ 601024 ∧ n ≤ 7293034)
    (nxt : ∀ m2 H2 locs2 ls2, Inv m2 → Hx D ad ca m2 (aN s) s H2 locs2 → lv_has ls2 7 (lvs b ad j) → W p l e room_1 s mi #[.ref b] below meth c H2 locs2 (k + 1) (n + 6) Q (F0 mi 1590 ls2 [])) : W p l e room_1 s mi #[.ref b] below meth c H locs k n Q (F0 mi 825 ls []) := by
  have hv4 := lv_at hv 0 rfl
  have hv0 := lv_at hv 1 rfl
  have hv1 := lv_at hv 2 rfl
  have hv2 := lv_at hv 3 rfl
  obtain ⟨r, m1, m2, e1, e2, inv2⟩ := k_years (xs (6 * j + 1)) (jn (xs (6 * j + 2)) (xs (6 * j + 3))) m hm
  refine lv_aload_n C.1.1.1 C.1.1.2.1 (kL4 43 rfl) rfl hv1 ?_
  refine x_ld (n := 1) C h hv0 hv4 hn (by decide) (kL4 44 rfl) (kL4 45 rfl) (kL4 46 rfl) (kL4 47 rfl) (kL4 48 rfl) ?_
  refine x_ld (n := 2) C h hv0 hv4 hn (by decide) (kL4 49 rfl) (kL4 50 rfl) (kL4 51 rfl) (kL4 52 rfl) (kL4 53 rfl) ?_
  refine lv_i2l C.1.1.1 C.1.1.2.1 (kL4 54 rfl) rfl ?_
  refine lv_bipush (v := 32) C.1.1.1 C.1.1.2.1 (kL4 55 rfl) (by decide) ?_
  refine lv_lshl C.1.1.1 C.1.1.2.1 (kL4 56 rfl) rfl ?_
  refine x_ld (n := 3) C h hv0 hv4 hn (by decide) (kL4 57 rfl) (kL4 58 rfl) (kL4 59 rfl) (kL4 60 rfl) (kL4 61 rfl) ?_
  refine lv_i2l C.1.1.1 C.1.1.2.1 (kL4 62 rfl) rfl ?_
  refine lv_ldc2 C.1.1.1 C.1.1.2.1 C.1.1.2.2.2.1 (C.1.w cLw92) (kL4 63 rfl) ?_
  refine lv_land C.1.1.1 C.1.1.2.1 (kL4 64 rfl) ?_
  refine lv_lor C.1.1.1 C.1.1.2.1 (kL4 65 rfl) ?_
  refine x_callV (t := 0) (o := 0) (As := [.inl (xs (6 * j + 1)), .inr (.inl (jn (xs (6 * j + 2)) (xs (6 * j + 3))))]) (S := []) C.1 h iX11_years (gdw_of (i := 1085) (by decide +kernel) (by decide +kernel)) ⟨9, TX11, 18, by decide, rfl, rfl⟩ (by decide) (hvI (hvL hvN)) rfl rfl rfl ⟨Nat.le_of_ble_eq_true rfl, Nat.le_of_ble_eq_true rfl⟩ hk (Nat.zero_le _) hv.1 (CX11_years (xs (6 * j + 1)) (jn (xs (6 * j + 2)) (xs (6 * j + 3))) m) e1 (kL4 66 rfl) (fun H1 locs1 h1 _ => ?_)
  refine lv_aload_n C.1.1.1 C.1.1.2.1 (kL4 67 rfl) rfl hv2 ?_
  refine x_ld (n := 1) C h1 hv0 hv4 hn (by decide) (kL4 68 rfl) (kL4 69 rfl) (kL4 70 rfl) (kL4 71 rfl) (kL4 72 rfl) ?_
  refine x_ld (n := 2) C h1 hv0 hv4 hn (by decide) (kL4 73 rfl) (kL4 74 rfl) (kL4 75 rfl) (kL4 76 rfl) (kL4 77 rfl) ?_
  refine lv_i2l C.1.1.1 C.1.1.2.1 (kL4 78 rfl) rfl ?_
  refine lv_bipush (v := 32) C.1.1.1 C.1.1.2.1 (kL4 79 rfl) (by decide) ?_
  refine lv_lshl C.1.1.1 C.1.1.2.1 (kL4 80 rfl) rfl ?_
  refine x_ld (n := 3) C h1 hv0 hv4 hn (by decide) (kL4 81 rfl) (kL4 82 rfl) (kL4 83 rfl) (kL4 84 rfl) (kL4 85 rfl) ?_
  refine lv_i2l C.1.1.1 C.1.1.2.1 (kL4 86 rfl) rfl ?_
  refine lv_ldc2 C.1.1.1 C.1.1.2.1 C.1.1.2.2.2.1 (C.1.w cLw92) (kL4 87 rfl) ?_
  refine lv_land C.1.1.1 C.1.1.2.1 (kL4 88 rfl) ?_
  refine lv_lor C.1.1.1 C.1.1.2.1 (kL4 89 rfl) ?_
  refine x_callV (t := 40) (o := 0) (As := [.inl (xs (6 * j + 1)), .inr (.inl (jn (xs (6 * j + 2)) (xs (6 * j + 3))))]) (S := [.inl r]) C.1 h1 iX12_years (gdw_of (i := 1809) (by decide +kernel) (by decide +kernel)) ⟨10, TX12, 40, by decide, rfl, rfl⟩ (by decide) (hvI (hvL hvN)) rfl rfl rfl ⟨Nat.le_of_ble_eq_true rfl, Nat.le_of_ble_eq_true rfl⟩ hk (Nat.le_of_ble_eq_true rfl) hv.1 (CX12_years (xs (6 * j + 1)) (jn (xs (6 * j + 2)) (xs (6 * j + 3))) m1) e2 (kL4 90 rfl) (fun H2 locs2 h2 _ => ?_)
  refine lv_icmp_eq (tgt := 1590) C.1.1.1 C.1.1.2.1 (kL4 91 rfl) (by decide) (fun _ => ?_) (fun z => absurd rfl z)
  exact W.widen (Nat.le_succ k) (Nat.le_add_right n 6) (nxt m2 H2 locs2 ls inv2 h2 hv)
set_option maxRecDepth 20000 in
theorem cs_status (C : LwX p s mi c b L xs D ad ca) (hm : Inv m) (h : Hx D ad ca m (aN s) s H locs) (hv : lv_has ls 7 (lvs b ad j)) (hn : 6 * j + 6 ≤ L) (hk : k ≤ 601024 ∧ n ≤ 7293034)
    (nxt : ∀ m2 H2 locs2 ls2, Inv m2 → Hx D ad ca m2 (aN s) s H2 locs2 → lv_has ls2 7 (lvs b ad j) → W p l e room_1 s mi #[.ref b] below meth c H2 locs2 (k + 1) (n + 6) Q (F0 mi 1590 ls2 [])) : W p l e room_1 s mi #[.ref b] below meth c H locs k n Q (F0 mi 894 ls []) := by
  have hv4 := lv_at hv 0 rfl
  have hv0 := lv_at hv 1 rfl
  have hv1 := lv_at hv 2 rfl
  have hv2 := lv_at hv 3 rfl
  obtain ⟨r, m1, m2, e1, e2, inv2⟩ := k_status (xs (6 * j + 1)) m hm
  refine lv_aload_n C.1.1.1 C.1.1.2.1 (kL4 94 rfl) rfl hv1 ?_
  refine x_ld (n := 1) C h hv0 hv4 hn (by decide) (kL4 95 rfl) (kL4 96 rfl) (kL4 97 rfl) (kL4 98 rfl) (kL4 99 rfl) ?_
  refine x_callV (t := 0) (o := 0) (As := [.inl (xs (6 * j + 1))]) (S := []) C.1 h iX11_status (gdw_of (i := 787) (by decide +kernel) (by decide +kernel)) ⟨9, TX11, 18, by decide, rfl, rfl⟩ (by decide) (hvI hvN) rfl rfl rfl ⟨Nat.le_of_ble_eq_true rfl, Nat.le_of_ble_eq_true rfl⟩ hk (Nat.zero_le _) hv.1 (CX11_status (xs (6 * j + 1)) m) e1 (kL5 0 rfl) (fun H1 locs1 h1 _ => ?_)
  refine lv_aload_n C.1.1.1 C.1.1.2.1 (kL5 1 rfl) rfl hv2 ?_
  refine x_ld (n := 1) C h1 hv0 hv4 hn (by decide) (kL5 2 rfl) (kL5 3 rfl) (kL5 4 rfl) (kL5 5 rfl) (kL5 6 rfl) ?_
  refine x_callV (t := 40) (o := 0) (As := [.inl (xs (6 * j + 1))]) (S := [.inl r]) C.1 h1 iX12_status (gdw_of (i := 1821) (by decide +kernel) (by decide +kernel)) ⟨10, TX12, 40, by decide, rfl, rfl⟩ (by decide) (hvI hvN) rfl rfl rfl ⟨Nat.le_of_ble_eq_true rfl, Nat.le_of_ble_eq_true rfl⟩ hk (Nat.le_of_ble_eq_true rfl) hv.1 (CX12_status (xs (6 * j + 1)) m1) e2 (kL5 7 rfl) (fun H2 locs2 h2 _ => ?_)
  refine lv_icmp_eq (tgt := 1590) C.1.1.1 C.1.1.2.1 (kL5 8 rfl) (by decide) (fun _ => ?_) (fun z => absurd rfl z)
  exact W.widen (Nat.le_succ k) (Nat.le_add_right n 6) (nxt m2 H2 locs2 ls inv2 h2 hv)
set_option maxRecDepth 20000 in
theorem cs_undo (C : LwX p s mi c b L xs D ad ca) (hm : Inv m) (h : Hx D ad ca m (aN s) s H locs) (hv : lv_has ls 7 (lvs b ad j)) (hn : 6 * j + 6 ≤ L) (hk : k ≤ 601024 ∧ n ≤ 7293034)
    (nxt : ∀ m2 H2 locs2 ls2, Inv m2 → Hx D ad ca m2 (aN s) s H2 locs2 → lv_has ls2 7 (lvs b ad j) → W p l e room_1 s mi #[.ref b] below meth c H2 locs2 (k + 1) (n + 6) Q (F0 mi 1590 ls2 [])) : W p l e room_1 s mi #[.ref b] below meth c H locs k n Q (F0 mi 919 ls []) := by
  have hv4 := lv_at hv 0 rfl
  have hv0 := lv_at hv 1 rfl
  have hv1 := lv_at hv 2 rfl
  have hv2 := lv_at hv 3 rfl
  obtain ⟨r, m1, m2, e1, e2, inv2⟩ := k_undo  m hm
  refine lv_aload_n C.1.1.1 C.1.1.2.1 (kL5 11 rfl) rfl hv1 ?_
  refine x_callV (t := 0) (o := 0) (As := []) (S := []) C.1 h iX11_undo (gdw_of (i := 1099) (by decide +kernel) (by decide +kernel)) ⟨9, TX11, 18, by decide, rfl, rfl⟩ (by decide) hvN rfl rfl rfl ⟨Nat.le_of_ble_eq_true rfl, Nat.le_of_ble_eq_true rfl⟩ hk (Nat.zero_le _) hv.1 (CX11_undo  m) e1 (kL5 12 rfl) (fun H1 locs1 h1 _ => ?_)
  refine lv_aload_n C.1.1.1 C.1.1.2.1 (kL5 13 rfl) rfl hv2 ?_
  refine x_callV (t := 40) (o := 0) (As := []) (S := [.inl r]) C.1 h1 iX12_undo (gdw_of (i := 1825) (by decide +kernel) (by decide +kernel)) ⟨10, TX12, 40, by decide, rfl, rfl⟩ (by decide) hvN rfl rfl rfl ⟨Nat.le_of_ble_eq_true rfl, Nat.le_of_ble_eq_true rfl⟩ hk (Nat.le_of_ble_eq_true rfl) hv.1 (CX12_undo  m1) e2 (kL5 14 rfl) (fun H2 locs2 h2 _ => ?_)
  refine lv_icmp_eq (tgt := 1590) C.1.1.1 C.1.1.2.1 (kL5 15 rfl) (by decide) (fun _ => ?_) (fun z => absurd rfl z)
  exact W.widen (Nat.le_succ k) (Nat.le_add_right n 6) (nxt m2 H2 locs2 ls inv2 h2 hv)
set_option maxRecDepth 20000 in
theorem cs_log (C : LwX p s mi c b L xs D ad ca) (hm : Inv m) (h : Hx D ad ca m (aN s) s H locs) (hv : lv_has ls 7 (lvs b ad j)) (hn : 6 * j + 6 ≤ L) (hk : k ≤ 601024 ∧ n ≤ 7293034)
    (nxt : ∀ m2 H2 locs2 ls2, Inv m2 → Hx D ad ca m2 (aN s) s H2 locs2 → lv_has ls2 7 (lvs b ad j) → W p l e room_1 s mi #[.ref b] below meth c H2 locs2 (k + 1) (n + 6) Q (F0 mi 1590 ls2 [])) : W p l e room_1 s mi #[.ref b] below meth c H locs k n Q (F0 mi 932 ls []) := by
  have hv4 := lv_at hv 0 rfl
  have hv0 := lv_at hv 1 rfl
  have hv1 := lv_at hv 2 rfl
  have hv2 := lv_at hv 3 rfl
  obtain ⟨r, m1, m2, e1, e2, inv2⟩ := k_log (xs (6 * j + 1)) (xs (6 * j + 2)) m hm
  refine lv_aload_n C.1.1.1 C.1.1.2.1 (kL5 18 rfl) rfl hv1 ?_
  refine x_ld (n := 1) C h hv0 hv4 hn (by decide) (kL5 19 rfl) (kL5 20 rfl) (kL5 21 rfl) (kL5 22 rfl) (kL5 23 rfl) ?_
  refine x_ld (n := 2) C h hv0 hv4 hn (by decide) (kL5 24 rfl) (kL5 25 rfl) (kL5 26 rfl) (kL5 27 rfl) (kL5 28 rfl) ?_
  refine x_callV (t := 0) (o := 0) (As := [.inl (xs (6 * j + 1)), .inl (xs (6 * j + 2))]) (S := []) C.1 h iX11_log (gdw_of (i := 791) (by decide +kernel) (by decide +kernel)) ⟨9, TX11, 18, by decide, rfl, rfl⟩ (by decide) (hvI (hvI hvN)) rfl rfl rfl ⟨Nat.le_of_ble_eq_true rfl, Nat.le_of_ble_eq_true rfl⟩ hk (Nat.zero_le _) hv.1 (CX11_log (xs (6 * j + 1)) (xs (6 * j + 2)) m) e1 (kL5 29 rfl) (fun H1 locs1 h1 _ => ?_)
  refine lv_aload_n C.1.1.1 C.1.1.2.1 (kL5 30 rfl) rfl hv2 ?_
  refine x_ld (n := 1) C h1 hv0 hv4 hn (by decide) (kL5 31 rfl) (kL5 32 rfl) (kL5 33 rfl) (kL5 34 rfl) (kL5 35 rfl) ?_
  refine x_ld (n := 2) C h1 hv0 hv4 hn (by decide) (kL5 36 rfl) (kL5 37 rfl) (kL5 38 rfl) (kL5 39 rfl) (kL5 40 rfl) ?_
  refine x_callV (t := 40) (o := 0) (As := [.inl (xs (6 * j + 1)), .inl (xs (6 * j + 2))]) (S := [.inl r]) C.1 h1 iX12_log (gdw_of (i := 1829) (by decide +kernel) (by decide +kernel)) ⟨10, TX12, 40, by decide, rfl, rfl⟩ (by decide) (hvI (hvI hvN)) rfl rfl rfl ⟨Nat.le_of_ble_eq_true rfl, Nat.le_of_ble_eq_true rfl⟩ hk (Nat.le_of_ble_eq_true rfl) hv.1 (CX12_log (xs (6 * j + 1)) (xs (6 * j + 2)) m1) e2 (kL5 41 rfl) (fun H2 locs2 h2 _ => ?_)
  refine lv_icmp_eq (tgt := 1590) C.1.1.1 C.1.1.2.1 (kL5 42 rfl) (by decide) (fun _ => ?_) (fun z => absurd rfl z)
  exact W.widen (Nat.le_succ k) (Nat.le_add_right n 6) (nxt m2 H2 locs2 ls inv2 h2 hv)
set_option maxRecDepth 20000 in
theorem cs_step (C : LwX p s mi c b L xs D ad ca) (hm : Inv m) (h : Hx D ad ca m (aN s) s H locs) (hv : lv_has ls 7 (lvs b ad j)) (hn : 6 * j + 6 ≤ L) (hk : k ≤ 601024 ∧ n ≤ 7293034)
    (nxt : ∀ m2 H2 locs2 ls2, Inv m2 → Hx D ad ca m2 (aN s) s H2 locs2 → lv_has ls2 7 (lvs b ad j) → W p l e room_1 s mi #[.ref b] below meth c H2 locs2 (k + 1) (n + 6) Q (F0 mi 1590 ls2 [])) : W p l e room_1 s mi #[.ref b] below meth c H locs k n Q (F0 mi 969 ls []) := by
  have hv4 := lv_at hv 0 rfl
  have hv0 := lv_at hv 1 rfl
  have hv1 := lv_at hv 2 rfl
  have hv2 := lv_at hv 3 rfl
  obtain ⟨r, m1, m2, e1, e2, inv2⟩ := k_step (xs (6 * j + 1)) (xs (6 * j + 2)) (xs (6 * j + 3)) m hm
  refine lv_aload_n C.1.1.1 C.1.1.2.1 (kL5 45 rfl) rfl hv1 ?_
  refine x_ld (n := 1) C h hv0 hv4 hn (by decide) (kL5 46 rfl) (kL5 47 rfl) (kL5 48 rfl) (kL5 49 rfl) (kL5 50 rfl) ?_
  refine x_ld (n := 2) C h hv0 hv4 hn (by decide) (kL5 51 rfl) (kL5 52 rfl) (kL5 53 rfl) (kL5 54 rfl) (kL5 55 rfl) ?_
  refine x_ld (n := 3) C h hv0 hv4 hn (by decide) (kL5 56 rfl) (kL5 57 rfl) (kL5 58 rfl) (kL5 59 rfl) (kL5 60 rfl) ?_
  refine x_callV (t := 0) (o := 0) (As := [.inl (xs (6 * j + 1)), .inl (xs (6 * j + 2)), .inl (xs (6 * j + 3))]) (S := []) C.1 h iX11_step (gdw_of (i := 1115) (by decide +kernel) (by decide +kernel)) ⟨9, TX11, 18, by decide, rfl, rfl⟩ (by decide) (hvI (hvI (hvI hvN))) rfl rfl rfl ⟨Nat.le_of_ble_eq_true rfl, Nat.le_of_ble_eq_true rfl⟩ hk (Nat.zero_le _) hv.1 (CX11_step (xs (6 * j + 1)) (xs (6 * j + 2)) (xs (6 * j + 3)) m) e1 (kL5 61 rfl) (fun H1 locs1 h1 _ => ?_)
  refine lv_aload_n C.1.1.1 C.1.1.2.1 (kL5 62 rfl) rfl hv2 ?_
  refine x_ld (n := 1) C h1 hv0 hv4 hn (by decide) (kL5 63 rfl) (kL5 64 rfl) (kL5 65 rfl) (kL5 66 rfl) (kL5 67 rfl) ?_
  refine x_ld (n := 2) C h1 hv0 hv4 hn (by decide) (kL5 68 rfl) (kL5 69 rfl) (kL5 70 rfl) (kL5 71 rfl) (kL5 72 rfl) ?_
  refine x_ld (n := 3) C h1 hv0 hv4 hn (by decide) (kL5 73 rfl) (kL5 74 rfl) (kL5 75 rfl) (kL5 76 rfl) (kL5 77 rfl) ?_
  refine x_callV (t := 40) (o := 0) (As := [.inl (xs (6 * j + 1)), .inl (xs (6 * j + 2)), .inl (xs (6 * j + 3))]) (S := [.inl r]) C.1 h1 iX12_step (gdw_of (i := 1853) (by decide +kernel) (by decide +kernel)) ⟨10, TX12, 40, by decide, rfl, rfl⟩ (by decide) (hvI (hvI (hvI hvN))) rfl rfl rfl ⟨Nat.le_of_ble_eq_true rfl, Nat.le_of_ble_eq_true rfl⟩ hk (Nat.le_of_ble_eq_true rfl) hv.1 (CX12_step (xs (6 * j + 1)) (xs (6 * j + 2)) (xs (6 * j + 3)) m1) e2 (kL5 78 rfl) (fun H2 locs2 h2 _ => ?_)
  refine lv_icmp_eq (tgt := 1590) C.1.1.1 C.1.1.2.1 (kL5 79 rfl) (by decide) (fun _ => ?_) (fun z => absurd rfl z)
  exact W.widen (Nat.le_succ k) (Nat.le_add_right n 6) (nxt m2 H2 locs2 ls inv2 h2 hv)
set_option maxRecDepth 20000 in
theorem cs_run (C : LwX p s mi c b L xs D ad ca) (hm : Inv m) (h : Hx D ad ca m (aN s) s H locs) (hv : lv_has ls 7 (lvs b ad j)) (hn : 6 * j + 6 ≤ L) (hk : k ≤ 601024 ∧ n ≤ 7293034)
    (nxt : ∀ m2 H2 locs2 ls2, Inv m2 → Hx D ad ca m2 (aN s) s H2 locs2 → lv_has ls2 7 (lvs b ad j) → W p l e room_1 s mi #[.ref b] below meth c H2 locs2 (k + 1) (n + 6) Q (F0 mi 1590 ls2 [])) : W p l e room_1 s mi #[.ref b] below meth c H locs k n Q (F0 mi 1018 ls []) := by
  have hv4 := lv_at hv 0 rfl
  have hv0 := lv_at hv 1 rfl
  have hv1 := lv_at hv 2 rfl
  have hv2 := lv_at hv 3 rfl
  obtain ⟨r, m1, m2, e1, e2, inv2⟩ := k_run (xs (6 * j + 1)) (xs (6 * j + 2)) m hm
  refine lv_aload_n C.1.1.1 C.1.1.2.1 (kL5 82 rfl) rfl hv1 ?_
  refine x_ld (n := 1) C h hv0 hv4 hn (by decide) (kL5 83 rfl) (kL5 84 rfl) (kL5 85 rfl) (kL5 86 rfl) (kL5 87 rfl) ?_
  refine x_ld (n := 2) C h hv0 hv4 hn (by decide) (kL5 88 rfl) (kL5 89 rfl) (kL5 90 rfl) (kL5 91 rfl) (kL5 92 rfl) ?_
  refine x_callV (t := 0) (o := 0) (As := [.inl (xs (6 * j + 1)), .inl (xs (6 * j + 2))]) (S := []) C.1 h iX11_run (gdw_of (i := 1127) (by decide +kernel) (by decide +kernel)) ⟨9, TX11, 18, by decide, rfl, rfl⟩ (by decide) (hvI (hvI hvN)) rfl rfl rfl ⟨Nat.le_of_ble_eq_true rfl, Nat.le_of_ble_eq_true rfl⟩ hk (Nat.zero_le _) hv.1 (CX11_run (xs (6 * j + 1)) (xs (6 * j + 2)) m) e1 (kL5 93 rfl) (fun H1 locs1 h1 _ => ?_)
  refine lv_aload_n C.1.1.1 C.1.1.2.1 (kL5 94 rfl) rfl hv2 ?_
  refine x_ld (n := 1) C h1 hv0 hv4 hn (by decide) (kL5 95 rfl) (kL5 96 rfl) (kL5 97 rfl) (kL5 98 rfl) (kL5 99 rfl) ?_
  refine x_ld (n := 2) C h1 hv0 hv4 hn (by decide) (kL6 0 rfl) (kL6 1 rfl) (kL6 2 rfl) (kL6 3 rfl) (kL6 4 rfl) ?_
  refine x_callV (t := 40) (o := 0) (As := [.inl (xs (6 * j + 1)), .inl (xs (6 * j + 2))]) (S := [.inl r]) C.1 h1 iX12_run (gdw_of (i := 1857) (by decide +kernel) (by decide +kernel)) ⟨10, TX12, 40, by decide, rfl, rfl⟩ (by decide) (hvI (hvI hvN)) rfl rfl rfl ⟨Nat.le_of_ble_eq_true rfl, Nat.le_of_ble_eq_true rfl⟩ hk (Nat.le_of_ble_eq_true rfl) hv.1 (CX12_run (xs (6 * j + 1)) (xs (6 * j + 2)) m1) e2 (kL6 5 rfl) (fun H2 locs2 h2 _ => ?_)
  refine lv_icmp_eq (tgt := 1590) C.1.1.1 C.1.1.2.1 (kL6 6 rfl) (by decide) (fun _ => ?_) (fun z => absurd rfl z)
  exact W.widen (Nat.le_succ k) (Nat.le_add_right n 6) (nxt m2 H2 locs2 ls inv2 h2 hv)
set_option maxRecDepth 20000 in
theorem cs_perform (C : LwX p s mi c b L xs D ad ca) (hm : Inv m) (h : Hx D ad ca m (aN s) s H locs) (hv : lv_has ls 7 (lvs b ad j)) (hn : 6 * j + 6 ≤ L) (hk : k ≤ 601024 ∧ n ≤ 7293034)
    (nxt : ∀ m2 H2 locs2 ls2, Inv m2 → Hx D ad ca m2 (aN s) s H2 locs2 → lv_has ls2 7 (lvs b ad j) → W p l e room_1 s mi #[.ref b] below meth c H2 locs2 (k + 1) (n + 6) Q (F0 mi 1590 ls2 [])) : W p l e room_1 s mi #[.ref b] below meth c H locs k n Q (F0 mi 1055 ls []) := by
  have hv4 := lv_at hv 0 rfl
  have hv0 := lv_at hv 1 rfl
  have hv1 := lv_at hv 2 rfl
  have hv2 := lv_at hv 3 rfl
  obtain ⟨r, m1, m2, e1, e2, inv2⟩ := k_perform (xs (6 * j + 1)) m hm
  refine lv_aload_n C.1.1.1 C.1.1.2.1 (kL6 9 rfl) rfl hv1 ?_
  refine x_ld (n := 1) C h hv0 hv4 hn (by decide) (kL6 10 rfl) (kL6 11 rfl) (kL6 12 rfl) (kL6 13 rfl) (kL6 14 rfl) ?_
  refine x_callV (t := 0) (o := 0) (As := [.inl (xs (6 * j + 1))]) (S := []) C.1 h iX11_perform (gdw_of (i := 1150) (by decide +kernel) (by decide +kernel)) ⟨9, TX11, 18, by decide, rfl, rfl⟩ (by decide) (hvI hvN) rfl rfl rfl ⟨Nat.le_of_ble_eq_true rfl, Nat.le_of_ble_eq_true rfl⟩ hk (Nat.zero_le _) hv.1 (CX11_perform (xs (6 * j + 1)) m) e1 (kL6 15 rfl) (fun H1 locs1 h1 _ => ?_)
  refine lv_aload_n C.1.1.1 C.1.1.2.1 (kL6 16 rfl) rfl hv2 ?_
  refine x_ld (n := 1) C h1 hv0 hv4 hn (by decide) (kL6 17 rfl) (kL6 18 rfl) (kL6 19 rfl) (kL6 20 rfl) (kL6 21 rfl) ?_
  refine x_callV (t := 40) (o := 0) (As := [.inl (xs (6 * j + 1))]) (S := [.inl r]) C.1 h1 iX12_perform (gdw_of (i := 1885) (by decide +kernel) (by decide +kernel)) ⟨10, TX12, 40, by decide, rfl, rfl⟩ (by decide) (hvI hvN) rfl rfl rfl ⟨Nat.le_of_ble_eq_true rfl, Nat.le_of_ble_eq_true rfl⟩ hk (Nat.le_of_ble_eq_true rfl) hv.1 (CX12_perform (xs (6 * j + 1)) m1) e2 (kL6 22 rfl) (fun H2 locs2 h2 _ => ?_)
  refine lv_icmp_eq (tgt := 1590) C.1.1.1 C.1.1.2.1 (kL6 23 rfl) (by decide) (fun _ => ?_) (fun z => absurd rfl z)
  exact W.widen (Nat.le_succ k) (Nat.le_add_right n 6) (nxt m2 H2 locs2 ls inv2 h2 hv)
set_option maxRecDepth 20000 in
theorem cs_eye (C : LwX p s mi c b L xs D ad ca) (hm : Inv m) (h : Hx D ad ca m (aN s) s H locs) (hv : lv_has ls 7 (lvs b ad j)) (hn : 6 * j + 6 ≤ L) (hk : k ≤ 601024 ∧ n ≤ 7293034)
    (nxt : ∀ m2 H2 locs2 ls2, Inv m2 → Hx D ad ca m2 (aN s) s H2 locs2 → lv_has ls2 7 (lvs b ad j) → W p l e room_1 s mi #[.ref b] below meth c H2 locs2 (k + 1) (n + 6) Q (F0 mi 1590 ls2 [])) : W p l e room_1 s mi #[.ref b] below meth c H locs k n Q (F0 mi 1080 ls []) := by
  have hv4 := lv_at hv 0 rfl
  have hv0 := lv_at hv 1 rfl
  have hv1 := lv_at hv 2 rfl
  have hv2 := lv_at hv 3 rfl
  obtain ⟨r, m1, m2, e1, e2, inv2⟩ := k_eye (xs (6 * j + 1)) (xs (6 * j + 2)) m hm
  refine lv_aload_n C.1.1.1 C.1.1.2.1 (kL6 26 rfl) rfl hv1 ?_
  refine x_ld (n := 1) C h hv0 hv4 hn (by decide) (kL6 27 rfl) (kL6 28 rfl) (kL6 29 rfl) (kL6 30 rfl) (kL6 31 rfl) ?_
  refine x_ld (n := 2) C h hv0 hv4 hn (by decide) (kL6 32 rfl) (kL6 33 rfl) (kL6 34 rfl) (kL6 35 rfl) (kL6 36 rfl) ?_
  refine x_callV (t := 0) (o := 0) (As := [.inl (xs (6 * j + 1)), .inl (xs (6 * j + 2))]) (S := []) C.1 h iX11_eye (gdw_of (i := 1154) (by decide +kernel) (by decide +kernel)) ⟨9, TX11, 18, by decide, rfl, rfl⟩ (by decide) (hvI (hvI hvN)) rfl rfl rfl ⟨Nat.le_of_ble_eq_true rfl, Nat.le_of_ble_eq_true rfl⟩ hk (Nat.zero_le _) hv.1 (CX11_eye (xs (6 * j + 1)) (xs (6 * j + 2)) m) e1 (kL6 37 rfl) (fun H1 locs1 h1 _ => ?_)
  refine lv_aload_n C.1.1.1 C.1.1.2.1 (kL6 38 rfl) rfl hv2 ?_
  refine x_ld (n := 1) C h1 hv0 hv4 hn (by decide) (kL6 39 rfl) (kL6 40 rfl) (kL6 41 rfl) (kL6 42 rfl) (kL6 43 rfl) ?_
  refine x_ld (n := 2) C h1 hv0 hv4 hn (by decide) (kL6 44 rfl) (kL6 45 rfl) (kL6 46 rfl) (kL6 47 rfl) (kL6 48 rfl) ?_
  refine x_callV (t := 40) (o := 0) (As := [.inl (xs (6 * j + 1)), .inl (xs (6 * j + 2))]) (S := [.inl r]) C.1 h1 iX12_eye (gdw_of (i := 1889) (by decide +kernel) (by decide +kernel)) ⟨10, TX12, 40, by decide, rfl, rfl⟩ (by decide) (hvI (hvI hvN)) rfl rfl rfl ⟨Nat.le_of_ble_eq_true rfl, Nat.le_of_ble_eq_true rfl⟩ hk (Nat.le_of_ble_eq_true rfl) hv.1 (CX12_eye (xs (6 * j + 1)) (xs (6 * j + 2)) m1) e2 (kL6 49 rfl) (fun H2 locs2 h2 _ => ?_)
  refine lv_icmp_eq (tgt := 1590) C.1.1.1 C.1.1.2.1 (kL6 50 rfl) (by decide) (fun _ => ?_) (fun z => absurd rfl z)
  exact W.widen (Nat.le_succ k) (Nat.le_add_right n 6) (nxt m2 H2 locs2 ls inv2 h2 hv)
set_option maxRecDepth 20000 in
theorem cs_opening (C : LwX p s mi c b L xs D ad ca) (hm : Inv m) (h : Hx D ad ca m (aN s) s H locs) (hv : lv_has ls 7 (lvs b ad j)) (hn : 6 * j + 6 ≤ L) (hk : k ≤ 601024 ∧ n ≤ 7293034)
    (nxt : ∀ m2 H2 locs2 ls2, Inv m2 → Hx D ad ca m2 (aN s) s H2 locs2 → lv_has ls2 7 (lvs b ad j) → W p l e room_1 s mi #[.ref b] below meth c H2 locs2 (k + 1) (n + 6) Q (F0 mi 1590 ls2 [])) : W p l e room_1 s mi #[.ref b] below meth c H locs k n Q (F0 mi 1117 ls []) := by
  have hv4 := lv_at hv 0 rfl
  have hv0 := lv_at hv 1 rfl
  have hv1 := lv_at hv 2 rfl
  have hv2 := lv_at hv 3 rfl
  obtain ⟨r, m1, m2, e1, e2, inv2⟩ := k_opening (xs (6 * j + 1)) (xs (6 * j + 2)) m hm
  refine lv_aload_n C.1.1.1 C.1.1.2.1 (kL6 53 rfl) rfl hv1 ?_
  refine x_ld (n := 1) C h hv0 hv4 hn (by decide) (kL6 54 rfl) (kL6 55 rfl) (kL6 56 rfl) (kL6 57 rfl) (kL6 58 rfl) ?_
  refine x_ld (n := 2) C h hv0 hv4 hn (by decide) (kL6 59 rfl) (kL6 60 rfl) (kL6 61 rfl) (kL6 62 rfl) (kL6 63 rfl) ?_
  refine x_callV (t := 0) (o := 0) (As := [.inl (xs (6 * j + 1)), .inl (xs (6 * j + 2))]) (S := []) C.1 h iX11_opening (gdw_of (i := 1167) (by decide +kernel) (by decide +kernel)) ⟨9, TX11, 18, by decide, rfl, rfl⟩ (by decide) (hvI (hvI hvN)) rfl rfl rfl ⟨Nat.le_of_ble_eq_true rfl, Nat.le_of_ble_eq_true rfl⟩ hk (Nat.zero_le _) hv.1 (CX11_opening (xs (6 * j + 1)) (xs (6 * j + 2)) m) e1 (kL6 64 rfl) (fun H1 locs1 h1 _ => ?_)
  refine lv_aload_n C.1.1.1 C.1.1.2.1 (kL6 65 rfl) rfl hv2 ?_
  refine x_ld (n := 1) C h1 hv0 hv4 hn (by decide) (kL6 66 rfl) (kL6 67 rfl) (kL6 68 rfl) (kL6 69 rfl) (kL6 70 rfl) ?_
  refine x_ld (n := 2) C h1 hv0 hv4 hn (by decide) (kL6 71 rfl) (kL6 72 rfl) (kL6 73 rfl) (kL6 74 rfl) (kL6 75 rfl) ?_
  refine x_callV (t := 40) (o := 0) (As := [.inl (xs (6 * j + 1)), .inl (xs (6 * j + 2))]) (S := [.inl r]) C.1 h1 iX12_opening (gdw_of (i := 1897) (by decide +kernel) (by decide +kernel)) ⟨10, TX12, 40, by decide, rfl, rfl⟩ (by decide) (hvI (hvI hvN)) rfl rfl rfl ⟨Nat.le_of_ble_eq_true rfl, Nat.le_of_ble_eq_true rfl⟩ hk (Nat.le_of_ble_eq_true rfl) hv.1 (CX12_opening (xs (6 * j + 1)) (xs (6 * j + 2)) m1) e2 (kL6 76 rfl) (fun H2 locs2 h2 _ => ?_)
  refine lv_icmp_eq (tgt := 1590) C.1.1.1 C.1.1.2.1 (kL6 77 rfl) (by decide) (fun _ => ?_) (fun z => absurd rfl z)
  exact W.widen (Nat.le_succ k) (Nat.le_add_right n 6) (nxt m2 H2 locs2 ls inv2 h2 hv)
set_option maxRecDepth 20000 in
theorem cs_weigh (C : LwX p s mi c b L xs D ad ca) (hm : Inv m) (h : Hx D ad ca m (aN s) s H locs) (hv : lv_has ls 7 (lvs b ad j)) (hn : 6 * j + 6 ≤ L) (hk : k ≤ 601024 ∧ n ≤ 7293034)
    (nxt : ∀ m2 H2 locs2 ls2, Inv m2 → Hx D ad ca m2 (aN s) s H2 locs2 → lv_has ls2 7 (lvs b ad j) → W p l e room_1 s mi #[.ref b] below meth c H2 locs2 (k + 1) (n + 6) Q (F0 mi 1590 ls2 [])) : W p l e room_1 s mi #[.ref b] below meth c H locs k n Q (F0 mi 1154 ls []) := by
  have hv4 := lv_at hv 0 rfl
  have hv0 := lv_at hv 1 rfl
  have hv1 := lv_at hv 2 rfl
  have hv2 := lv_at hv 3 rfl
  obtain ⟨r, m1, m2, e1, e2, inv2⟩ := k_weigh (xs (6 * j + 1)) (xs (6 * j + 2)) (xs (6 * j + 3)) m hm
  refine lv_aload_n C.1.1.1 C.1.1.2.1 (kL6 80 rfl) rfl hv1 ?_
  refine x_ld (n := 1) C h hv0 hv4 hn (by decide) (kL6 81 rfl) (kL6 82 rfl) (kL6 83 rfl) (kL6 84 rfl) (kL6 85 rfl) ?_
  refine x_ld (n := 2) C h hv0 hv4 hn (by decide) (kL6 86 rfl) (kL6 87 rfl) (kL6 88 rfl) (kL6 89 rfl) (kL6 90 rfl) ?_
  refine x_ld (n := 3) C h hv0 hv4 hn (by decide) (kL6 91 rfl) (kL6 92 rfl) (kL6 93 rfl) (kL6 94 rfl) (kL6 95 rfl) ?_
  refine x_callV (t := 0) (o := 0) (As := [.inl (xs (6 * j + 1)), .inl (xs (6 * j + 2)), .inl (xs (6 * j + 3))]) (S := []) C.1 h iX11_weigh (gdw_of (i := 1176) (by decide +kernel) (by decide +kernel)) ⟨9, TX11, 18, by decide, rfl, rfl⟩ (by decide) (hvI (hvI (hvI hvN))) rfl rfl rfl ⟨Nat.le_of_ble_eq_true rfl, Nat.le_of_ble_eq_true rfl⟩ hk (Nat.zero_le _) hv.1 (CX11_weigh (xs (6 * j + 1)) (xs (6 * j + 2)) (xs (6 * j + 3)) m) e1 (kL6 96 rfl) (fun H1 locs1 h1 _ => ?_)
  refine lv_aload_n C.1.1.1 C.1.1.2.1 (kL6 97 rfl) rfl hv2 ?_
  refine x_ld (n := 1) C h1 hv0 hv4 hn (by decide) (kL6 98 rfl) (kL6 99 rfl) (kL7 0 rfl) (kL7 1 rfl) (kL7 2 rfl) ?_
  refine x_ld (n := 2) C h1 hv0 hv4 hn (by decide) (kL7 3 rfl) (kL7 4 rfl) (kL7 5 rfl) (kL7 6 rfl) (kL7 7 rfl) ?_
  refine x_ld (n := 3) C h1 hv0 hv4 hn (by decide) (kL7 8 rfl) (kL7 9 rfl) (kL7 10 rfl) (kL7 11 rfl) (kL7 12 rfl) ?_
  refine x_callV (t := 40) (o := 0) (As := [.inl (xs (6 * j + 1)), .inl (xs (6 * j + 2)), .inl (xs (6 * j + 3))]) (S := [.inl r]) C.1 h1 iX12_weigh (gdw_of (i := 1902) (by decide +kernel) (by decide +kernel)) ⟨10, TX12, 40, by decide, rfl, rfl⟩ (by decide) (hvI (hvI (hvI hvN))) rfl rfl rfl ⟨Nat.le_of_ble_eq_true rfl, Nat.le_of_ble_eq_true rfl⟩ hk (Nat.le_of_ble_eq_true rfl) hv.1 (CX12_weigh (xs (6 * j + 1)) (xs (6 * j + 2)) (xs (6 * j + 3)) m1) e2 (kL7 13 rfl) (fun H2 locs2 h2 _ => ?_)
  refine lv_icmp_eq (tgt := 1590) C.1.1.1 C.1.1.2.1 (kL7 14 rfl) (by decide) (fun _ => ?_) (fun z => absurd rfl z)
  exact W.widen (Nat.le_succ k) (Nat.le_add_right n 6) (nxt m2 H2 locs2 ls inv2 h2 hv)
set_option maxRecDepth 20000 in
theorem cs_map (C : LwX p s mi c b L xs D ad ca) (hm : Inv m) (h : Hx D ad ca m (aN s) s H locs) (hv : lv_has ls 7 (lvs b ad j)) (hn : 6 * j + 6 ≤ L) (hk : k ≤ 601024 ∧ n ≤ 7293034)
    (nxt : ∀ m2 H2 locs2 ls2, Inv m2 → Hx D ad ca m2 (aN s) s H2 locs2 → lv_has ls2 7 (lvs b ad j) → W p l e room_1 s mi #[.ref b] below meth c H2 locs2 (k + 1) (n + 6) Q (F0 mi 1590 ls2 [])) : W p l e room_1 s mi #[.ref b] below meth c H locs k n Q (F0 mi 1203 ls []) := by
  have hv4 := lv_at hv 0 rfl
  have hv0 := lv_at hv 1 rfl
  have hv1 := lv_at hv 2 rfl
  have hv2 := lv_at hv 3 rfl
  obtain ⟨r, m1, m2, e1, e2, inv2⟩ := k_map (xs (6 * j + 1)) m hm
  refine lv_aload_n C.1.1.1 C.1.1.2.1 (kL7 17 rfl) rfl hv1 ?_
  refine x_ld (n := 1) C h hv0 hv4 hn (by decide) (kL7 18 rfl) (kL7 19 rfl) (kL7 20 rfl) (kL7 21 rfl) (kL7 22 rfl) ?_
  refine x_callV (t := 0) (o := 0) (As := [.inl (xs (6 * j + 1))]) (S := []) C.1 h iX11_map (gdw_of (i := 1182) (by decide +kernel) (by decide +kernel)) ⟨9, TX11, 18, by decide, rfl, rfl⟩ (by decide) (hvI hvN) rfl rfl rfl ⟨Nat.le_of_ble_eq_true rfl, Nat.le_of_ble_eq_true rfl⟩ hk (Nat.zero_le _) hv.1 (CX11_map (xs (6 * j + 1)) m) e1 (kL7 23 rfl) (fun H1 locs1 h1 _ => ?_)
  refine lv_aload_n C.1.1.1 C.1.1.2.1 (kL7 24 rfl) rfl hv2 ?_
  refine x_ld (n := 1) C h1 hv0 hv4 hn (by decide) (kL7 25 rfl) (kL7 26 rfl) (kL7 27 rfl) (kL7 28 rfl) (kL7 29 rfl) ?_
  refine x_callV (t := 40) (o := 0) (As := [.inl (xs (6 * j + 1))]) (S := [.inl r]) C.1 h1 iX12_map (gdw_of (i := 1906) (by decide +kernel) (by decide +kernel)) ⟨10, TX12, 40, by decide, rfl, rfl⟩ (by decide) (hvI hvN) rfl rfl rfl ⟨Nat.le_of_ble_eq_true rfl, Nat.le_of_ble_eq_true rfl⟩ hk (Nat.le_of_ble_eq_true rfl) hv.1 (CX12_map (xs (6 * j + 1)) m1) e2 (kL7 30 rfl) (fun H2 locs2 h2 _ => ?_)
  refine lv_icmp_eq (tgt := 1590) C.1.1.1 C.1.1.2.1 (kL7 31 rfl) (by decide) (fun _ => ?_) (fun z => absurd rfl z)
  exact W.widen (Nat.le_succ k) (Nat.le_add_right n 6) (nxt m2 H2 locs2 ls inv2 h2 hv)
set_option maxRecDepth 20000 in
theorem cs_bears (C : LwX p s mi c b L xs D ad ca) (hm : Inv m) (h : Hx D ad ca m (aN s) s H locs) (hv : lv_has ls 7 (lvs b ad j)) (hn : 6 * j + 6 ≤ L) (hk : k ≤ 601024 ∧ n ≤ 7293034)
    (nxt : ∀ m2 H2 locs2 ls2, Inv m2 → Hx D ad ca m2 (aN s) s H2 locs2 → lv_has ls2 7 (lvs b ad j) → W p l e room_1 s mi #[.ref b] below meth c H2 locs2 (k + 1) (n + 6) Q (F0 mi 1590 ls2 [])) : W p l e room_1 s mi #[.ref b] below meth c H locs k n Q (F0 mi 1228 ls []) := by
  have hv4 := lv_at hv 0 rfl
  have hv0 := lv_at hv 1 rfl
  have hv1 := lv_at hv 2 rfl
  have hv2 := lv_at hv 3 rfl
  obtain ⟨r, m1, m2, e1, e2, inv2⟩ := k_bears (xs (6 * j + 1)) m hm
  refine lv_aload_n C.1.1.1 C.1.1.2.1 (kL7 34 rfl) rfl hv1 ?_
  refine x_ld (n := 1) C h hv0 hv4 hn (by decide) (kL7 35 rfl) (kL7 36 rfl) (kL7 37 rfl) (kL7 38 rfl) (kL7 39 rfl) ?_
  refine x_callV (t := 0) (o := 0) (As := [.inl (xs (6 * j + 1))]) (S := []) C.1 h iX11_bears (gdw_of (i := 1191) (by decide +kernel) (by decide +kernel)) ⟨9, TX11, 18, by decide, rfl, rfl⟩ (by decide) (hvI hvN) rfl rfl rfl ⟨Nat.le_of_ble_eq_true rfl, Nat.le_of_ble_eq_true rfl⟩ hk (Nat.zero_le _) hv.1 (CX11_bears (xs (6 * j + 1)) m) e1 (kL7 40 rfl) (fun H1 locs1 h1 _ => ?_)
  refine lv_aload_n C.1.1.1 C.1.1.2.1 (kL7 41 rfl) rfl hv2 ?_
  refine x_ld (n := 1) C h1 hv0 hv4 hn (by decide) (kL7 42 rfl) (kL7 43 rfl) (kL7 44 rfl) (kL7 45 rfl) (kL7 46 rfl) ?_
  refine x_callV (t := 40) (o := 0) (As := [.inl (xs (6 * j + 1))]) (S := [.inl r]) C.1 h1 iX12_bears (gdw_of (i := 1914) (by decide +kernel) (by decide +kernel)) ⟨10, TX12, 40, by decide, rfl, rfl⟩ (by decide) (hvI hvN) rfl rfl rfl ⟨Nat.le_of_ble_eq_true rfl, Nat.le_of_ble_eq_true rfl⟩ hk (Nat.le_of_ble_eq_true rfl) hv.1 (CX12_bears (xs (6 * j + 1)) m1) e2 (kL7 47 rfl) (fun H2 locs2 h2 _ => ?_)
  refine lv_icmp_eq (tgt := 1590) C.1.1.1 C.1.1.2.1 (kL7 48 rfl) (by decide) (fun _ => ?_) (fun z => absurd rfl z)
  exact W.widen (Nat.le_succ k) (Nat.le_add_right n 6) (nxt m2 H2 locs2 ls inv2 h2 hv)
set_option maxRecDepth 20000 in
theorem cs_burst (C : LwX p s mi c b L xs D ad ca) (hm : Inv m) (h : Hx D ad ca m (aN s) s H locs) (hv : lv_has ls 7 (lvs b ad j)) (hn : 6 * j + 6 ≤ L) (hk : k ≤ 601024 ∧ n ≤ 7293034)
    (nxt : ∀ m2 H2 locs2 ls2, Inv m2 → Hx D ad ca m2 (aN s) s H2 locs2 → lv_has ls2 7 (lvs b ad j) → W p l e room_1 s mi #[.ref b] below meth c H2 locs2 (k + 1) (n + 6) Q (F0 mi 1590 ls2 [])) : W p l e room_1 s mi #[.ref b] below meth c H locs k n Q (F0 mi 1253 ls []) := by
  have hv4 := lv_at hv 0 rfl
  have hv0 := lv_at hv 1 rfl
  have hv1 := lv_at hv 2 rfl
  have hv2 := lv_at hv 3 rfl
  obtain ⟨r, m1, m2, e1, e2, inv2⟩ := k_burst (xs (6 * j + 1)) (xs (6 * j + 2)) m hm
  refine lv_aload_n C.1.1.1 C.1.1.2.1 (kL7 51 rfl) rfl hv1 ?_
  refine x_ld (n := 1) C h hv0 hv4 hn (by decide) (kL7 52 rfl) (kL7 53 rfl) (kL7 54 rfl) (kL7 55 rfl) (kL7 56 rfl) ?_
  refine x_ld (n := 2) C h hv0 hv4 hn (by decide) (kL7 57 rfl) (kL7 58 rfl) (kL7 59 rfl) (kL7 60 rfl) (kL7 61 rfl) ?_
  refine x_callV (t := 0) (o := 0) (As := [.inl (xs (6 * j + 1)), .inl (xs (6 * j + 2))]) (S := []) C.1 h iX11_burst (gdw_of (i := 1200) (by decide +kernel) (by decide +kernel)) ⟨9, TX11, 18, by decide, rfl, rfl⟩ (by decide) (hvI (hvI hvN)) rfl rfl rfl ⟨Nat.le_of_ble_eq_true rfl, Nat.le_of_ble_eq_true rfl⟩ hk (Nat.zero_le _) hv.1 (CX11_burst (xs (6 * j + 1)) (xs (6 * j + 2)) m) e1 (kL7 62 rfl) (fun H1 locs1 h1 _ => ?_)
  refine lv_aload_n C.1.1.1 C.1.1.2.1 (kL7 63 rfl) rfl hv2 ?_
  refine x_ld (n := 1) C h1 hv0 hv4 hn (by decide) (kL7 64 rfl) (kL7 65 rfl) (kL7 66 rfl) (kL7 67 rfl) (kL7 68 rfl) ?_
  refine x_ld (n := 2) C h1 hv0 hv4 hn (by decide) (kL7 69 rfl) (kL7 70 rfl) (kL7 71 rfl) (kL7 72 rfl) (kL7 73 rfl) ?_
  refine x_callV (t := 40) (o := 0) (As := [.inl (xs (6 * j + 1)), .inl (xs (6 * j + 2))]) (S := [.inl r]) C.1 h1 iX12_burst (gdw_of (i := 1918) (by decide +kernel) (by decide +kernel)) ⟨10, TX12, 40, by decide, rfl, rfl⟩ (by decide) (hvI (hvI hvN)) rfl rfl rfl ⟨Nat.le_of_ble_eq_true rfl, Nat.le_of_ble_eq_true rfl⟩ hk (Nat.le_of_ble_eq_true rfl) hv.1 (CX12_burst (xs (6 * j + 1)) (xs (6 * j + 2)) m1) e2 (kL7 74 rfl) (fun H2 locs2 h2 _ => ?_)
  refine lv_icmp_eq (tgt := 1590) C.1.1.1 C.1.1.2.1 (kL7 75 rfl) (by decide) (fun _ => ?_) (fun z => absurd rfl z)
  exact W.widen (Nat.le_succ k) (Nat.le_add_right n 6) (nxt m2 H2 locs2 ls inv2 h2 hv)
set_option maxRecDepth 20000 in
theorem cs_bursts (C : LwX p s mi c b L xs D ad ca) (hm : Inv m) (h : Hx D ad ca m (aN s) s H locs) (hv : lv_has ls 7 (lvs b ad j)) (hn : 6 * j + 6 ≤ L) (hk : k ≤ 601024 ∧ n ≤ 7293034)
    (nxt : ∀ m2 H2 locs2 ls2, Inv m2 → Hx D ad ca m2 (aN s) s H2 locs2 → lv_has ls2 7 (lvs b ad j) → W p l e room_1 s mi #[.ref b] below meth c H2 locs2 (k + 1) (n + 6) Q (F0 mi 1590 ls2 [])) : W p l e room_1 s mi #[.ref b] below meth c H locs k n Q (F0 mi 1290 ls []) := by
  have hv4 := lv_at hv 0 rfl
  have hv0 := lv_at hv 1 rfl
  have hv1 := lv_at hv 2 rfl
  have hv2 := lv_at hv 3 rfl
  obtain ⟨r, m1, m2, e1, e2, inv2⟩ := k_bursts  m hm
  refine lv_aload_n C.1.1.1 C.1.1.2.1 (kL7 78 rfl) rfl hv1 ?_
  refine x_callV (t := 0) (o := 0) (As := []) (S := []) C.1 h iX11_bursts (gdw_of (i := 1245) (by decide +kernel) (by decide +kernel)) ⟨9, TX11, 18, by decide, rfl, rfl⟩ (by decide) hvN rfl rfl rfl ⟨Nat.le_of_ble_eq_true rfl, Nat.le_of_ble_eq_true rfl⟩ hk (Nat.zero_le _) hv.1 (CX11_bursts  m) e1 (kL7 79 rfl) (fun H1 locs1 h1 _ => ?_)
  refine lv_aload_n C.1.1.1 C.1.1.2.1 (kL7 80 rfl) rfl hv2 ?_
  refine x_callV (t := 40) (o := 0) (As := []) (S := [.inl r]) C.1 h1 iX12_bursts (gdw_of (i := 1938) (by decide +kernel) (by decide +kernel)) ⟨10, TX12, 40, by decide, rfl, rfl⟩ (by decide) hvN rfl rfl rfl ⟨Nat.le_of_ble_eq_true rfl, Nat.le_of_ble_eq_true rfl⟩ hk (Nat.le_of_ble_eq_true rfl) hv.1 (CX12_bursts  m1) e2 (kL7 81 rfl) (fun H2 locs2 h2 _ => ?_)
  refine lv_icmp_eq (tgt := 1590) C.1.1.1 C.1.1.2.1 (kL7 82 rfl) (by decide) (fun _ => ?_) (fun z => absurd rfl z)
  exact W.widen (Nat.le_succ k) (Nat.le_add_right n 6) (nxt m2 H2 locs2 ls inv2 h2 hv)
set_option maxRecDepth 20000 in
theorem cs_unrolled (C : LwX p s mi c b L xs D ad ca) (hm : Inv m) (h : Hx D ad ca m (aN s) s H locs) (hv : lv_has ls 7 (lvs b ad j)) (hn : 6 * j + 6 ≤ L) (hk : k ≤ 601024 ∧ n ≤ 7293034)
    (nxt : ∀ m2 H2 locs2 ls2, Inv m2 → Hx D ad ca m2 (aN s) s H2 locs2 → lv_has ls2 7 (lvs b ad j) → W p l e room_1 s mi #[.ref b] below meth c H2 locs2 (k + 1) (n + 6) Q (F0 mi 1590 ls2 [])) : W p l e room_1 s mi #[.ref b] below meth c H locs k n Q (F0 mi 1303 ls []) := by
  have hv4 := lv_at hv 0 rfl
  have hv0 := lv_at hv 1 rfl
  have hv1 := lv_at hv 2 rfl
  have hv2 := lv_at hv 3 rfl
  obtain ⟨r, m1, m2, e1, e2, inv2⟩ := k_unrolled (xs (6 * j + 1)) m hm
  refine lv_aload_n C.1.1.1 C.1.1.2.1 (kL7 85 rfl) rfl hv1 ?_
  refine x_ld (n := 1) C h hv0 hv4 hn (by decide) (kL7 86 rfl) (kL7 87 rfl) (kL7 88 rfl) (kL7 89 rfl) (kL7 90 rfl) ?_
  refine x_callV (t := 0) (o := 0) (As := [.inl (xs (6 * j + 1))]) (S := []) C.1 h iX11_unrolled (gdw_of (i := 1254) (by decide +kernel) (by decide +kernel)) ⟨9, TX11, 18, by decide, rfl, rfl⟩ (by decide) (hvI hvN) rfl rfl rfl ⟨Nat.le_of_ble_eq_true rfl, Nat.le_of_ble_eq_true rfl⟩ hk (Nat.zero_le _) hv.1 (CX11_unrolled (xs (6 * j + 1)) m) e1 (kL7 91 rfl) (fun H1 locs1 h1 _ => ?_)
  refine lv_aload_n C.1.1.1 C.1.1.2.1 (kL7 92 rfl) rfl hv2 ?_
  refine x_ld (n := 1) C h1 hv0 hv4 hn (by decide) (kL7 93 rfl) (kL7 94 rfl) (kL7 95 rfl) (kL7 96 rfl) (kL7 97 rfl) ?_
  refine x_callV (t := 40) (o := 0) (As := [.inl (xs (6 * j + 1))]) (S := [.inl r]) C.1 h1 iX12_unrolled (gdw_of (i := 1942) (by decide +kernel) (by decide +kernel)) ⟨10, TX12, 40, by decide, rfl, rfl⟩ (by decide) (hvI hvN) rfl rfl rfl ⟨Nat.le_of_ble_eq_true rfl, Nat.le_of_ble_eq_true rfl⟩ hk (Nat.le_of_ble_eq_true rfl) hv.1 (CX12_unrolled (xs (6 * j + 1)) m1) e2 (kL7 98 rfl) (fun H2 locs2 h2 _ => ?_)
  refine lv_icmp_eq (tgt := 1590) C.1.1.1 C.1.1.2.1 (kL7 99 rfl) (by decide) (fun _ => ?_) (fun z => absurd rfl z)
  exact W.widen (Nat.le_succ k) (Nat.le_add_right n 6) (nxt m2 H2 locs2 ls inv2 h2 hv)
set_option maxRecDepth 20000 in
theorem cs_improved (C : LwX p s mi c b L xs D ad ca) (hm : Inv m) (h : Hx D ad ca m (aN s) s H locs) (hv : lv_has ls 7 (lvs b ad j)) (hn : 6 * j + 6 ≤ L) (hk : k ≤ 601024 ∧ n ≤ 7293034)
    (nxt : ∀ m2 H2 locs2 ls2, Inv m2 → Hx D ad ca m2 (aN s) s H2 locs2 → lv_has ls2 7 (lvs b ad j) → W p l e room_1 s mi #[.ref b] below meth c H2 locs2 (k + 1) (n + 6) Q (F0 mi 1590 ls2 [])) : W p l e room_1 s mi #[.ref b] below meth c H locs k n Q (F0 mi 1328 ls []) := by
  have hv4 := lv_at hv 0 rfl
  have hv0 := lv_at hv 1 rfl
  have hv1 := lv_at hv 2 rfl
  have hv2 := lv_at hv 3 rfl
  obtain ⟨r, m1, m2, e1, e2, inv2⟩ := k_improved (xs (6 * j + 1)) (xs (6 * j + 2)) m hm
  refine lv_aload_n C.1.1.1 C.1.1.2.1 (kL8 2 rfl) rfl hv1 ?_
  refine x_ld (n := 1) C h hv0 hv4 hn (by decide) (kL8 3 rfl) (kL8 4 rfl) (kL8 5 rfl) (kL8 6 rfl) (kL8 7 rfl) ?_
  refine x_ld (n := 2) C h hv0 hv4 hn (by decide) (kL8 8 rfl) (kL8 9 rfl) (kL8 10 rfl) (kL8 11 rfl) (kL8 12 rfl) ?_
  refine x_callV (t := 0) (o := 0) (As := [.inl (xs (6 * j + 1)), .inl (xs (6 * j + 2))]) (S := []) C.1 h iX11_improved (gdw_of (i := 1264) (by decide +kernel) (by decide +kernel)) ⟨9, TX11, 18, by decide, rfl, rfl⟩ (by decide) (hvI (hvI hvN)) rfl rfl rfl ⟨Nat.le_of_ble_eq_true rfl, Nat.le_of_ble_eq_true rfl⟩ hk (Nat.zero_le _) hv.1 (CX11_improved (xs (6 * j + 1)) (xs (6 * j + 2)) m) e1 (kL8 13 rfl) (fun H1 locs1 h1 _ => ?_)
  refine lv_aload_n C.1.1.1 C.1.1.2.1 (kL8 14 rfl) rfl hv2 ?_
  refine x_ld (n := 1) C h1 hv0 hv4 hn (by decide) (kL8 15 rfl) (kL8 16 rfl) (kL8 17 rfl) (kL8 18 rfl) (kL8 19 rfl) ?_
  refine x_ld (n := 2) C h1 hv0 hv4 hn (by decide) (kL8 20 rfl) (kL8 21 rfl) (kL8 22 rfl) (kL8 23 rfl) (kL8 24 rfl) ?_
  refine x_callV (t := 40) (o := 0) (As := [.inl (xs (6 * j + 1)), .inl (xs (6 * j + 2))]) (S := [.inl r]) C.1 h1 iX12_improved (gdw_of (i := 1946) (by decide +kernel) (by decide +kernel)) ⟨10, TX12, 40, by decide, rfl, rfl⟩ (by decide) (hvI (hvI hvN)) rfl rfl rfl ⟨Nat.le_of_ble_eq_true rfl, Nat.le_of_ble_eq_true rfl⟩ hk (Nat.le_of_ble_eq_true rfl) hv.1 (CX12_improved (xs (6 * j + 1)) (xs (6 * j + 2)) m1) e2 (kL8 25 rfl) (fun H2 locs2 h2 _ => ?_)
  refine lv_icmp_eq (tgt := 1590) C.1.1.1 C.1.1.2.1 (kL8 26 rfl) (by decide) (fun _ => ?_) (fun z => absurd rfl z)
  exact W.widen (Nat.le_succ k) (Nat.le_add_right n 6) (nxt m2 H2 locs2 ls inv2 h2 hv)
set_option maxRecDepth 20000 in
theorem cs_settled (C : LwX p s mi c b L xs D ad ca) (hm : Inv m) (h : Hx D ad ca m (aN s) s H locs) (hv : lv_has ls 7 (lvs b ad j)) (hn : 6 * j + 6 ≤ L) (hk : k ≤ 601024 ∧ n ≤ 7293034)
    (nxt : ∀ m2 H2 locs2 ls2, Inv m2 → Hx D ad ca m2 (aN s) s H2 locs2 → lv_has ls2 7 (lvs b ad j) → W p l e room_1 s mi #[.ref b] below meth c H2 locs2 (k + 1) (n + 6) Q (F0 mi 1590 ls2 [])) : W p l e room_1 s mi #[.ref b] below meth c H locs k n Q (F0 mi 1365 ls []) := by
  have hv4 := lv_at hv 0 rfl
  have hv0 := lv_at hv 1 rfl
  have hv1 := lv_at hv 2 rfl
  have hv2 := lv_at hv 3 rfl
  obtain ⟨r, m1, m2, e1, e2, inv2⟩ := k_settled (xs (6 * j + 1)) m hm
  refine lv_aload_n C.1.1.1 C.1.1.2.1 (kL8 29 rfl) rfl hv1 ?_
  refine x_ld (n := 1) C h hv0 hv4 hn (by decide) (kL8 30 rfl) (kL8 31 rfl) (kL8 32 rfl) (kL8 33 rfl) (kL8 34 rfl) ?_
  refine x_callV (t := 0) (o := 0) (As := [.inl (xs (6 * j + 1))]) (S := []) C.1 h iX11_settled (gdw_of (i := 1272) (by decide +kernel) (by decide +kernel)) ⟨9, TX11, 18, by decide, rfl, rfl⟩ (by decide) (hvI hvN) rfl rfl rfl ⟨Nat.le_of_ble_eq_true rfl, Nat.le_of_ble_eq_true rfl⟩ hk (Nat.zero_le _) hv.1 (CX11_settled (xs (6 * j + 1)) m) e1 (kL8 35 rfl) (fun H1 locs1 h1 _ => ?_)
  refine lv_aload_n C.1.1.1 C.1.1.2.1 (kL8 36 rfl) rfl hv2 ?_
  refine x_ld (n := 1) C h1 hv0 hv4 hn (by decide) (kL8 37 rfl) (kL8 38 rfl) (kL8 39 rfl) (kL8 40 rfl) (kL8 41 rfl) ?_
  refine x_callV (t := 40) (o := 0) (As := [.inl (xs (6 * j + 1))]) (S := [.inl r]) C.1 h1 iX12_settled (gdw_of (i := 1950) (by decide +kernel) (by decide +kernel)) ⟨10, TX12, 40, by decide, rfl, rfl⟩ (by decide) (hvI hvN) rfl rfl rfl ⟨Nat.le_of_ble_eq_true rfl, Nat.le_of_ble_eq_true rfl⟩ hk (Nat.le_of_ble_eq_true rfl) hv.1 (CX12_settled (xs (6 * j + 1)) m1) e2 (kL8 42 rfl) (fun H2 locs2 h2 _ => ?_)
  refine lv_icmp_eq (tgt := 1590) C.1.1.1 C.1.1.2.1 (kL8 43 rfl) (by decide) (fun _ => ?_) (fun z => absurd rfl z)
  exact W.widen (Nat.le_succ k) (Nat.le_add_right n 6) (nxt m2 H2 locs2 ls inv2 h2 hv)
set_option maxRecDepth 20000 in
theorem cs_quickest (C : LwX p s mi c b L xs D ad ca) (hm : Inv m) (h : Hx D ad ca m (aN s) s H locs) (hv : lv_has ls 7 (lvs b ad j)) (hn : 6 * j + 6 ≤ L) (hk : k ≤ 601024 ∧ n ≤ 7293034)
    (nxt : ∀ m2 H2 locs2 ls2, Inv m2 → Hx D ad ca m2 (aN s) s H2 locs2 → lv_has ls2 7 (lvs b ad j) → W p l e room_1 s mi #[.ref b] below meth c H2 locs2 (k + 1) (n + 6) Q (F0 mi 1590 ls2 [])) : W p l e room_1 s mi #[.ref b] below meth c H locs k n Q (F0 mi 1390 ls []) := by
  have hv4 := lv_at hv 0 rfl
  have hv0 := lv_at hv 1 rfl
  have hv1 := lv_at hv 2 rfl
  have hv2 := lv_at hv 3 rfl
  obtain ⟨r, m1, m2, e1, e2, inv2⟩ := k_quickest (xs (6 * j + 1)) m hm
  refine lv_aload_n C.1.1.1 C.1.1.2.1 (kL8 46 rfl) rfl hv1 ?_
  refine x_ld (n := 1) C h hv0 hv4 hn (by decide) (kL8 47 rfl) (kL8 48 rfl) (kL8 49 rfl) (kL8 50 rfl) (kL8 51 rfl) ?_
  refine x_callV (t := 0) (o := 0) (As := [.inl (xs (6 * j + 1))]) (S := []) C.1 h iX11_quickest (gdw_of (i := 1297) (by decide +kernel) (by decide +kernel)) ⟨9, TX11, 18, by decide, rfl, rfl⟩ (by decide) (hvI hvN) rfl rfl rfl ⟨Nat.le_of_ble_eq_true rfl, Nat.le_of_ble_eq_true rfl⟩ hk (Nat.zero_le _) hv.1 (CX11_quickest (xs (6 * j + 1)) m) e1 (kL8 52 rfl) (fun H1 locs1 h1 _ => ?_)
  refine lv_aload_n C.1.1.1 C.1.1.2.1 (kL8 53 rfl) rfl hv2 ?_
  refine x_ld (n := 1) C h1 hv0 hv4 hn (by decide) (kL8 54 rfl) (kL8 55 rfl) (kL8 56 rfl) (kL8 57 rfl) (kL8 58 rfl) ?_
  refine x_callV (t := 40) (o := 0) (As := [.inl (xs (6 * j + 1))]) (S := [.inl r]) C.1 h1 iX12_quickest (gdw_of (i := 1962) (by decide +kernel) (by decide +kernel)) ⟨10, TX12, 40, by decide, rfl, rfl⟩ (by decide) (hvI hvN) rfl rfl rfl ⟨Nat.le_of_ble_eq_true rfl, Nat.le_of_ble_eq_true rfl⟩ hk (Nat.le_of_ble_eq_true rfl) hv.1 (CX12_quickest (xs (6 * j + 1)) m1) e2 (kL8 59 rfl) (fun H2 locs2 h2 _ => ?_)
  refine lv_icmp_eq (tgt := 1590) C.1.1.1 C.1.1.2.1 (kL8 60 rfl) (by decide) (fun _ => ?_) (fun z => absurd rfl z)
  exact W.widen (Nat.le_succ k) (Nat.le_add_right n 6) (nxt m2 H2 locs2 ls inv2 h2 hv)
set_option maxRecDepth 20000 in
theorem cs_coming (C : LwX p s mi c b L xs D ad ca) (hm : Inv m) (h : Hx D ad ca m (aN s) s H locs) (hv : lv_has ls 7 (lvs b ad j)) (hn : 6 * j + 6 ≤ L) (hk : k ≤ 601024 ∧ n ≤ 7293034)
    (nxt : ∀ m2 H2 locs2 ls2, Inv m2 → Hx D ad ca m2 (aN s) s H2 locs2 → lv_has ls2 7 (lvs b ad j) → W p l e room_1 s mi #[.ref b] below meth c H2 locs2 (k + 1) (n + 6) Q (F0 mi 1590 ls2 [])) : W p l e room_1 s mi #[.ref b] below meth c H locs k n Q (F0 mi 1415 ls []) := by
  have hv4 := lv_at hv 0 rfl
  have hv0 := lv_at hv 1 rfl
  have hv1 := lv_at hv 2 rfl
  have hv2 := lv_at hv 3 rfl
  obtain ⟨r, m1, m2, e1, e2, inv2⟩ := k_coming (xs (6 * j + 1)) (xs (6 * j + 2)) m hm
  refine lv_aload_n C.1.1.1 C.1.1.2.1 (kL8 63 rfl) rfl hv1 ?_
  refine x_ld (n := 1) C h hv0 hv4 hn (by decide) (kL8 64 rfl) (kL8 65 rfl) (kL8 66 rfl) (kL8 67 rfl) (kL8 68 rfl) ?_
  refine x_ld (n := 2) C h hv0 hv4 hn (by decide) (kL8 69 rfl) (kL8 70 rfl) (kL8 71 rfl) (kL8 72 rfl) (kL8 73 rfl) ?_
  refine x_callV (t := 0) (o := 0) (As := [.inl (xs (6 * j + 1)), .inl (xs (6 * j + 2))]) (S := []) C.1 h iX11_coming (gdw_of (i := 1305) (by decide +kernel) (by decide +kernel)) ⟨9, TX11, 18, by decide, rfl, rfl⟩ (by decide) (hvI (hvI hvN)) rfl rfl rfl ⟨Nat.le_of_ble_eq_true rfl, Nat.le_of_ble_eq_true rfl⟩ hk (Nat.zero_le _) hv.1 (CX11_coming (xs (6 * j + 1)) (xs (6 * j + 2)) m) e1 (kL8 74 rfl) (fun H1 locs1 h1 _ => ?_)
  refine lv_aload_n C.1.1.1 C.1.1.2.1 (kL8 75 rfl) rfl hv2 ?_
  refine x_ld (n := 1) C h1 hv0 hv4 hn (by decide) (kL8 76 rfl) (kL8 77 rfl) (kL8 78 rfl) (kL8 79 rfl) (kL8 80 rfl) ?_
  refine x_ld (n := 2) C h1 hv0 hv4 hn (by decide) (kL8 81 rfl) (kL8 82 rfl) (kL8 83 rfl) (kL8 84 rfl) (kL8 85 rfl) ?_
  refine x_callV (t := 40) (o := 0) (As := [.inl (xs (6 * j + 1)), .inl (xs (6 * j + 2))]) (S := [.inl r]) C.1 h1 iX12_coming (gdw_of (i := 1966) (by decide +kernel) (by decide +kernel)) ⟨10, TX12, 40, by decide, rfl, rfl⟩ (by decide) (hvI (hvI hvN)) rfl rfl rfl ⟨Nat.le_of_ble_eq_true rfl, Nat.le_of_ble_eq_true rfl⟩ hk (Nat.le_of_ble_eq_true rfl) hv.1 (CX12_coming (xs (6 * j + 1)) (xs (6 * j + 2)) m1) e2 (kL8 86 rfl) (fun H2 locs2 h2 _ => ?_)
  refine lv_icmp_eq (tgt := 1590) C.1.1.1 C.1.1.2.1 (kL8 87 rfl) (by decide) (fun _ => ?_) (fun z => absurd rfl z)
  exact W.widen (Nat.le_succ k) (Nat.le_add_right n 6) (nxt m2 H2 locs2 ls inv2 h2 hv)
set_option maxRecDepth 20000 in
theorem cs_gain (C : LwX p s mi c b L xs D ad ca) (hm : Inv m) (h : Hx D ad ca m (aN s) s H locs) (hv : lv_has ls 7 (lvs b ad j)) (hn : 6 * j + 6 ≤ L) (hk : k ≤ 601024 ∧ n ≤ 7293034)
    (nxt : ∀ m2 H2 locs2 ls2, Inv m2 → Hx D ad ca m2 (aN s) s H2 locs2 → lv_has ls2 7 (lvs b ad j) → W p l e room_1 s mi #[.ref b] below meth c H2 locs2 (k + 1) (n + 6) Q (F0 mi 1590 ls2 [])) : W p l e room_1 s mi #[.ref b] below meth c H locs k n Q (F0 mi 1452 ls []) := by
  have hv4 := lv_at hv 0 rfl
  have hv0 := lv_at hv 1 rfl
  have hv1 := lv_at hv 2 rfl
  have hv2 := lv_at hv 3 rfl
  obtain ⟨r, m1, m2, e1, e2, inv2⟩ := k_gain (xs (6 * j + 1)) m hm
  refine lv_aload_n C.1.1.1 C.1.1.2.1 (kL8 90 rfl) rfl hv1 ?_
  refine x_ld (n := 1) C h hv0 hv4 hn (by decide) (kL8 91 rfl) (kL8 92 rfl) (kL8 93 rfl) (kL8 94 rfl) (kL8 95 rfl) ?_
  refine x_callV (t := 0) (o := 0) (As := [.inl (xs (6 * j + 1))]) (S := []) C.1 h iX11_gain (gdw_of (i := 1310) (by decide +kernel) (by decide +kernel)) ⟨9, TX11, 18, by decide, rfl, rfl⟩ (by decide) (hvI hvN) rfl rfl rfl ⟨Nat.le_of_ble_eq_true rfl, Nat.le_of_ble_eq_true rfl⟩ hk (Nat.zero_le _) hv.1 (CX11_gain (xs (6 * j + 1)) m) e1 (kL8 96 rfl) (fun H1 locs1 h1 _ => ?_)
  refine lv_aload_n C.1.1.1 C.1.1.2.1 (kL8 97 rfl) rfl hv2 ?_
  refine x_ld (n := 1) C h1 hv0 hv4 hn (by decide) (kL8 98 rfl) (kL8 99 rfl) (kL9 0 rfl) (kL9 1 rfl) (kL9 2 rfl) ?_
  refine x_callV (t := 40) (o := 0) (As := [.inl (xs (6 * j + 1))]) (S := [.inl r]) C.1 h1 iX12_gain (gdw_of (i := 1970) (by decide +kernel) (by decide +kernel)) ⟨10, TX12, 40, by decide, rfl, rfl⟩ (by decide) (hvI hvN) rfl rfl rfl ⟨Nat.le_of_ble_eq_true rfl, Nat.le_of_ble_eq_true rfl⟩ hk (Nat.le_of_ble_eq_true rfl) hv.1 (CX12_gain (xs (6 * j + 1)) m1) e2 (kL9 3 rfl) (fun H2 locs2 h2 _ => ?_)
  refine lv_icmp_eq (tgt := 1590) C.1.1.1 C.1.1.2.1 (kL9 4 rfl) (by decide) (fun _ => ?_) (fun z => absurd rfl z)
  exact W.widen (Nat.le_succ k) (Nat.le_add_right n 6) (nxt m2 H2 locs2 ls inv2 h2 hv)
set_option maxRecDepth 20000 in
theorem cs_worst (C : LwX p s mi c b L xs D ad ca) (hm : Inv m) (h : Hx D ad ca m (aN s) s H locs) (hv : lv_has ls 7 (lvs b ad j)) (hn : 6 * j + 6 ≤ L) (hk : k ≤ 601024 ∧ n ≤ 7293034)
    (nxt : ∀ m2 H2 locs2 ls2, Inv m2 → Hx D ad ca m2 (aN s) s H2 locs2 → lv_has ls2 7 (lvs b ad j) → W p l e room_1 s mi #[.ref b] below meth c H2 locs2 (k + 1) (n + 6) Q (F0 mi 1590 ls2 [])) : W p l e room_1 s mi #[.ref b] below meth c H locs k n Q (F0 mi 1477 ls []) := by
  have hv4 := lv_at hv 0 rfl
  have hv0 := lv_at hv 1 rfl
  have hv1 := lv_at hv 2 rfl
  have hv2 := lv_at hv 3 rfl
  obtain ⟨r, m1, m2, e1, e2, inv2⟩ := k_worst (xs (6 * j + 1)) (xs (6 * j + 2)) m hm
  refine lv_aload_n C.1.1.1 C.1.1.2.1 (kL9 7 rfl) rfl hv1 ?_
  refine x_ld (n := 1) C h hv0 hv4 hn (by decide) (kL9 8 rfl) (kL9 9 rfl) (kL9 10 rfl) (kL9 11 rfl) (kL9 12 rfl) ?_
  refine x_ld (n := 2) C h hv0 hv4 hn (by decide) (kL9 13 rfl) (kL9 14 rfl) (kL9 15 rfl) (kL9 16 rfl) (kL9 17 rfl) ?_
  refine x_callV (t := 0) (o := 0) (As := [.inl (xs (6 * j + 1)), .inl (xs (6 * j + 2))]) (S := []) C.1 h iX11_worst (gdw_of (i := 1319) (by decide +kernel) (by decide +kernel)) ⟨9, TX11, 18, by decide, rfl, rfl⟩ (by decide) (hvI (hvI hvN)) rfl rfl rfl ⟨Nat.le_of_ble_eq_true rfl, Nat.le_of_ble_eq_true rfl⟩ hk (Nat.zero_le _) hv.1 (CX11_worst (xs (6 * j + 1)) (xs (6 * j + 2)) m) e1 (kL9 18 rfl) (fun H1 locs1 h1 _ => ?_)
  refine lv_aload_n C.1.1.1 C.1.1.2.1 (kL9 19 rfl) rfl hv2 ?_
  refine x_ld (n := 1) C h1 hv0 hv4 hn (by decide) (kL9 20 rfl) (kL9 21 rfl) (kL9 22 rfl) (kL9 23 rfl) (kL9 24 rfl) ?_
  refine x_ld (n := 2) C h1 hv0 hv4 hn (by decide) (kL9 25 rfl) (kL9 26 rfl) (kL9 27 rfl) (kL9 28 rfl) (kL9 29 rfl) ?_
  refine x_callV (t := 40) (o := 0) (As := [.inl (xs (6 * j + 1)), .inl (xs (6 * j + 2))]) (S := [.inl r]) C.1 h1 iX12_worst (gdw_of (i := 1978) (by decide +kernel) (by decide +kernel)) ⟨10, TX12, 40, by decide, rfl, rfl⟩ (by decide) (hvI (hvI hvN)) rfl rfl rfl ⟨Nat.le_of_ble_eq_true rfl, Nat.le_of_ble_eq_true rfl⟩ hk (Nat.le_of_ble_eq_true rfl) hv.1 (CX12_worst (xs (6 * j + 1)) (xs (6 * j + 2)) m1) e2 (kL9 30 rfl) (fun H2 locs2 h2 _ => ?_)
  refine lv_icmp_eq (tgt := 1590) C.1.1.1 C.1.1.2.1 (kL9 31 rfl) (by decide) (fun _ => ?_) (fun z => absurd rfl z)
  exact W.widen (Nat.le_succ k) (Nat.le_add_right n 6) (nxt m2 H2 locs2 ls inv2 h2 hv)
set_option maxRecDepth 20000 in
theorem cs_odds (C : LwX p s mi c b L xs D ad ca) (hm : Inv m) (h : Hx D ad ca m (aN s) s H locs) (hv : lv_has ls 7 (lvs b ad j)) (hn : 6 * j + 6 ≤ L) (hk : k ≤ 601024 ∧ n ≤ 7293034)
    (nxt : ∀ m2 H2 locs2 ls2, Inv m2 → Hx D ad ca m2 (aN s) s H2 locs2 → lv_has ls2 7 (lvs b ad j) → W p l e room_1 s mi #[.ref b] below meth c H2 locs2 (k + 1) (n + 6) Q (F0 mi 1590 ls2 [])) : W p l e room_1 s mi #[.ref b] below meth c H locs k n Q (F0 mi 1514 ls []) := by
  have hv4 := lv_at hv 0 rfl
  have hv0 := lv_at hv 1 rfl
  have hv1 := lv_at hv 2 rfl
  have hv2 := lv_at hv 3 rfl
  obtain ⟨r, m1, m2, e1, e2, inv2⟩ := k_odds (xs (6 * j + 1)) m hm
  refine lv_aload_n C.1.1.1 C.1.1.2.1 (kL9 34 rfl) rfl hv1 ?_
  refine x_ld (n := 1) C h hv0 hv4 hn (by decide) (kL9 35 rfl) (kL9 36 rfl) (kL9 37 rfl) (kL9 38 rfl) (kL9 39 rfl) ?_
  refine x_callV (t := 0) (o := 0) (As := [.inl (xs (6 * j + 1))]) (S := []) C.1 h iX11_odds (gdw_of (i := 1327) (by decide +kernel) (by decide +kernel)) ⟨9, TX11, 18, by decide, rfl, rfl⟩ (by decide) (hvI hvN) rfl rfl rfl ⟨Nat.le_of_ble_eq_true rfl, Nat.le_of_ble_eq_true rfl⟩ hk (Nat.zero_le _) hv.1 (CX11_odds (xs (6 * j + 1)) m) e1 (kL9 40 rfl) (fun H1 locs1 h1 _ => ?_)
  refine lv_aload_n C.1.1.1 C.1.1.2.1 (kL9 41 rfl) rfl hv2 ?_
  refine x_ld (n := 1) C h1 hv0 hv4 hn (by decide) (kL9 42 rfl) (kL9 43 rfl) (kL9 44 rfl) (kL9 45 rfl) (kL9 46 rfl) ?_
  refine x_callV (t := 40) (o := 0) (As := [.inl (xs (6 * j + 1))]) (S := [.inl r]) C.1 h1 iX12_odds (gdw_of (i := 1986) (by decide +kernel) (by decide +kernel)) ⟨10, TX12, 40, by decide, rfl, rfl⟩ (by decide) (hvI hvN) rfl rfl rfl ⟨Nat.le_of_ble_eq_true rfl, Nat.le_of_ble_eq_true rfl⟩ hk (Nat.le_of_ble_eq_true rfl) hv.1 (CX12_odds (xs (6 * j + 1)) m1) e2 (kL9 47 rfl) (fun H2 locs2 h2 _ => ?_)
  refine lv_icmp_eq (tgt := 1590) C.1.1.1 C.1.1.2.1 (kL9 48 rfl) (by decide) (fun _ => ?_) (fun z => absurd rfl z)
  exact W.widen (Nat.le_succ k) (Nat.le_add_right n 6) (nxt m2 H2 locs2 ls inv2 h2 hv)
set_option maxRecDepth 20000 in
theorem cs_image (C : LwX p s mi c b L xs D ad ca) (hm : Inv m) (h : Hx D ad ca m (aN s) s H locs) (hv : lv_has ls 7 (lvs b ad j)) (hn : 6 * j + 6 ≤ L) (hk : k ≤ 601024 ∧ n ≤ 7293034)
    (nxt : ∀ m2 H2 locs2 ls2, Inv m2 → Hx D ad ca m2 (aN s) s H2 locs2 → lv_has ls2 7 (lvs b ad j) → W p l e room_1 s mi #[.ref b] below meth c H2 locs2 (k + 1) (n + 6) Q (F0 mi 1590 ls2 [])) : W p l e room_1 s mi #[.ref b] below meth c H locs k n Q (F0 mi 1539 ls []) := by
  have hv4 := lv_at hv 0 rfl
  have hv0 := lv_at hv 1 rfl
  have hv1 := lv_at hv 2 rfl
  have hv2 := lv_at hv 3 rfl
  obtain ⟨r, m1, m2, e1, e2, inv2⟩ := k_image  m hm
  refine lv_aload_n C.1.1.1 C.1.1.2.1 (kL9 51 rfl) rfl hv1 ?_
  refine x_callV (t := 0) (o := 0) (As := []) (S := []) C.1 h iX11_image (gdw_of (i := 1103) (by decide +kernel) (by decide +kernel)) ⟨9, TX11, 18, by decide, rfl, rfl⟩ (by decide) hvN rfl rfl rfl ⟨Nat.le_of_ble_eq_true rfl, Nat.le_of_ble_eq_true rfl⟩ hk (Nat.zero_le _) hv.1 (CX11_image  m) e1 (kL9 52 rfl) (fun H1 locs1 h1 _ => ?_)
  refine lv_aload_n C.1.1.1 C.1.1.2.1 (kL9 53 rfl) rfl hv2 ?_
  refine x_callV (t := 40) (o := 0) (As := []) (S := [.inl r]) C.1 h1 iX12_image (gdw_of (i := 1994) (by decide +kernel) (by decide +kernel)) ⟨10, TX12, 40, by decide, rfl, rfl⟩ (by decide) hvN rfl rfl rfl ⟨Nat.le_of_ble_eq_true rfl, Nat.le_of_ble_eq_true rfl⟩ hk (Nat.le_of_ble_eq_true rfl) hv.1 (CX12_image  m1) e2 (kL9 54 rfl) (fun H2 locs2 h2 _ => ?_)
  refine lv_icmp_eq (tgt := 1590) C.1.1.1 C.1.1.2.1 (kL9 55 rfl) (by decide) (fun _ => ?_) (fun z => absurd rfl z)
  exact W.widen (Nat.le_succ k) (Nat.le_add_right n 6) (nxt m2 H2 locs2 ls inv2 h2 hv)
set_option maxRecDepth 20000 in
theorem cs_back (C : LwX p s mi c b L xs D ad ca) (hm : Inv m) (h : Hx D ad ca m (aN s) s H locs) (hv : lv_has ls 7 (lvs b ad j)) (hn : 6 * j + 6 ≤ L) (hk : k ≤ 601024 ∧ n ≤ 7293034)
    (nxt : ∀ m2 H2 locs2 ls2, Inv m2 → Hx D ad ca m2 (aN s) s H2 locs2 → lv_has ls2 7 (lvs b ad j) → W p l e room_1 s mi #[.ref b] below meth c H2 locs2 (k + 1) (n + 6) Q (F0 mi 1590 ls2 [])) : W p l e room_1 s mi #[.ref b] below meth c H locs k n Q (F0 mi 1552 ls []) := by
  have hv4 := lv_at hv 0 rfl
  have hv0 := lv_at hv 1 rfl
  have hv1 := lv_at hv 2 rfl
  have hv2 := lv_at hv 3 rfl
  obtain ⟨r, m1, m2, e1, e2, inv2⟩ := k_back  m hm
  refine lv_aload_n C.1.1.1 C.1.1.2.1 (kL9 58 rfl) rfl hv1 ?_
  refine x_callV (t := 0) (o := 0) (As := []) (S := []) C.1 h iX11_back (gdw_of (i := 1111) (by decide +kernel) (by decide +kernel)) ⟨9, TX11, 18, by decide, rfl, rfl⟩ (by decide) hvN rfl rfl rfl ⟨Nat.le_of_ble_eq_true rfl, Nat.le_of_ble_eq_true rfl⟩ hk (Nat.zero_le _) hv.1 (CX11_back  m) e1 (kL9 59 rfl) (fun H1 locs1 h1 _ => ?_)
  refine lv_aload_n C.1.1.1 C.1.1.2.1 (kL9 60 rfl) rfl hv2 ?_
  refine x_callV (t := 40) (o := 0) (As := []) (S := [.inl r]) C.1 h1 iX12_back (gdw_of (i := 1998) (by decide +kernel) (by decide +kernel)) ⟨10, TX12, 40, by decide, rfl, rfl⟩ (by decide) hvN rfl rfl rfl ⟨Nat.le_of_ble_eq_true rfl, Nat.le_of_ble_eq_true rfl⟩ hk (Nat.le_of_ble_eq_true rfl) hv.1 (CX12_back  m1) e2 (kL9 61 rfl) (fun H2 locs2 h2 _ => ?_)
  refine lv_icmp_eq (tgt := 1590) C.1.1.1 C.1.1.2.1 (kL9 62 rfl) (by decide) (fun _ => ?_) (fun z => absurd rfl z)
  exact W.widen (Nat.le_succ k) (Nat.le_add_right n 6) (nxt m2 H2 locs2 ls inv2 h2 hv)
set_option maxRecDepth 20000 in
theorem cs_count (C : LwX p s mi c b L xs D ad ca) (hm : Inv m) (h : Hx D ad ca m (aN s) s H locs) (hv : lv_has ls 7 (lvs b ad j)) (hn : 6 * j + 6 ≤ L) (hk : k ≤ 601024 ∧ n ≤ 7293034)
    (nxt : ∀ m2 H2 locs2 ls2, Inv m2 → Hx D ad ca m2 (aN s) s H2 locs2 → lv_has ls2 7 (lvs b ad j) → W p l e room_1 s mi #[.ref b] below meth c H2 locs2 (k + 1) (n + 6) Q (F0 mi 1590 ls2 [])) : W p l e room_1 s mi #[.ref b] below meth c H locs k n Q (F0 mi 1565 ls []) := by
  have hv4 := lv_at hv 0 rfl
  have hv0 := lv_at hv 1 rfl
  have hv1 := lv_at hv 2 rfl
  have hv2 := lv_at hv 3 rfl
  obtain ⟨r, m1, m2, e1, e2, inv2⟩ := k_count (xs (6 * j + 1)) m hm
  refine lv_aload_n C.1.1.1 C.1.1.2.1 (kL9 65 rfl) rfl hv1 ?_
  refine x_ld (n := 1) C h hv0 hv4 hn (by decide) (kL9 66 rfl) (kL9 67 rfl) (kL9 68 rfl) (kL9 69 rfl) (kL9 70 rfl) ?_
  refine x_callV (t := 0) (o := 0) (As := [.inl (xs (6 * j + 1))]) (S := []) C.1 h iX11_count (gdw_of (i := 812) (by decide +kernel) (by decide +kernel)) ⟨9, TX11, 18, by decide, rfl, rfl⟩ (by decide) (hvI hvN) rfl rfl rfl ⟨Nat.le_of_ble_eq_true rfl, Nat.le_of_ble_eq_true rfl⟩ hk (Nat.zero_le _) hv.1 (CX11_count (xs (6 * j + 1)) m) e1 (kL9 71 rfl) (fun H1 locs1 h1 _ => ?_)
  refine lv_aload_n C.1.1.1 C.1.1.2.1 (kL9 72 rfl) rfl hv2 ?_
  refine x_ld (n := 1) C h1 hv0 hv4 hn (by decide) (kL9 73 rfl) (kL9 74 rfl) (kL9 75 rfl) (kL9 76 rfl) (kL9 77 rfl) ?_
  refine x_callV (t := 40) (o := 0) (As := [.inl (xs (6 * j + 1))]) (S := [.inl r]) C.1 h1 iX12_count (gdw_of (i := 2002) (by decide +kernel) (by decide +kernel)) ⟨10, TX12, 40, by decide, rfl, rfl⟩ (by decide) (hvI hvN) rfl rfl rfl ⟨Nat.le_of_ble_eq_true rfl, Nat.le_of_ble_eq_true rfl⟩ hk (Nat.le_of_ble_eq_true rfl) hv.1 (CX12_count (xs (6 * j + 1)) m1) e2 (kL9 78 rfl) (fun H2 locs2 h2 _ => ?_)
  refine lv_icmp_eq (tgt := 1590) C.1.1.1 C.1.1.2.1 (kL9 79 rfl) (by decide) (fun _ => ?_) (fun z => absurd rfl z)
  exact W.widen (Nat.le_succ k) (Nat.le_add_right n 6) (nxt m2 H2 locs2 ls inv2 h2 hv)
end
