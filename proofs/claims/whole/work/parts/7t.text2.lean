/-! text: a line or a script is taken -/
theorem aal_n {t j : Nat} {i : Int32} {k : Nat → hR} (hi : i = nI j) (ht : raOK t = true) (hj : j < sLen t 0) : aal t i k = k j := by
  subst hi
  have h1 : j < 2 ^ 31 := Nat.lt_of_lt_of_le hj (Nat.le_trans (sLen_le t 0) (by decide))
  unfold aal
  rw [if_pos ⟨ht, inb_nI hj (sLen_le t 0)⟩, nI_clamp h1]
theorem CLV_b {f g h : Nat → Int32} {P W : Nat} (v : CLV f g h P W) : bw (f 1) 1 3 ∧ bw (f 2) 0 3 ∧ bw (f 3) 0 2 ∧ bw (f 4) 1 99 ∧ bw (f 5) 1 9 ∧ bw (f 7) 0 4 := by
  have q := v.2.2
  refine ⟨?_, ?_, ?_, ?_, ?_, ?_⟩
  · have := q 1 (by decide) (by decide); rw [show (ck_low.getD 1 0).toInt = 1 by decide, show (ck_high.getD 1 0).toInt = 3 by decide] at this; exact this
  · have := q 2 (by decide) (by decide); rw [show (ck_low.getD 2 0).toInt = 0 by decide, show (ck_high.getD 2 0).toInt = 3 by decide] at this; exact this
  · have := q 3 (by decide) (by decide); rw [show (ck_low.getD 3 0).toInt = 0 by decide, show (ck_high.getD 3 0).toInt = 2 by decide] at this; exact this
  · have := q 4 (by decide) (by decide); rw [show (ck_low.getD 4 0).toInt = 1 by decide, show (ck_high.getD 4 0).toInt = 99 by decide] at this; exact this
  · have := q 5 (by decide) (by decide); rw [show (ck_low.getD 5 0).toInt = 1 by decide, show (ck_high.getD 5 0).toInt = 9 by decide] at this; exact this
  · have := q 7 (by decide) (by decide); rw [show (ck_low.getD 7 0).toInt = 0 by decide, show (ck_high.getD 7 0).toInt = 4 by decide] at this; exact this
theorem rw0_v {f g h : Nat → Int32} {P W B : Nat} (v : CLV f g h P W) : VW B (rw0 f) 0 := by
  obtain ⟨b1, b2, b3, b4, b5, b7⟩ := CLV_b v
  have z1 : bw 0 0 1 := by unfold bw; decide
  have z3 : bw 0 0 3 := by unfold bw; decide
  refine ⟨fun i hi => ?_, b4, z3, z1, z1, b7, z1, ⟨0, rfl, by omega⟩, rfl⟩
  unfold rw0
  by_cases e : i = 0
  · rw [if_pos e]; unfold bw; decide
  · rw [if_neg e, if_neg (by omega), if_neg (by omega), if_neg (by omega), if_neg (by omega)]; unfold bw; decide
theorem VW_e {B t : Nat} {w v : Nat → Int32} (h : ∀ c, c < 232 → w c = v c) (q : VW B v t) : VW B w t := by
  obtain ⟨q1, q2, q3, q4, q5, q6, q7, q8, q9⟩ := q
  refine ⟨fun i hi => by rw [h i (by omega)]; exact q1 i hi, ?_, ?_, ?_, ?_, ?_, ?_, ?_, ?_⟩
  · rw [h 12 (by decide)]; exact q2
  · rw [h 14 (by decide)]; exact q3
  · rw [h 16 (by decide)]; exact q4
  · rw [h 17 (by decide)]; exact q5
  · rw [h 20 (by decide)]; exact q6
  · rw [h 22 (by decide)]; exact q7
  · rw [h 30 (by decide)]; exact q8
  · rw [h 18 (by decide)]; exact q9
theorem i_s40 {m : hM} (hm : Inv m) : ∃ s, s < 40 ∧ m.1 0 0 15 = nI s := by
  rcases hm.2.1 with h | h
  · exact h.2.2.2.2.2.2.2.2
  · obtain ⟨F, B, D, P, W, t, _, _, _, _, p, _⟩ := h.2
    obtain ⟨c, s, tt, _, _, p3, _, p5, _⟩ := p
    exact ⟨s, p5, p3⟩
/-- a line is taken -/
theorem take_i {m N : hM} {f g h : Nat → Int32} {P W : Nat} (hm : Inv m) (v : CLV f g h P W) (p1 : 1 ≤ P)
    (fr : ∀ a b c, ¬ (a = 1 ∨ (3 ≤ a ∧ a ≤ 7) ∨ (12 ≤ a ∧ a ≤ 19) ∨ (a = 0 ∧ (c = 12 ∨ c = 13 ∨ c = 16)) ∨ (a = 40 ∧ (c = 2 ∨ c = 3 ∨ c = 4 ∨ c = 5 ∨ c = 6 ∨ c = 7 ∨ c = 15 ∨ c = 22 ∨ c = 28 ∨ c = 39)) ∨ (42 ≤ a ∧ a ≤ 47) ∨ a = 50) → N.1 a b c = m.1 a b c)
    (l1 : N.1 1 0 4 = 0) (l2 : N.1 40 0 2 = 0) (c5 : ∀ k, k < 13 → N.1 5 0 k = f k) (c6 : ∀ j, j < P → N.1 6 0 j = g j) (c7 : ∀ j, j < W → N.1 7 0 j = h j)
    (c45 : ∀ k, k < 13 → N.1 45 0 k = f k) (c46 : ∀ j, j < P → N.1 46 0 j = g j) (c47 : ∀ j, j < W → N.1 47 0 j = h j)
    (d1 : N.1 0 0 12 = 1) (d2 : N.1 0 0 13 = 0) (d3 : N.1 0 0 16 = 0) (d4 : N.1 40 0 15 = 1) (d5 : N.1 40 0 28 = 0) (d6 : N.1 40 0 39 = 0) (d7 : N.1 40 0 22 = f 5)
    (e1 : Eq9 (vec N 40) (rw0 f)) (e2 : vec N 40 1088 = f 5) (e3 : N.2 12 40 17 = 0) (e4 : ∀ c, c < 232 → N.1 50 0 c = rw0 f c) : Inv N := by
  obtain ⟨b1, b2, b3, b4, b5, b7⟩ := CLV_b v
  obtain ⟨F, f1, f2⟩ := bw_n (n := 3) (a := f 1) ⟨by have := b1.1; omega, b1.2⟩
  obtain ⟨B, g1, g2⟩ := bw_n (n := 3) (a := f 2) b2
  obtain ⟨D, h1, h2⟩ := bw_n (n := 2) (a := f 3) b3
  have F1 : 1 ≤ F := by
    have := b1.1
    rw [f2, nI_toInt (by omega)] at this
    omega
  obtain ⟨s, s1, s2⟩ := i_s40 hm
  have g5 : N.1 5 0 5 = f 5 := c5 5 (by decide)
  refine ⟨d1.trans d4.symm, Or.inr ⟨d1, F, B, D, P, W, 0, ⟨⟨?_, ?_, ?_, ?_, ?_, F1, f1, g1, h1, v.1.1, v.2.1.1⟩, ⟨fun j hj => ?_, fun j hj => ?_, fun j hj => ?_⟩, fun j hj => ?_⟩, ⟨p1, fun j hj => ?_, ?_⟩, ?_, ⟨⟨fun k hk => ?_, ?_, VW_e e4 (rw0_v v), ?_, by decide⟩, ⟨?_, fun j hj => ?_⟩, by decide⟩, ⟨0, s, fun _ => 0, ?_, ?_, ?_, by decide, s1, rfl, fun j hj => ?_, fun j hj => ?_⟩, ⟨?_, ?_, fun z => ?_⟩⟩, IS_same (fun a b c z => fr a b c ?_) hm.2.2.1, ⟨0, by decide, l1, l2, fun i hi => ?_⟩, IR_same (fun a b c z => fr a b c ?_) hm.2.2.2.2⟩
  · rw [c5 0 (by decide)]; exact v.1.2.1
  · rw [c5 1 (by decide)]; exact f2
  · rw [c5 2 (by decide)]; exact g2
  · rw [c5 3 (by decide)]; exact h2
  · rw [c5 12 (by decide)]; exact v.2.1.2.1
  · rw [c45 j hj, c5 j hj]
  · rw [c46 j hj, c6 j hj]
  · rw [c47 j hj, c7 j hj]
  · rw [c7 j hj]; exact bw_01 (v.2.1.2.2 j hj)
  · rw [c6 j hj]; exact v.1.2.2 j hj
  · rw [g5]; exact b5
  · rw [d7, g5]
  · rw [e1 k hk, e4 k (by omega)]
  · rw [e3, e4 49 (by decide), e4 50 (by decide)]; show (0 : Int64) = jn 0 0; decide +kernel
  · rw [g5]; exact e2
  · rw [e4 51 (by decide)]; rfl
  · exact absurd hj (by omega)
  · exact d3
  · exact d5
  · rw [fr 0 0 15 (by decide)]; exact s2
  · exact absurd hj (by omega)
  · exact absurd hj (by omega)
  · rw [d2, d6]
  · exact Or.inl d2
  · rw [d2] at z; exact absurd z (by decide)
  · unfold nsC at z; omega
  · exact absurd hi (by omega)
  · unfold nsR at z; omega
theorem k_text0 : Ok1 (JX11_text 0) (JX12_text 0) := fun m hm => by
  obtain ⟨l, hl, hb, hc, hr⟩ := txt hm
  unfold JX11_text JX11_takeLine JX12_text
  rw [if_pos rfl]
  rcases line hb hl with ⟨s, x1, x2, x3⟩ | ⟨f, g, h, P, W, x1, x2, x3, x4⟩
  · obtain ⟨M1, b1, b2⟩ := x2 m hc
    obtain ⟨N, c1, c2⟩ := x3 M1 (RTx_c b1 hr)
    refine ⟨-1, M1, N, ?_, ?_, Inv_same (Same_f b1 c1) hm⟩
    · rw [b2, calI_s, if_neg (nI_m9 (by omega)), calI_s]
    · rw [if_pos rfl, c2, calI_s, if_neg (nI_m9 (by omega))]
      unfold JX12_text_22
      rw [if_neg (by decide)]
  · obtain ⟨M1, a1, a2, a3⟩ := x3 m hc
    obtain ⟨M2, b1, b2, b3, b4, b5, b6⟩ := c_copyL M1
    have t2 : M2.1 1 0 4 = nI l := by rw [b1 1 0 4 (by decide), a1.1 1 0 4 (by decide)]; exact hc.1
    obtain ⟨M4, d1, d2, d3, d4, d5, d6⟩ := c_begin (M := uI M2 1 0 4 0) (f := f) (fun k hk => by rw [uI_o (by decide), b3 k hk]; exact a2.1 k hk)
    have fr5 : ∀ a b c, ¬ (a = 1 ∨ (3 ≤ a ∧ a ≤ 7) ∨ (12 ≤ a ∧ a ≤ 19) ∨ (a = 0 ∧ (c = 12 ∨ c = 13 ∨ c = 16))) → (uI (uI (uI M4 0 0 12 1) 0 0 13 0) 0 0 16 0).1 a b c = m.1 a b c := fun a b c q => by
      rw [uI_x (by omega), uI_x (by omega), uI_x (by omega), d1 a b c (by omega), uI_x (by omega), b1 a b c (by omega), a1.1 a b c (by omega)]
    have q5 : ∀ k, k < 13 → (uI (uI (uI M4 0 0 12 1) 0 0 13 0) 0 0 16 0).1 5 0 k = f k := fun k hk => by
      rw [uI_o (by decide), uI_o (by decide), uI_o (by decide), d1 5 0 k (by omega), uI_o (by decide), b3 k hk]; exact a2.1 k hk
    obtain ⟨N1, n1, n2, n3⟩ := x4 (uI (uI (uI M4 0 0 12 1) 0 0 13 0) 0 0 16 0) ⟨by rw [fr5 40 0 2 (by decide)]; exact hr.1, hl, fun i hi => by rw [fr5 41 0 i (by omega)]; exact hr.2.2 i hi⟩
    obtain ⟨N3, o1, o2, o3, o4, o5, o6, o7, o8, o9, o10⟩ := m_take (N := uI N1 40 0 2 0) (f := f) (fun k hk => by rw [uI_o (by decide)]; exact n2.1 k hk)
    have ff : ∀ a b c, ¬ ((a = 40 ∧ (c = 2 ∨ c = 3 ∨ c = 4 ∨ c = 5 ∨ c = 6 ∨ c = 7 ∨ c = 15 ∨ c = 22 ∨ c = 28 ∨ c = 39)) ∨ (42 ≤ a ∧ a ≤ 47) ∨ a = 50) → N3.1 a b c = (uI (uI (uI M4 0 0 12 1) 0 0 13 0) 0 0 16 0).1 a b c := fun a b c q => by
      rw [o1 a b c (by omega), uI_x (by omega), n1.1 a b c (by omega)]
    have P16 := x1.1.1
    have W16 := x1.2.1.1
    refine ⟨f 1 + f 2, uI (uI (uI M4 0 0 12 1) 0 0 13 0) 0 0 16 0, N3, ?_, ?_, take_i hm x1 x2 (fun a b c q => (ff a b c (by omega)).trans (fr5 a b c (by omega))) ?_ ?_ ?_ ?_ ?_ o4 ?_ ?_ ?_ ?_ ?_ o3 o8 o9 o7 ?_ ?_ ?_ o6⟩
    · rw [a3, calI_s, if_pos rfl, b6, calV_s, c_cut hl t2, calI_s, d6, calV_s, stZ_1, stZ_0, stI_s]
      unfold JX4_allTaps
      rw [ald_n (i := 1) (t := 5) (n := 0) 1 rfl (by decide) (by decide), ald_n (i := 2) (t := 5) (n := 0) 2 rfl (by decide) (by decide), q5 1 (by decide), q5 2 (by decide), calI_s, calI_s]
    · rw [if_pos rfl, n3, calI_s, if_pos rfl, stI_s, o10, calI_s]
    · rw [ff 1 0 4 (by decide), uI_o (by decide), uI_o (by decide), uI_o (by decide), d1 1 0 4 (by decide), uI_s]
    · rw [o1 40 0 2 (by decide), uI_s]
    · exact fun k hk => by rw [ff 5 0 k (by omega)]; exact q5 k hk
    · exact fun j hj => by rw [ff 6 0 j (by omega), uI_o (by decide), uI_o (by decide), uI_o (by decide), d1 6 0 j (by omega), uI_o (by decide), b4 j (by omega)]; exact a2.2.1 j hj
    · exact fun j hj => by rw [ff 7 0 j (by omega), uI_o (by decide), uI_o (by decide), uI_o (by decide), d1 7 0 j (by omega), uI_o (by decide), b5 j (by omega)]; exact a2.2.2 j hj
    · exact fun j hj => by rw [(o5 j (by omega)).1, uI_o (by decide)]; exact n2.2.1 j hj
    · exact fun j hj => by rw [(o5 j (by omega)).2, uI_o (by decide)]; exact n2.2.2 j hj
    · rw [ff 0 0 12 (by decide), uI_n (by decide), uI_n (by decide), uI_s]
    · rw [ff 0 0 13 (by decide), uI_n (by decide), uI_s]
    · rw [ff 0 0 16 (by decide), uI_s]
    · intro i hi
      have k := lc_k i
      have e : vec N3 40 i = vec M4 40 i := by
        unfold vec
        rw [ff _ _ _ (by omega), uI_o (by omega), uI_o (by omega), uI_o (by omega)]
      rw [e]; exact d4 i hi
    · have k := lc_k 1088
      have e : vec N3 40 1088 = vec M4 40 1088 := by
        unfold vec
        rw [ff _ _ _ (by omega), uI_o (by omega), uI_o (by omega), uI_o (by omega)]
      rw [e]; exact d5
    · rw [o2]
      show N1.2 12 40 17 = 0
      rw [n1.2 12 40 17 (by decide)]
      exact d3
/-- of the scripts, those below q stand -/
theorem IS_q {m N : hM} {q : Nat} (hq : q ≤ 4) (h : ∀ s, s < q → SC m s) (fr : ∀ a b c, (8 ≤ a ∧ a ≤ 11 ∧ b < q) ∨ (a = 48 ∧ c < 36 * q) ∨ (a = 49 ∧ c < q) → N.1 a b c = m.1 a b c) : ∀ s, s < q → SC N s := by
  intro s hs
  obtain ⟨n, q0, q1, q2, q3⟩ := h s hs
  refine ⟨n, q0, ?_, ?_, fun i hi => ?_⟩
  · rw [fr 8 s 3 (by omega)]; exact q1
  · rw [fr 49 0 s (by omega)]; exact q2
  · rw [fr 9 s i (by omega), fr 10 s i (by omega), fr 11 s i (by omega), fr 48 0 (3 * (12 * s + i)) (by omega), fr 48 0 (3 * (12 * s + i) + 1) (by omega), fr 48 0 (3 * (12 * s + i) + 2) (by omega)]
    exact q3 i hi
theorem Inv_S {m m2 : hM} (hA : SmA m m2) (hS : IS m2) (hT : IT m2) (hR2 : SmP nsR m m2) (hH : SmP nsH m m2) (q : Inv m) : Inv m2 := by
  obtain ⟨q1, q2, q3, q4, q5⟩ := q
  have e := IH_same hH hA ⟨q1, q2⟩
  exact ⟨e.1, e.2, hS, hT, IR_same hR2 q5⟩
theorem k_text1 : Ok1 (JX11_text 1) (JX12_text 1) := fun m hm => by
  obtain ⟨l, hl, hb, hc, hr⟩ := txt hm
  obtain ⟨q, q0, q1, q2, q3⟩ := hm.2.2.1
  have hcl : ∀ {r : hR}, calI (calI (some (some (.inl (hwi (nI q) 0 3)), m)) fun x2 m1 =>
      if x2 = 0 then (some (some (.inl (-1)), m1)) else (calI (JX6_faultOfScript m1) fun x4 m3 =>
      if x4 = (-1) then (aal 38 (m3.1 0 0 14) fun j5 =>
      calV (JX7_copy j5 4 m3) fun m6 =>
      calI (JX6_cut 0 m6) fun x8 m7 =>
      stI m7 0 0 14 ((m7.1 0 0 14) + 1) fun m9 =>
      some (some (.inl ((m9.1 0 0 14) - 1)), m9)) else (some (some (.inl (-1)), m3)))) (fun x2 m1 => some (some (.inl x2), m1)) = r → JX11_text 1 m = r := fun h => by
    unfold JX11_text JX11_takeScript
    rw [if_neg (show ¬ (1 : Int32) = 0 by decide), if_pos rfl, q1, e_within]
    exact h
  have hrf : ∀ (M : hM) {r : hR}, (if 4 ≤ (M.1 40 0 18) then (some (some (.inl (-1)), M) : hR) else (calI (JX12_readScript (M.1 40 0 18) M) fun x2 m1 =>
      if x2 = (-1) then (stI m1 40 0 2 0 fun m3 =>
      stI m3 40 0 18 ((m3.1 40 0 18) + 1) fun m4 =>
      some (some (.inl ((m4.1 40 0 18) - 1)), m4)) else (some (some (.inl (-1)), m1)))) = r → JX12_text 1 M = r := fun M r h => by
    unfold JX12_text JX12_text_22
    rw [if_neg (show ¬ (1 : Int32) = 0 by decide), if_pos rfl]
    exact h
  rcases hw (nI q) 3 4 (by decide) (by decide) with ⟨j, j1, j2, j3⟩ | ⟨j1, j2⟩
  · have q4 : q < 4 := by have := nI_ij (a := q) (b := j) (by omega) (by omega) j2; omega
    have n4 : ¬ (4 : Int32) ≤ nI q := nI_ge (b := 4) q4 (by decide)
    rcases scrT (x := q) hb hl (by omega) with ⟨s, x1, x2, x3⟩ | ⟨A, B, C, n, x1, x2, x3, x4⟩
    · obtain ⟨M1, b1, b2⟩ := x2 m hc
      obtain ⟨N, c1, c2⟩ := x3 M1 (RTx_f b1 hr)
      have fr : ∀ a b c, ¬ ((a = 1 ∧ (c = 5 ∨ c = 6 ∨ c = 7)) ∨ (8 ≤ a ∧ a ≤ 11 ∧ b = 4) ∨ (a = 40 ∧ (c = 3 ∨ c = 4 ∨ c = 5 ∨ c = 6 ∨ c = 7)) ∨ (a = 49 ∧ c = q) ∨ (a = 48 ∧ 36 * q ≤ c)) → N.1 a b c = m.1 a b c := fun a b c z => by
        rw [c1.1 a b c (by omega), b1.1 a b c (by omega)]
      refine ⟨-1, M1, N, ?_, ?_, Inv_S ⟨fun a b c z => ?_, fun k _ => ?_⟩ ⟨q, q0, ?_, ?_, IS_q q0 q3 (fun a b c z => fr a b c (by omega))⟩ (IT_same (fun a b c z => ?_) hm.2.2.2.1) (fun a b c z => ?_) (fun a b c z => ?_) hm⟩
      · refine hcl ?_
        rw [calI_s, j3, if_neg (by decide), b2, calI_s, if_neg (nI_m9 (by omega)), calI_s]
      · refine hrf _ ?_
        rw [b1.1 40 0 18 (by decide), q2, if_neg n4, c2, calI_s, if_neg (nI_m9 (by omega))]
      · unfold nsA at z; exact fr a b c (by omega)
      · rw [c1.2 12 k 17 (by omega), b1.2]
      · rw [fr 0 0 14 (by omega)]; exact q1
      · rw [fr 40 0 18 (by omega)]; exact q2
      · unfold nsT at z; exact fr a b c (by omega)
      · unfold nsR at z; exact fr a b c (by omega)
      · unfold nsH at z; exact fr a b c (by omega)
    · obtain ⟨M1, b1, b2, b3, b4⟩ := x3 m hc
      obtain ⟨M2, d1, d2, d3, d4, d5, d6, d7⟩ := c_copyS q4 M1
      have t2 : M2.1 1 0 4 = nI l := by rw [d1 1 0 4 (by omega), b1.1 1 0 4 (by decide)]; exact hc.1
      have e14 : M1.1 0 0 14 = nI q := by rw [b1.1 0 0 14 (by omega)]; exact q1
      have frc : ∀ a b c, ¬ ((a = 1 ∧ (c = 4 ∨ c = 5 ∨ c = 6 ∨ c = 7)) ∨ (8 ≤ a ∧ a ≤ 11 ∧ (b = 4 ∨ b = q)) ∨ (a = 0 ∧ c = 14)) → (uI (uI M2 1 0 4 0) 0 0 14 (nI (q + 1))).1 a b c = m.1 a b c := fun a b c z => by
        rw [uI_x (by omega), uI_x (by omega), d1 a b c (by omega), b1.1 a b c (by omega)]
      obtain ⟨N, c1, c2, c3, c4⟩ := x4 (uI (uI M2 1 0 4 0) 0 0 14 (nI (q + 1))) ⟨by rw [frc 40 0 2 (by omega)]; exact hr.1, hl, fun i hi => by rw [frc 41 0 i (by omega)]; exact hr.2.2 i hi⟩
      have fr : ∀ a b c, ¬ ((a = 1 ∧ (c = 4 ∨ c = 5 ∨ c = 6 ∨ c = 7)) ∨ (8 ≤ a ∧ a ≤ 11 ∧ (b = 4 ∨ b = q)) ∨ (a = 0 ∧ c = 14) ∨ (a = 40 ∧ (c = 2 ∨ c = 3 ∨ c = 4 ∨ c = 5 ∨ c = 6 ∨ c = 7 ∨ c = 18)) ∨ (a = 49 ∧ c = q) ∨ (a = 48 ∧ 36 * q ≤ c)) → (uI (uI N 40 0 2 0) 40 0 18 (nI (q + 1))).1 a b c = m.1 a b c := fun a b c z => by
        rw [uI_x (by omega), uI_x (by omega), c1.1 a b c (by omega), frc a b c (by omega)]
      have nx : ∀ a c, 8 ≤ a → a ≤ 11 → (uI (uI N 40 0 2 0) 40 0 18 (nI (q + 1))).1 a q c = M2.1 a q c := fun a c z1 z2 => by
        rw [uI_o (by omega), uI_o (by omega), c1.1 a q c (by omega), uI_o (by omega), uI_o (by omega)]
      have e18 : (uI (uI M2 1 0 4 0) 0 0 14 (nI (q + 1))).1 40 0 18 = nI q := by rw [frc 40 0 18 (by omega)]; exact q2
      have N18 : (uI N 40 0 2 0).1 40 0 18 = nI q := by rw [uI_n (by decide), c1.1 40 0 18 (by omega)]; exact e18
      refine ⟨nI q, uI (uI M2 1 0 4 0) 0 0 14 (nI (q + 1)), uI (uI N 40 0 2 0) 40 0 18 (nI (q + 1)), ?_, ?_, Inv_S ⟨fun a b c z => ?_, fun k _ => ?_⟩ ⟨q + 1, by omega, ?_, uI_s, fun s hs => ?_⟩ ⟨0, by decide, ?_, ?_, fun i hi => absurd hi (by omega)⟩ (fun a b c z => ?_) (fun a b c z => ?_) hm⟩
      · refine hcl ?_
        rw [calI_s, j3, if_neg (by decide), b4, calI_s, if_pos rfl, aal_n (t := 38) e14 (by decide) (show q < 4 from q4), d7, calV_s, c_cut hl t2, calI_s]
        rw [show (uI M2 1 0 4 0).1 0 0 14 = nI q by rw [uI_o (by decide), d1 0 0 14 (by omega)]; exact e14, ← nI_succ, stI_s, uI_s, calI_s, nI_succ, Int32.add_sub_cancel]
      · refine hrf _ ?_
        rw [e18, if_neg n4, c4, calI_s, if_pos rfl, stI_s, N18, ← nI_succ, stI_s, uI_s, nI_succ, Int32.add_sub_cancel]
      · unfold nsA at z; exact fr a b c (by omega)
      · show N.2 12 k 17 = _
        rw [c1.2 12 k 17 (by omega)]
        show M2.2 12 k 17 = _
        rw [d2, b1.2]
      · rw [uI_o (by decide), uI_o (by decide), c1.1 0 0 14 (by omega), uI_s]
      · by_cases e : s = q
        · subst e
          refine ⟨n, x1, ?_, ?_, fun i hi => ?_⟩
          · rw [nx 8 3 (by decide) (by decide), d3]; exact b3
          · rw [uI_o (by decide), uI_o (by decide)]; exact c3
          · obtain ⟨r1, r2, r3⟩ := c2 i hi
            obtain ⟨t1, t3, t4⟩ := b2 i hi
            rw [nx 9 i (by decide) (by decide), nx 10 i (by decide) (by decide), nx 11 i (by decide) (by decide), d4 i (by omega), d5 i (by omega), d6 i (by omega), t1, t3, t4, uI_o (by decide), uI_o (by decide), uI_o (by decide), uI_o (by decide), uI_o (by decide), uI_o (by decide), r1, r2, r3]
            exact ⟨rfl, rfl, rfl, x2 i hi⟩
        · exact IS_q q0 q3 (fun a b c z => fr a b c (by omega)) s (by omega)
      · rw [uI_o (by decide), uI_o (by decide), c1.1 1 0 4 (by omega), uI_o (by decide), uI_s]; rfl
      · rw [uI_n (by decide), uI_s]; rfl
      · unfold nsR at z; exact fr a b c (by omega)
      · unfold nsH at z; exact fr a b c (by omega)
  · have q4 : q = 4 := by
      rcases Nat.lt_or_ge q 4 with z | z
      · exact absurd rfl (j2 q z)
      · omega
    refine ⟨-1, m, m, hcl (by rw [calI_s, j1, if_pos rfl, calI_s]), hrf _ (by rw [q2, q4, if_pos (show (4 : Int32) ≤ nI 4 by decide)]), hm⟩
theorem k_text (a : Int32) : Ok1 (JX11_text a) (JX12_text a) := by
  by_cases a0 : a = 0
  · subst a0; exact k_text0
  by_cases a1 : a = 1
  · subst a1; exact k_text1
  intro m hm
  refine ⟨-1, m, m, ?_, ?_, hm⟩
  · unfold JX11_text
    rw [if_neg a0, if_neg a1]
  · unfold JX12_text JX12_text_22
    rw [if_neg a0, if_neg a1]
