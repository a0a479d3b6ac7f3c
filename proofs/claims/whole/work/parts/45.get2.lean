theorem uI_n {m : hM} {t n k a b c : Nat} {x : Int32} (h : a ≠ t ∨ c ≠ k) : (uI m t n k x).1 a b c = m.1 a b c := if_neg (fun e => by rcases h with h | h; exact h e.1; exact h e.2.2)
theorem uI_s {m : hM} {t n k : Nat} {x : Int32} : (uI m t n k x).1 t n k = x := if_pos ⟨rfl, rfl, rfl⟩
theorem k_told (a b : Int32) : Ok1 (JX11_told a b) (JX12_told a b) := Ok1_p fun m hm => by
  unfold JX11_told JX12_told JX12_told_32
  rw [← hm.1]
  by_cases c : m.1 0 0 12 = 0
  · rw [if_pos c, if_pos c]; exact Qr_r _
  · obtain ⟨F, B, D, P, W, t, q1, q2, q3, q4, q5, q6⟩ := Inv_1 hm c
    have hW : W ≤ 16 := q1.1.2.2.2.2.2.2.2.2.2.2
    have hP : P ≤ 16 := q1.1.2.2.2.2.2.2.2.2.2.1
    rw [if_neg c, if_neg c]
    by_cases c0 : a = 0
    · subst c0
      unfold JX4_pulseLength
      simp only [e_in, calI_s, show hwi 0 0 1 = 1 from by decide, i10, eq_self, if_true, if_false, e_within]
      rw [ald_n (i := 0) (t := 5) (n := 0) 0 rfl (by decide) (by decide), calI_s, ald_n (i := 0) (t := 45) (n := 0) 0 rfl (by decide) (by decide), q1.2.1.1 0 (by decide), q1.1.1]
      rcases hw b (nI P - 1) P (by omega) rfl with ⟨j, hj, eb, e1⟩ | ⟨e1, _⟩
      · simp only [e1, i10, if_false]
        unfold JX4_pulseAt
        rw [eb, if_neg (nI_pos (by omega)), ald_n (i := 0) (t := 5) (n := 0) 0 rfl (by decide) (by decide), q1.1.1, if_neg (nI_ge hj (by omega)), if_neg (show ¬ (16 : Int32) ≤ nI j from nI_ge (a := j) (b := 16) (by omega) (by decide)), ald_n (t := 6) (n := 0) j rfl (by decide) (show j < 16 by omega), ald_n (t := 46) (n := 0) j rfl (by decide) (show j < 16 by omega), q1.2.1.2.1 j hj, calI_s]
        exact Qr_r _
      · simp only [e1, eq_self, if_true]
        exact Qr_r _
    · by_cases c1 : a = 1
      · subst c1
        unfold JX4_wordLength
        simp only [e_in, calI_s, show hwi 1 0 1 = 1 from by decide, i10, eq_self, if_true, if_false, e_within]
        rw [ald_n (i := 12) (t := 5) (n := 0) 12 rfl (by decide) (by decide), calI_s, ald_n (i := 12) (t := 45) (n := 0) 12 rfl (by decide) (by decide), q1.2.1.1 12 (by decide), q1.1.2.2.2.2.1]
        rcases hw b (nI W - 1) W (by omega) rfl with ⟨j, hj, eb, e1⟩ | ⟨e1, _⟩
        · simp only [e1, i10, if_false]
          unfold JX4_wordAt
          rw [eb, if_neg (nI_pos (by omega)), ald_n (i := 12) (t := 5) (n := 0) 12 rfl (by decide) (by decide), q1.1.2.2.2.2.1, if_neg (nI_ge hj (by omega)), if_neg (show ¬ (16 : Int32) ≤ nI j from nI_ge (a := j) (b := 16) (by omega) (by decide)), ald_n (t := 7) (n := 0) j rfl (by decide) (show j < 16 by omega), ald_n (t := 47) (n := 0) j rfl (by decide) (show j < 16 by omega), q1.2.1.2.2 j hj, calI_s]
          exact Qr_r _
        · simp only [e1, eq_self, if_true]
          exact Qr_r _
      · have e0 : hwi a 0 1 = 0 := by
          rcases hw a 1 2 (by decide) (by decide) with ⟨j, hj, ea, e1⟩ | ⟨e1, _⟩
          · rcases (by omega : j = 0 ∨ j = 1) with h | h <;> subst h
            · exact absurd ea c0
            · exact absurd ea c1
          · exact e1
        simp only [e_in, calI_s, c0, c1, e0, eq_self, if_true, if_false]
        exact Qr_r _
theorem k_step (a b c : Int32) : Ok1 (JX11_step a b c) (JX12_step a b c) := Ok1_p fun m hm => by
  obtain ⟨q, hq, q1, q2, q3⟩ := hm.2.2.1
  unfold JX11_step JX12_step
  rw [o_isScr q1 hq, q1, q2, e_within, calI_s, e_in, calI_s]
  rcases hw a (nI q - 1) q (by omega) rfl with ⟨s, hs, ea, e1⟩ | ⟨e1, _⟩
  · obtain ⟨n, s0, s1, s2, s3⟩ := q3 s hs
    subst ea
    rw [e1, jretZ_1, calI_s, if_neg (by decide), if_neg (by decide), ald_n (t := 49) (n := 0) s rfl (by decide) (show s < 5 by omega), s2, e_in, calI_s]
    unfold aal
    rw [if_pos ⟨by decide, inb_nI (show s < sLen 38 0 from (show s < 4 by omega)) (sLen_le _ _)⟩, nI_clamp (by omega)]
    show Qr m (calI (JX7_part s b c m) _) _
    apply Qr_c
    unfold JX7_part JX7_has
    rw [s1]
    rcases hw b (nI n - 1) n (by omega) rfl with ⟨i, hi, eb, e2⟩ | ⟨e2, e3⟩
    · subst eb
      obtain ⟨r1, r2, r3, _⟩ := s3 i hi
      rw [if_neg (nI_pos (by omega)), if_neg (nI_ge hi (by omega)), if_neg (show ¬ (12 : Int32) ≤ nI i from nI_ge (a := i) (b := 12) (by omega) (by decide)), jretZ_1, calI_s, if_neg (by decide), e2, if_neg (by decide), e_in, calI_s]
      have hx : ∀ k, (3 : Int32) * (12 * nI s + nI i) + nI k = nI (3 * (12 * s + i) + k) := fun k => by
        rw [show (3 : Int32) = nI 3 from rfl, show (12 : Int32) = nI 12 from rfl, pk_mul, nI_add, pk_mul, nI_add]
      rcases hw c 2 3 (by decide) (by decide) with ⟨k, hk, ec, e4⟩ | ⟨e4, e5⟩
      · subst ec
        rw [e4, if_neg (by decide), hx, ald_n (t := 48) (n := 0) _ rfl (by decide) (show 3 * (12 * s + i) + k < 180 by omega)]
        rcases (by omega : k = 0 ∨ k = 1 ∨ k = 2) with h | h | h <;> subst h
        · show Qr m (if nI 0 = 0 then _ else _) _
          rw [if_pos (by decide), ald_n (t := 9) (n := s) i rfl (by decide) (show i < 12 by omega)]
          exact Qr_e r1
        · show Qr m (if nI 1 = 0 then _ else if nI 1 = 1 then _ else _) _
          rw [if_neg (by decide), if_pos (by decide), ald_n (t := 10) (n := s) i rfl (by decide) (show i < 12 by omega)]
          exact Qr_e r2
        · show Qr m (if nI 2 = 0 then _ else if nI 2 = 1 then _ else if nI 2 = 2 then _ else _) _
          rw [if_neg (by decide), if_neg (by decide), if_pos (by decide), ald_n (t := 11) (n := s) i rfl (by decide) (show i < 12 by omega)]
          exact Qr_e r3
      · rw [e4, if_pos rfl]
        show Qr m (if c = 0 then _ else if c = 1 then _ else if c = 2 then _ else _) _
        rw [if_neg (show ¬ c = 0 from e5 0 (by decide)), if_neg (show ¬ c = 1 from e5 1 (by decide)), if_neg (show ¬ c = 2 from e5 2 (by decide))]
        exact Qr_r _
    · rw [e2, if_pos rfl]
      have e6 : (if b < 0 then (jretZ 0 m) else (if nI n ≤ b then (jretZ 0 m) else (if 12 ≤ b then (jretZ 0 m) else (jretZ 1 m)))) = some (some (.inl 0), m) := by
        by_cases k : b < 0
        · rw [if_pos k, jretZ_0]
        · obtain ⟨i, hi, eb⟩ := nI_of k
          rw [if_neg k, if_pos, jretZ_0]
          rw [eb]
          apply nI_le _ hi
          apply Nat.le_of_not_lt
          intro z
          exact e3 i z eb
      rw [e6, calI_s, if_pos rfl]
      exact Qr_r _
  · rw [e1, jretZ_0, calI_s, if_pos rfl, if_pos rfl]
    exact Qr_r _
theorem m_taps {m : hM} {F B D P W : Nat} (hc : ¬ m.1 40 0 15 = 0) (hl : LL m F B D P W) : JX12_taps m = some (some (.inl (nI (F + B))), m) := by
  unfold JX12_taps
  rw [if_neg hc, ald_n (i := 1) (t := 45) (n := 0) 1 rfl (by decide) (by decide), ald_n (i := 2) (t := 45) (n := 0) 2 rfl (by decide) (by decide), hl.2.1.1 1 (by decide), hl.2.1.1 2 (by decide), hl.1.2.1, hl.1.2.2.1, nI_add]
theorem c_tapCount {m : hM} {F B D P W : Nat} (hc : ¬ m.1 0 0 12 = 0) (hl : LL m F B D P W) : JX11_tapCount m = some (some (.inl (nI (F + B))), m) := by
  unfold JX11_tapCount JX4_allTaps
  rw [if_neg hc, ald_n (i := 1) (t := 5) (n := 0) 1 rfl (by decide) (by decide), ald_n (i := 2) (t := 5) (n := 0) 2 rfl (by decide) (by decide), hl.1.2.1, hl.1.2.2.1, nI_add, calI_s]
theorem k_count (a : Int32) : Ok1 (JX11_count a) (JX12_count a) := Ok1_p fun m hm => by
  obtain ⟨t, ht, e1, e2, e3⟩ := Inv_t hm
  obtain ⟨q, hq, s1, s2, _⟩ := hm.2.2.1
  obtain ⟨l, hl, t1, t2, _⟩ := hm.2.2.2.1
  unfold JX11_count JX12_count JX11_logLength
  show Qr m _ _
  refine sw_c (fun _ => ?_) (fun _ => ?_)
  · rcases hm.2.1 with ⟨h0, _⟩ | ⟨h1, hi⟩
    · unfold JX11_tapCount JX12_taps
      rw [← hm.1, if_pos h0, if_pos h0, calI_s]
      exact Qr_r _
    · obtain ⟨F, B, D, P, W, t, q1, q2⟩ := hi
      rw [c_tapCount (by rw [h1]; decide) q1, m_taps (by rw [← hm.1, h1]; decide) q1, calI_s]
      exact Qr_r _
  refine sw_c (fun _ => Qr_e (by rw [s1, s2])) (fun _ => ?_)
  refine sw_c (fun _ => Qr_e (by rw [t1, t2])) (fun _ => ?_)
  refine sw_c (fun _ => by rw [rd (i := 18) 18 rfl (by decide)]; exact Qr_e (by rw [e1, e2])) (fun _ => ?_)
  refine sw_c (fun _ => Qr_e hm.2.2.2.2.2.1) (fun _ => ?_)
  refine sw_c (fun _ => by rw [rd (i := 51) 51 rfl (by decide), e1, e_min, calI_s, hmn_n (by omega), calI_s, e3.1]; exact Qr_r _) (fun _ => ?_)
  refine sw_c (fun _ => ?_) (fun _ => Qr_r _)
  apply Qr_e
  rcases hm.2.1 with ⟨h0, hi⟩ | ⟨h1, hi⟩
  · rw [hi.2.2.2.1, hi.2.2.2.2.1]
  · obtain ⟨F, B, D, P, W, t, q1, q2, q3, q4, ⟨c, s, tt, p1, p2, _⟩, q6⟩ := hi
    rw [p1, p2]
theorem k_risk (a : Int32) : Ok1 (JX11_risk a) (JX12_risk a) := by
  intro m hm
  unfold JX11_risk JX12_risk
  rw [e_within, calI_s]
  by_cases h : hwi a 0 9 = 0
  · refine ⟨0, m, m, ?_, ?_, hm⟩
    · rw [if_pos h, jretZ_0]
    · rw [e_in, calI_s, if_pos h, jretZ_0]
  · rw [if_neg h]
    by_cases h2 : a = m.1 0 0 17
    · refine ⟨0, m, m, ?_, ?_, hm⟩
      · rw [if_pos h2, jretZ_0]
      · rw [e_in, calI_s, if_neg h, if_pos (by rw [h2]; exact hm.2.2.2.2.2.1), jretZ_0]
    · refine ⟨1, uI m 0 0 17 a, uI (uI m 0 0 17 a) 40 0 21 a, ?_, ?_, ?_⟩
      · rw [if_neg h2, stI_s, jretZ_1]
      · rw [e_in, calI_s, if_neg h, uI_n (by decide), if_neg (by rw [← hm.2.2.2.2.2.1]; exact h2), stI_s, jretZ_1]
      · obtain ⟨q1, q2, q3, q4, q5⟩ := hm
        have e : ∀ x y z, (x ≠ 40 ∨ z ≠ 21) → (x ≠ 0 ∨ z ≠ 17) → (uI (uI m 0 0 17 a) 40 0 21 a).1 x y z = m.1 x y z := fun x y z h1 h2 => by rw [uI_n h1, uI_n h2]
        have g := IH_same (m2 := uI (uI m 0 0 17 a) 40 0 21 a) (fun x y z hn => e x y z (by unfold nsH at hn; omega) (by unfold nsH at hn; omega)) ⟨fun x y z hn => e x y z (by unfold nsA at hn; omega) (by unfold nsA at hn; omega), fun n _ => rfl⟩ ⟨q1, q2⟩
        refine ⟨g.1, g.2, IS_same (fun x y z hn => e x y z (by unfold nsC at hn; omega) (by unfold nsC at hn; omega)) q3, IT_same (fun x y z hn => e x y z (by unfold nsT at hn; omega) (by unfold nsT at hn; omega)) q4, fun j hj => ?_, ?_, ?_, ?_⟩
        · rw [e 37 0 j (Or.inl (by decide)) (Or.inl (by decide)), e 51 0 j (Or.inl (by decide)) (Or.inl (by decide))]; exact q5.1 j hj
        · rw [uI_n (m := uI m 0 0 17 a) (by decide)]
          rw [uI_s, uI_s]
        · rw [e 40 0 24 (by decide) (by decide)]; exact q5.2.2.1
        · rw [e 40 0 23 (by decide) (by decide)]; exact q5.2.2.2
theorem k_end (a : Int32) : Ok1 (JX11_end a) (JX12_end a) := by
  intro m hm
  obtain ⟨l, hl, t1, t2, t3⟩ := hm.2.2.2.1
  unfold JX11_end JX12_end JX6_cut
  rw [e_within, calI_s, t1]
  have hb : nI l = nI (l + 1) - 1 := (nI_pred l).symm
  rcases hw a (nI l) (l + 1) (by omega) hb with ⟨j, hj, ea, e1⟩ | ⟨e1, _⟩
  · subst ea
    refine ⟨1, uI m 1 0 4 (nI j), uI (uI m 1 0 4 (nI j)) 40 0 2 (nI j), ?_, ?_, ?_⟩
    · rw [e1, if_neg (by decide), stI_s, jretZ_1, calI_s, jretZ_1]
    · rw [uI_n (by decide), t2, e_in, calI_s, e1, if_neg (by decide), stI_s, jretZ_1]
    · obtain ⟨q1, q2, q3, q4, q5⟩ := hm
      have e : ∀ x y z, (x ≠ 40 ∨ z ≠ 2) → (x ≠ 1 ∨ z ≠ 4) → (uI (uI m 1 0 4 (nI j)) 40 0 2 (nI j)).1 x y z = m.1 x y z := fun x y z h1 h2 => by rw [uI_n h1, uI_n h2]
      have g := IH_same (m2 := uI (uI m 1 0 4 (nI j)) 40 0 2 (nI j)) (fun x y z hn => e x y z (by unfold nsH at hn; omega) (by unfold nsH at hn; omega)) ⟨fun x y z hn => e x y z (by unfold nsA at hn; omega) (by unfold nsA at hn; omega), fun n _ => rfl⟩ ⟨q1, q2⟩
      refine ⟨g.1, g.2, IS_same (fun x y z hn => e x y z (by unfold nsC at hn; omega) (by unfold nsC at hn; omega)) q3, ⟨j, by omega, ?_, ?_, fun i hi => ?_⟩, IR_same (fun x y z hn => e x y z (by unfold nsR at hn; omega) (by unfold nsR at hn; omega)) q5⟩
      · rw [uI_n (m := uI m 1 0 4 (nI j)) (by decide)]
        exact uI_s
      · exact uI_s
      · rw [e 2 0 i (Or.inl (by decide)) (Or.inl (by decide)), e 41 0 i (Or.inl (by decide)) (Or.inl (by decide))]; exact t3 i (by omega)
  · refine ⟨0, m, m, ?_, ?_, hm⟩
    · rw [e1, if_pos rfl, jretZ_0, calI_s, jretZ_0]
    · rw [t2, e_in, calI_s, e1, if_pos rfl, jretZ_0]
