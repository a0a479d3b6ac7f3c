theorem c_isTap {m : hM} {F B D P W t : Nat} {a : Int32} (h : CX m F B D P W t) : JX11_isTap a m = some (some (.inl (hwi a 0 (nI (F + B) - 1))), m) :=
  o_isTap (c_tapCount (by rw [h.2.2.2.2.2.2.1]; decide) h.1) (Nat.add_le_add h.1.1.2.2.2.2.2.2.1 h.1.1.2.2.2.2.2.2.2.1) a
theorem m_isTap {m : hM} {F B D P W t : Nat} {a : Int32} (h : CX m F B D P W t) : JX12_isTap a m = some (some (.inl (hwi a 0 (nI (F + B) - 1))), m) := by
  unfold JX12_isTap
  rw [m_taps (by rw [h.2.2.2.2.2.2.2]; decide) h.1, calI_s, e_in, calI_s, jretZ_b (hwi_b _ _ _)]
theorem m_172 {m : hM} {v : Nat → Int32} {r : Int32} (h24 : m.1 40 0 24 = 0) (hv : ∀ k, 51 ≤ k → v k = m.1 50 0 k) : ∃ m2, (∀ r, JX12_coming_172 r (Nm (mAs m) v) = some (some (.inl r), m2)) ∧ Same m m2 := by
  obtain ⟨m2, b1, b2⟩ := m_back h24 hv
  refine ⟨m2, fun r => ?_, b2⟩
  unfold JX12_coming_172
  rw [b1, calV_s]
theorem t_coming {m : hM} {F B D P W t N j : Nat} (h : CX m F B D P W t) (hN : N ≤ 60) (hj : j ≤ 12) : ∃ r m1, JX11_coming_47 (nI N) (nI j) m = some (some (.inl r), m1) ∧ Same m m1 ∧ ∃ m2, JX12_coming_44 (nI N) (nI j) m1 = some (some (.inl r), m2) ∧ Same m1 m2 := by
  obtain ⟨w, e1, e2⟩ := c_copyOf h.2.2.2.1
  have ht : t ≤ 9999 := h.2.2.2.1.2.2
  have hF : F ≤ 3 := h.1.1.2.2.2.2.2.2.1
  have hB : B ≤ 3 := h.1.1.2.2.2.2.2.2.2.1
  have ec := c_wrongIn (n := 42) (N := N) e2 h.1.1 (by omega) (by omega)
  generalize hs1 : itC m F B D P W (w, m.2 12 40 17) N = s1 at ec
  have hS : Same m (Sm m 42 s1.1 s1.2) := Sm_same (by decide)
  have h2 := CX_same hS h
  have hx := t_same (N := N) h hS e2 (by omega) (by omega)
  rw [hs1] at hx
  generalize hm1 : Sm m 42 s1.1 s1.2 = m1 at *
  have e50 : m1.1 50 0 = m.1 50 0 := row_same hS.1 (by decide)
  have e5 : m1.1 5 0 5 = m.1 5 0 5 := hS.1.1 5 0 5 (n_L (by decide) (by decide))
  have e6 := m_symsA (N := N) h2 e2.2.2.1 (by omega) (by omega)
  rw [e5] at e6
  generalize hv' : itM (mAs m1) F B D P W (m.1 5 0 5) (m.1 50 0) N = v' at hx e6
  obtain ⟨m2, b1, b2⟩ := m_172 (m := m1) (v := v') (r := 0) h2.2.2.2.2.1 (fun k hk => by rw [← hv', itM_g hF hB hk, e50])
  have rd1 : ∀ a c i, 12 ≤ a ∧ a ≤ 19 → ix a c = i → i < 49 → m1.1 a 42 c = v' i := fun a c i ha hi hi2 => by
    rw [← hm1, Sm_r ha, hi]
    exact hx.2.1 i hi2
  have hd : v' 17 = 0 ∨ v' 17 = 1 := bw_01 hx.2.2.2.1.2.2.2.2.1
  have ecl : JX11_coming_47 (nI N) (nI j) m = (if 6 ≤ nI j then (swL (nI j) [(6, some (some (.inl (s1.1 25 - w 25)), m1)), (7, calI (JX11_sizeOf (m1.1 18 42 10) m1) fun x10 m9 => some (some (.inl x10), m9)), (8, some (some (.inl (m1.1 12 42 6)), m1)), (9, some (some (.inl (m1.1 18 42 5)), m1)), (10, if (m1.1 18 42 2) = 0 then (some (some (.inl 0), m1)) else (some (some (.inl 1), m1))), (11, some (some (.inl (m1.1 12 42 7)), m1))] (some (some (.inl (m1.1 12 42 9)), m1))) else (ald m1 13 42 (nI j) fun x11 => some (some (.inl x11), m1))) := by
    unfold JX11_coming_47
    rw [e1, calA_s (by decide), ec, calI_s]
  have eml : ∀ q, JX12_coming_44 (nI N) q m1 = (if 6 ≤ q then (if q = 6 then (JX12_coming_172 (wrS (mAs m1) F B D P W (m.1 5 0 5) (m.1 50 0) N) (Nm (mAs m1) v')) else (if q = 7 then (ald (Nm (mAs m1) v') 50 0 44 fun x14 => calI (JX12_size x14 (Nm (mAs m1) v')) fun x16 m15 => JX12_coming_172 x16 m15) else (if q = 8 then (ald (Nm (mAs m1) v') 50 0 18 fun x13 => JX12_coming_172 x13 (Nm (mAs m1) v')) else (if q = 9 then (ald (Nm (mAs m1) v') 50 0 27 fun x12 => JX12_coming_172 x12 (Nm (mAs m1) v')) else (if q = 10 then (ald (Nm (mAs m1) v') 50 0 17 fun x11 => JX12_coming_172 x11 (Nm (mAs m1) v')) else (if q = 11 then (ald (Nm (mAs m1) v') 50 0 14 fun x10 => JX12_coming_172 x10 (Nm (mAs m1) v')) else (ald (Nm (mAs m1) v') 50 0 12 fun x8 => JX12_coming_172 x8 (Nm (mAs m1) v')))))))) else (ald (Nm (mAs m1) v') 50 0 (0 + q) fun x17 => JX12_coming_172 x17 (Nm (mAs m1) v'))) := by
    intro q
    unfold JX12_coming_44
    rw [m_put, calV_s, e50, e6, calI_s]
  have fin : ∀ r, JX11_coming_47 (nI N) (nI j) m = some (some (.inl r), m1) → JX12_coming_44 (nI N) (nI j) m1 = some (some (.inl r), m2) → ∃ r m1, JX11_coming_47 (nI N) (nI j) m = some (some (.inl r), m1) ∧ Same m m1 ∧ ∃ m2, JX12_coming_44 (nI N) (nI j) m1 = some (some (.inl r), m2) ∧ Same m1 m2 := fun r a b => ⟨r, m1, a, hS, m2, b, b2⟩
  by_cases c : j < 6
  · apply fin (v' j)
    · rw [ecl, if_neg (n6 c), ald_n (t := 13) (n := 42) j rfl (by decide) c, rd1 13 j j (by decide) (ix13 j c) (by omega)]
    · rw [eml, if_neg (n6 c), Int32.zero_add, Nald j rfl (by omega), b1]
  · rcases (by omega : j = 6 ∨ j = 7 ∨ j = 8 ∨ j = 9 ∨ j = 10 ∨ j = 11 ∨ j = 12) with q | q | q | q | q | q | q <;> subst q
    · apply fin (s1.1 25 - w 25)
      · rw [ecl]; rfl
      · rw [eml, ← hx.1]; exact b1 _
    · apply fin (hsz (v' 44))
      · rw [ecl, rd1 18 10 44 (by decide) rfl (by decide), e_sizeOf]; rfl
      · rw [eml, NR44, e_size, calI_s]; exact b1 _
    · apply fin (v' 18)
      · rw [ecl, rd1 12 6 18 (by decide) rfl (by decide)]; rfl
      · rw [eml, NR18]; exact b1 _
    · apply fin (v' 27)
      · rw [ecl, rd1 18 5 27 (by decide) rfl (by decide)]; rfl
      · rw [eml, NR27]; exact b1 _
    · apply fin (v' 17)
      · rw [ecl, rd1 18 2 17 (by decide) rfl (by decide)]
        rcases hd with q | q <;> rw [q] <;> rfl
      · rw [eml, NR17]; exact b1 _
    · apply fin (v' 14)
      · rw [ecl, rd1 12 7 14 (by decide) rfl (by decide)]; rfl
      · rw [eml, NR14]; exact b1 _
    · apply fin (v' 12)
      · rw [ecl, rd1 12 9 12 (by decide) rfl (by decide)]; rfl
      · rw [eml, NR12]; exact b1 _
theorem k_coming (a b : Int32) : Ok1 (JX11_coming a b) (JX12_coming a b) := by
  intro m hm
  unfold JX11_coming JX12_coming
  by_cases c : m.1 0 0 12 = 0
  · exact ⟨_, m, m, by rw [if_pos c], by rw [← hm.1, if_pos c], hm⟩
  · obtain ⟨F, B, D, P, W, t, h⟩ := Inv_cx hm c
    have h15 : ∀ m1, Same m m1 → ¬ m1.1 40 0 15 = 0 := fun m1 s => by rw [s.2.2.2.2 40 0 15 (by unfold nsH; decide), ← hm.1]; exact c
    rw [if_neg c, e_within, calI_s]
    rcases hw a 60 61 (by decide) (by decide) with ⟨N, hN, ea, e1⟩ | ⟨e1, _⟩
    · subst ea
      rw [e1, if_neg (by decide), e_within, calI_s]
      rcases hw b 12 13 (by decide) (by decide) with ⟨j, hj, eb, e2⟩ | ⟨e2, _⟩
      · subst eb
        rw [e2, if_neg (by decide)]
        obtain ⟨r, m1, a1, a2, m2, a3, a4⟩ := t_coming (N := N) (j := j) h (by omega) (by omega)
        by_cases c2 : (6 : Int32) ≤ nI j
        · refine ⟨r, m1, m2, by rw [if_pos c2]; exact a1, ?_, Inv_same (Same_t a2 a4) hm⟩
          rw [if_neg (h15 m1 a2), e_in, calI_s, e1, if_neg (by decide), e_in, calI_s, e2, if_neg (by decide), if_pos c2]
          exact a3
        · rw [if_neg c2, c_isTap h, calI_s]
          by_cases c3 : hwi (nI j) 0 (nI (F + B) - 1) = 0
          · refine ⟨_, m, m, by rw [if_pos c3], ?_, hm⟩
            rw [if_neg (h15 m (Same_r m)), e_in, calI_s, e1, if_neg (by decide), e_in, calI_s, e2, if_neg (by decide), if_neg c2, m_isTap h, calI_s, if_pos c3]
          · refine ⟨r, m1, m2, by rw [if_neg c3]; exact a1, ?_, Inv_same (Same_t a2 a4) hm⟩
            rw [if_neg (h15 m1 a2), e_in, calI_s, e1, if_neg (by decide), e_in, calI_s, e2, if_neg (by decide), if_neg c2, m_isTap (CX_same a2 h), calI_s, if_neg c3]
            exact a3
      · exact ⟨_, m, m, by rw [e2, if_pos rfl], by rw [if_neg (h15 m (Same_r m)), e_in, calI_s, e1, if_neg (by decide), e_in, calI_s, e2, if_pos rfl], hm⟩
    · exact ⟨_, m, m, by rw [e1, if_pos rfl], by rw [if_neg (h15 m (Same_r m)), e_in, calI_s, e1, if_pos rfl], hm⟩
