/-! gain, worst, coming -/
theorem VW_u {B t k : Nat} {v : Nat → Int32} {a : Int32} (h : VW B v t) (hk : (k = 16 ∨ k = 22) ∧ bw a 0 1) : VW B (upd v k a) t := by
  obtain ⟨h1, h2, h3, h4, h5, h6, h7, h8, h9⟩ := h
  have e : ∀ j, j ≠ 16 → j ≠ 22 → upd v k a j = v j := fun j x y => pk_un (by omega)
  refine ⟨fun i hi => by rw [e i (by omega) (by omega)]; exact h1 i hi, ?_, ?_, ?_, ?_, ?_, ?_, ?_, ?_⟩
  · rw [e _ (by decide) (by decide)]; exact h2
  · rw [e _ (by decide) (by decide)]; exact h3
  · unfold upd
    split
    · exact hk.2
    · exact h4
  · rw [e _ (by decide) (by decide)]; exact h5
  · rw [e _ (by decide) (by decide)]; exact h6
  · unfold upd
    split
    · exact hk.2
    · exact h7
  · rw [e _ (by decide) (by decide)]; exact h8
  · rw [e _ (by decide) (by decide)]; exact h9
theorem RS_u {B t k : Nat} {g a : Int32} {w v : Nat → Int32} {x : Int64} (h : RS B g w x v t) (hk : (k = 16 ∨ k = 22) ∧ bw a 0 1) : RS B g (upd w k a) x (upd v k a) t := by
  refine ⟨q_upd h.1 rfl, ?_, VW_u h.2.2.1 hk, ?_, h.2.2.2.2⟩
  · rw [pk_un (by omega), pk_un (by omega)]; exact h.2.1
  · rw [pk_un (by omega)]; exact h.2.2.2.1
theorem t_held {m m' : hM} {F B D P W t N : Nat} {hd : Int32} (h : CX m F B D P W t) (hN : N ≤ 60) (hh : hd = 0 ∨ hd = 1) (hs : Same m m') : ∃ r m1, JX0_wrongIfHeld 0 40 (nI N) hd m = some (some (.inl r), m1) ∧ Same m m1 ∧ ∃ m2, JX12_wrongIn (nI N) hd m' = some (some (.inl r), m2) ∧ Same m' m2 := by
  have h2 := CX_same hs h
  obtain ⟨w, e1, e2⟩ := c_copyOf h.2.2.2.1
  have ht : t ≤ 9999 := h.2.2.2.1.2.2
  have hb : bw hd 0 1 := by rcases hh with q | q <;> rw [q] <;> exact ⟨by decide, by decide⟩
  have e3 := RS_u (k := 16) e2 ⟨Or.inl rfl, hb⟩
  have hF : F ≤ 3 := h.1.1.2.2.2.2.2.2.1
  have hB : B ≤ 3 := h.1.1.2.2.2.2.2.2.2.1
  have hx := t_same (N := N) h hs e3 (by omega) (by omega)
  refine ⟨(itC m F B D P W (upd w 16 hd, m.2 12 40 17) N).1 25 - upd w 16 hd 25, Sm m 42 (itC m F B D P W (upd w 16 hd, m.2 12 40 17) N).1 (itC m F B D P W (upd w 16 hd, m.2 12 40 17) N).2, ?_, ?_, ?_⟩
  · unfold JX0_wrongIfHeld
    rw [e1, calA_s (by decide), stZ_b hh, Sm_u (by decide), show ix 12 15 = 16 from rfl, c_wrongIn e3 h.1.1 (by omega) (by omega), calI_s]
  · exact Sm_same (by decide)
  · have e50 : m'.1 50 0 = m.1 50 0 := row_same hs.1 (by decide)
    have e5 : m'.1 5 0 5 = m.1 5 0 5 := hs.1.1 5 0 5 (n_L (by decide) (by decide))
    obtain ⟨m2, b1, b2⟩ := m_back (m := m') (v := itM (mAs m') F B D P W (m.1 5 0 5) (upd (m.1 50 0) 16 hd) N) h2.2.2.2.2.1 (fun k hk => by rw [itM_g hF hB hk, pk_un (by omega), e50])
    refine ⟨m2, ?_, b2⟩
    unfold JX12_wrongIn
    have e6 := m_symsA (N := N) h2 e3.2.2.1 (by omega) (by omega)
    rw [e5] at e6
    rw [m_put, calV_s, e50, NW16, e6, calI_s, b1, calV_s, hx.1]
theorem k_gain (a : Int32) : Ok1 (JX11_gain a) (JX12_gain a) := by
  intro m hm
  unfold JX11_gain JX12_gain
  by_cases c : m.1 0 0 12 = 0
  · exact ⟨_, m, m, by rw [if_pos c], by rw [← hm.1, if_pos c], hm⟩
  · obtain ⟨F, B, D, P, W, t, h⟩ := Inv_cx hm c
    rw [if_neg c, e_within, calI_s]
    by_cases c2 : hwi a 1 60 = 0
    · exact ⟨_, m, m, by rw [if_pos c2], by rw [← hm.1, if_neg c, e_in, calI_s, if_pos c2], hm⟩
    · obtain ⟨N, hN, ea⟩ : ∃ N, N ≤ 60 ∧ a = nI N := by
        have q : ¬ a < 1 ∧ ¬ 60 < a := by
          unfold hwi at c2
          by_cases q1 : a < 1
          · rw [if_pos q1] at c2; exact absurd rfl c2
          · rw [if_neg q1] at c2
            by_cases q2 : 60 < a
            · rw [if_pos q2] at c2; exact absurd rfl c2
            · exact ⟨q1, q2⟩
        apply bw_n (n := 60)
        simp only [Int32.lt_iff_toInt_lt] at q
        have e1 : (1 : Int32).toInt = 1 := by decide
        have e2 : (60 : Int32).toInt = 60 := by decide
        exact ⟨by omega, by omega⟩
      subst ea
      rw [if_neg c2]
      obtain ⟨r1, m1, a1, a2, _⟩ := t_held (N := N) h hN (Or.inr rfl) (Same_r m)
      obtain ⟨r2, m2, b1, b2, _⟩ := t_held (N := N) (CX_same a2 h) hN (Or.inl rfl) (Same_r m1)
      have s12 := Same_t a2 b2
      obtain ⟨r1', _, a1', _, m3, a3, a4⟩ := t_held (N := N) h hN (Or.inr rfl) s12
      rw [a1] at a1'
      obtain ⟨r2', _, b1', _, m4, b3, b4⟩ := t_held (N := N) (CX_same a2 h) hN (Or.inl rfl) (Same_t b2 a4)
      rw [b1] at b1'
      cases a1'
      cases b1'
      refine ⟨r1 - r2, m2, m4, ?_, ?_, Inv_same (Same_t s12 (Same_t a4 b4)) hm⟩
      · rw [a1, calI_s, b1, calI_s]
      · have h15 : ¬ m2.1 40 0 15 = 0 := by rw [s12.2.2.2.2 40 0 15 (by unfold nsH; decide), ← hm.1]; exact c
        rw [if_neg h15, e_in, calI_s, if_neg c2, a3, calI_s, b3, calI_s]
theorem Same_s {a b : hM} (h : Same a b) : Same b a := ⟨⟨fun x y z q => (h.1.1 x y z q).symm, fun n q => (h.1.2 n q).symm⟩, fun x y z q => (h.2.1 x y z q).symm, fun x y z q => (h.2.2.1 x y z q).symm, fun x y z q => (h.2.2.2.1 x y z q).symm, fun x y z q => (h.2.2.2.2 x y z q).symm⟩
theorem t_drop {m m' : hM} {F B D P W t N : Nat} (h : CX m F B D P W t) (hN : N ≤ 40) (hs : Same m m') : ∃ r m1, JX0_wrongIfDropped 0 40 (nI N) m = some (some (.inl r), m1) ∧ Same m m1 ∧ ∃ m2, JX12_wrongByDrop (nI N) m' = some (some (.inl r), m2) ∧ Same m' m2 := by
  have h2 := CX_same hs h
  obtain ⟨w, e1, e2⟩ := c_copyOf h.2.2.2.1
  have ht : t ≤ 9999 := h.2.2.2.1.2.2
  have hF : F ≤ 3 := h.1.1.2.2.2.2.2.2.1
  have hB : B ≤ 3 := h.1.1.2.2.2.2.2.2.2.1
  have hx := t_same (N := N) h hs e2 (by omega) (by omega)
  have e3 := RS_u (k := 22) (a := 1) hx.2 ⟨Or.inr rfl, ⟨by decide, by decide⟩⟩
  have hy := t_same (N := 40 - N) h hs e3 (by omega) (by omega)
  have e40 : (40 : Int32) - nI N = nI (40 - N) := by rw [show (40 : Int32) = nI 40 from rfl, pk_sub hN]
  generalize hw1 : itC m F B D P W (w, m.2 12 40 17) N = s1 at hx e3 hy
  generalize hw2 : itC m F B D P W (upd s1.1 22 1, s1.2) (40 - N) = s2 at hy
  refine ⟨(s1.1 25 - w 25) + (s2.1 25 - upd s1.1 22 1 25), Sm m 42 s2.1 s2.2, ?_, ?_, ?_⟩
  · unfold JX0_wrongIfDropped
    rw [e1, calA_s (by decide), c_wrongIn e2 h.1.1 (by omega) (by omega), calI_s, hw1, stZ_1, Sm_u (by decide), show ix 12 16 = 22 from rfl, e40, c_wrongIn e3 h.1.1 (by omega) (by omega), calI_s, hw2]
  · exact Sm_same (by decide)
  · have e50 : m'.1 50 0 = m.1 50 0 := row_same hs.1 (by decide)
    have e5 : m'.1 5 0 5 = m.1 5 0 5 := hs.1.1 5 0 5 (n_L (by decide) (by decide))
    obtain ⟨m2, b1, b2⟩ := m_back (m := m') (v := itM (mAs m') F B D P W (m.1 5 0 5) (upd (itM (mAs m') F B D P W (m.1 5 0 5) (m.1 50 0) N) 22 1) (40 - N)) h2.2.2.2.2.1 (fun k hk => by rw [itM_g hF hB hk, pk_un (by omega), itM_g hF hB hk, e50])
    refine ⟨m2, ?_, b2⟩
    unfold JX12_wrongByDrop
    have e6 := m_symsA (N := N) h2 e2.2.2.1 (by omega) (by omega)
    have e7 := m_symsA (N := 40 - N) h2 e3.2.2.1 (by omega) (by omega)
    rw [e5] at e6 e7
    rw [m_put, calV_s, e50, e6, calI_s, NW22, e40, e7, calI_s, lt_s9, b1, calV_s, hx.1, hy.1]
theorem l_worst {m : hM} {F B D P W t n : Nat} (h : CX m F B D P W t) (hn : n ≤ 6) : ∀ i, i ≤ n → ∃ best most mi, Same m mi ∧ (∀ K w f, JX11_worst_36 K (nI n) w (f + i) 0 (-1) 0 m = JX11_worst_36 K (nI n) w f best most (nI i) mi) ∧ ∀ m', Same m m' → ∃ mj, Same m mj ∧ ∀ K w f, JX12_worst_36 K (nI n) w (f + i) 0 (-1) 0 m' = JX12_worst_36 K (nI n) w f best most (nI i) mj := by
  intro i
  induction i with
  | zero => intro _; exact ⟨0, -1, m, Same_r m, fun _ _ _ => rfl, fun m' q => ⟨m', q, fun _ _ _ => rfl⟩⟩
  | succ i ih =>
    intro hi
    obtain ⟨best, most, mi, s1, e1, e2⟩ := ih (by omega)
    obtain ⟨r, mk, a1, a2, _⟩ := t_drop (N := i) (CX_same s1 h) (by omega) (Same_r mi)
    refine ⟨if r ≤ most then best else nI i, if r ≤ most then most else r, mk, Same_t s1 a2, fun K w f => ?_, fun m' q => ?_⟩
    · rw [show f + (i + 1) = f + 1 + i from by omega, e1]
      show bJX11_worst_36 _ _ _ _ _ _ (nI i) _ = _
      unfold bJX11_worst_36 JX11_worst_75
      rw [if_neg (nI_ge (by omega) (by omega)), a1, calI_s, ← nI_succ]
      by_cases c : r ≤ most
      · rw [if_pos c, if_pos c, if_pos c]
      · rw [if_neg c, if_neg c, if_neg c]
    · obtain ⟨mj, s2, e3⟩ := e2 m' q
      obtain ⟨r', _, b1, _, ml, b2, b3⟩ := t_drop (N := i) (CX_same s1 h) (by omega) (Same_t (Same_s s1) s2)
      rw [a1] at b1
      cases b1
      refine ⟨ml, Same_t s2 b3, fun K w f => ?_⟩
      rw [show f + (i + 1) = f + 1 + i from by omega, e3]
      show bJX12_worst_36 _ _ _ _ _ _ (nI i) _ = _
      unfold bJX12_worst_36 JX12_worst_64
      rw [if_neg (nI_ge (by omega) (by omega)), b2, calI_s, ← nI_succ]
      by_cases c : r ≤ most
      · rw [if_pos c, if_pos c, if_pos c]
      · rw [if_neg c, if_neg c, if_neg c]
theorem hw1 (a u : Int32) (n : Nat) (hu : u = nI n) (hn : n < 1000) : (∃ j, j ≤ n ∧ a = nI j ∧ hwi a 1 u = 1) ∨ hwi a 1 u = 0 := by
  subst hu
  unfold hwi
  by_cases q1 : a < 1
  · rw [if_pos q1]; exact Or.inr rfl
  · rw [if_neg q1]
    by_cases q2 : nI n < a
    · rw [if_pos q2]; exact Or.inr rfl
    · rw [if_neg q2]
      left
      simp only [Int32.lt_iff_toInt_lt] at q1 q2
      have e1 : (1 : Int32).toInt = 1 := by decide
      rw [nI_toInt (by omega)] at q2
      obtain ⟨j, hj, e⟩ := bw_n (a := a) (n := n) ⟨by omega, by omega⟩
      exact ⟨j, hj, e, rfl⟩
theorem k_worst (a b : Int32) : Ok1 (JX11_worst a b) (JX12_worst a b) := by
  intro m hm
  unfold JX11_worst JX12_worst
  by_cases c : m.1 0 0 12 = 0
  · exact ⟨_, m, m, by rw [if_pos c], by rw [← hm.1, if_pos c], hm⟩
  · obtain ⟨F, B, D, P, W, t, h⟩ := Inv_cx hm c
    rw [if_neg c, e_within, calI_s]
    rcases hw1 a 6 6 rfl (by decide) with ⟨n, hn, ea, e1⟩ | e1
    · subst ea
      rw [e1, if_neg (by decide), e_within, calI_s]
      by_cases c2 : hwi b 0 1 = 0
      · exact ⟨_, m, m, by rw [if_pos c2], by rw [← hm.1, if_neg c, e_in, calI_s, e1, if_neg (by decide), e_in, calI_s, if_pos c2], hm⟩
      · rw [if_neg c2]
        obtain ⟨best, most, mi, s1, e2, e3⟩ := l_worst h hn n (Nat.le_refl n)
        obtain ⟨mj, s2, e4⟩ := e3 mi s1
        have eF : ∀ k, k ≤ 6 → FU = (FU - k - 1) + 1 + k := fun k hk => by rw [FU_eq]; omega
        refine ⟨if b = 0 then best else most, mi, mj, ?_, ?_, Inv_same s2 hm⟩
        · rw [eF n hn, e2]
          show bJX11_worst_36 _ _ _ _ _ _ (nI n) _ = _
          unfold bJX11_worst_36
          rw [if_pos (nI_le (by omega) (by omega))]
          by_cases c3 : b = 0
          · rw [if_pos c3]; exact if_pos c3
          · rw [if_neg c3]; exact if_neg c3
        · have h15 : ¬ mi.1 40 0 15 = 0 := by rw [s1.2.2.2.2 40 0 15 (by unfold nsH; decide), ← hm.1]; exact c
          rw [if_neg h15, e_in, calI_s, e1, if_neg (by decide), e_in, calI_s, if_neg c2, eF n hn, e4]
          show bJX12_worst_36 _ _ _ _ _ _ (nI n) _ = _
          unfold bJX12_worst_36
          rw [if_pos (nI_le (by omega) (by omega))]
          by_cases c3 : b = 0
          · rw [if_pos c3]; exact if_pos c3
          · rw [if_neg c3]; exact if_neg c3
    · exact ⟨_, m, m, by rw [e1, if_pos rfl], by rw [← hm.1, if_neg c, e_in, calI_s, e1, if_pos rfl], hm⟩
