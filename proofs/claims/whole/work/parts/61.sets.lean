/-! phase, hold, change -/
theorem HL_me (m : hM) : ∃ h l, m = HL m h l := ⟨_, _, HL_self.symm⟩
theorem ref_no {m : hM} {j : Nat} {d : Int32} (hj : j < 4) {K : hM → hR} : (calI (JX12_isRefused (nI j) m) fun x m4 => if x = 0 then K m4 else some (some (.inl d), m4)) = some (some (.inl d), uI m 51 0 j (m.1 51 0 j + 1)) := by
  rw [m_ref1 hj, calI_s, if_neg (by decide)]
theorem ref_noH {m : hM} {j : Nat} {d : Int32} (hj : j < 4) {K : hM → hR} : ∃ h l, (calI (JX12_isRefused (nI j) m) fun x m4 => if x = 0 then K m4 else some (some (.inl d), m4)) = some (some (.inl d), HL (uI m 51 0 j (m.1 51 0 j + 1)) h l) := by
  obtain ⟨h, l, e⟩ := HL_me (uI m 51 0 j (m.1 51 0 j + 1))
  exact ⟨h, l, by rw [← e]; exact ref_no hj⟩
theorem ref_yes {m m1 : hM} {d : Int32} {K : hM → hR} (h : JX12_keep m = some (none, m1)) : (calI (JX12_isRefused (-1) m) fun x m4 => if x = 0 then (calV (JX12_keep m4) fun m6 => K m6) else some (some (.inl d), m4)) = K m1 := by
  rw [m_ref0, calI_s, if_pos rfl, h, calV_s]
theorem nI_cases {j : Nat} (h : j < 4) {x : Int32} (e : x = nI j) : (x = 0 ∧ j = 0) ∨ (x = 1 ∧ j = 1) ∨ (x = 2 ∧ j = 2) ∨ (x = 3 ∧ j = 3) := by
  rcases (by omega : j = 0 ∨ j = 1 ∨ j = 2 ∨ j = 3) with q | q | q | q <;> subst q
  · exact Or.inl ⟨e, rfl⟩
  · exact Or.inr (Or.inl ⟨e, rfl⟩)
  · exact Or.inr (Or.inr (Or.inl ⟨e, rfl⟩))
  · exact Or.inr (Or.inr (Or.inr ⟨e, rfl⟩))
theorem k_one (k idx : Nat) (a mx : Int32) (hk : 1 ≤ k ∧ k ≤ 7) (hi : idx < 49) (hrf : ∀ p F B D P v, rfG p F B D P k a 0 v = rts a 0 mx (v idx)) (hgv : ∀ m F B D P W v, gv m F B D P W k a 0 v = upd v idx a) (hgr : ∀ m F B D P W v, gr m F B D P W k a v = v idx)
    (hvw : ∀ F B v t, AV F B k a 0 → VW B v t → VW B (upd v idx a) t) : Ok1 (aC (nI k) a 0 (-1)) (JX12_setOne (nI idx) a mx) := by
  refine k_act k a 0 (-1) _ hk.2 ?_ ?_ ?_
  · intro m h
    unfold JX12_setOne JX12_setOne_40
    rw [if_pos h]
    exact ref_no (j := 0) (by decide)
  · intro m F B D P W v t c kr j q hj e
    rw [hrf] at e
    obtain ⟨q1, q2, q3, q4, q5, q6, q7⟩ := q
    unfold JX12_setOne JX12_setOne_40
    rw [if_neg (by rw [q5]; decide), e_in, calI_s]
    unfold rts at e
    rcases hwi_b a 0 mx with w | w
    · rw [if_pos w] at e
      rw [if_pos w]
      have : j = 1 := by
        rcases nI_cases hj e.symm.symm with z | z | z | z
        · exact absurd z.1 (by decide)
        · exact z.2
        · exact absurd z.1 (by decide)
        · exact absurd z.1 (by decide)
      subst this
      exact ref_noH (j := 1) (by decide)
    · have w0 : ¬ hwi a 0 mx = 0 := by rw [w]; decide
      rw [if_neg w0] at e
      rw [if_neg w0, rd idx rfl (by omega), q6]
      by_cases c2 : a = v idx
      · rw [if_pos c2] at e
        rw [if_pos c2.symm]
        have : j = 2 := by
          rcases nI_cases hj e.symm.symm with z | z | z | z
          · exact absurd z.1 (by decide)
          · exact absurd z.1 (by decide)
          · exact z.2
          · exact absurd z.1 (by decide)
        subst this
        exact ref_noH (j := 2) (by decide)
      · rw [if_neg c2] at e
        exact absurd e.symm (nI_m1 hj)
  · intro m F B D P W v t c kr q e av
    rw [hrf] at e
    obtain ⟨m1, a1, a2, a3⟩ := RP_keep q
    have w1 : hwi a 0 mx = 1 ∧ a ≠ v idx := by
      rcases rts_c a 0 mx (v idx) with z | z | z
      · rw [z] at e; exact absurd e (by decide)
      · rw [z] at e; exact absurd e (by decide)
      · exact z.2
    have gtk : gt k t a = t := if_neg (by omega)
    refine ⟨Nm m1 (upd v idx a), ?_, ?_, Ra_t a3 Ra_Nm⟩
    · unfold JX12_setOne JX12_setOne_40
      have s1 := RP_self a2
      rw [if_neg (by rw [q.2.2.2.2.1]; decide), e_in, calI_s, if_neg (by rw [w1.1]; decide), rd idx rfl (by omega), q.2.2.2.2.2.1, if_neg (fun z => w1.2 z.symm), ref_yes a1, rd idx rfl (by omega), a2.2.2.2.2.2.1, hgr]
      rw [← s1, Nast idx rfl (by omega)]
      rw [s1]
    · rw [hgv, gtk]
      exact RP_Nm a2 (hvw F B v t av a2.2.2.2.2.2.2.2.2.1) (by rw [pk_un (by omega)]; exact a2.2.2.2.2.2.2.2.2.2.1) a2.2.2.2.2.2.2.2.2.2.2
theorem Ok1_c {f g : hM → hR} (h : Ok1 f g) : Ok1 f (fun m => calI (g m) fun x2 m1 => some (some (.inl x2), m1)) := fun m hm => by
  obtain ⟨r, m1, m2, a, b, c⟩ := h m hm
  exact ⟨r, m1, m2, a, by show calI (g m1) _ = _; rw [b]; rfl, c⟩
theorem k_phase (a : Int32) : Ok1 (JX11_phase a) (JX12_phase a) := by
  refine Ok1_c (k_one 1 14 a 3 (by decide) (by decide) (fun p F B D P v => rfG_1) (fun m F B D P W v => rfl) (fun m F B D P W v => rfl) (fun F B v t av w => ?_))
  exact VW_s w (fun c => absurd c (by decide)) (fun _ => av.2.2.1 rfl) (fun c => absurd c (by decide)) (fun c => absurd c (by decide)) (fun c => absurd c (by decide)) (by decide)
theorem k_hold (a : Int32) : Ok1 (JX11_hold a) (JX12_hold a) := by
  refine Ok1_c (k_one 2 16 a 1 (by decide) (by decide) (fun p F B D P v => rfG_2) (fun m F B D P W v => rfl) (fun m F B D P W v => rfl) (fun F B v t av w => ?_))
  exact VW_s w (fun c => absurd c (by decide)) (fun c => absurd c (by decide)) (fun _ => av.2.2.2.1 rfl) (fun c => absurd c (by decide)) (fun c => absurd c (by decide)) (by decide)
theorem k_noiC (a : Int32) : Ok1 (aC 5 a 0 (-1)) (fun m => calI (JX12_setOne 20 a 4 m) fun x2 m1 => some (some (.inl x2), m1)) := by
  refine Ok1_c (k_one 5 20 a 4 (by decide) (by decide) (fun p F B D P v => rfG_5) (fun m F B D P W v => rfl) (fun m F B D P W v => rfl) (fun F B v t av w => ?_))
  exact VW_s w (fun c => absurd c (by decide)) (fun c => absurd c (by decide)) (fun c => absurd c (by decide)) (fun _ => av.2.2.2.2.2 rfl) (fun c => absurd c (by decide)) (by decide)
theorem k_train (a : Int32) : Ok1 (aC 6 a 0 (-1)) (fun m => calI (JX12_setOne 19 a 99 m) fun x2 m1 => some (some (.inl x2), m1)) := by
  refine Ok1_c (k_one 6 19 a 99 (by decide) (by decide) (fun p F B D P v => rfG_6) (fun m F B D P W v => rfl) (fun m F B D P W v => rfl) (fun F B v t av w => ?_))
  exact VW_s w (fun c => absurd c (by decide)) (fun c => absurd c (by decide)) (fun c => absurd c (by decide)) (fun c => absurd c (by decide)) (fun c => absurd c (by decide)) (by decide)
theorem aC_0 {m : hM} {k a b d : Int32} (c : m.1 0 0 12 = 0) : aC k a b d m = some (some (.inl d), uI m 37 0 0 (m.1 37 0 0 + 1)) := by
  have hr : JX11_refusal 40 k a b m = some (some (.inl (nI 0)), m) := by
    unfold JX11_refusal
    rw [if_pos c]
    rfl
  exact aC_no hr (by decide)
theorem set_0 {m : hM} {i a mx : Int32} (c : m.1 40 0 15 = 0) : JX12_setOne i a mx m = some (some (.inl (-1)), uI m 51 0 0 (m.1 51 0 0 + 1)) := by
  unfold JX12_setOne JX12_setOne_40
  rw [if_pos c]
  exact ref_no (j := 0) (by decide)
theorem k_change (a b : Int32) : Ok1 (JX11_change a b) (JX12_change a b) := by
  intro m hm
  have e28 : ∀ m, JX11_change_28 a b m = if a = 0 then aC 5 b 0 (-1) m else aC 6 b 0 (-1) m := fun m => rfl
  have f28 : ∀ m, JX12_change_28 a b m = if a = 1 then (calI (JX12_setOne 19 b 99 m) fun x2 m1 => some (some (.inl x2), m1)) else (calI (JX12_setOne 20 b 4 m) fun x2 m1 => some (some (.inl x2), m1)) := fun m => by
    unfold JX12_change_28 JX12_change_41 JX12_change_53
    by_cases c : a = 1
    · rw [if_pos c, if_pos c, if_pos c]
    · rw [if_neg c, if_neg c, if_neg c]
  unfold JX11_change JX12_change
  by_cases c : m.1 0 0 12 = 0
  · refine ⟨-1, uI m 37 0 0 (m.1 37 0 0 + 1), uI (uI m 37 0 0 (m.1 37 0 0 + 1)) 51 0 0 (m.1 51 0 0 + 1), ?_, ?_, ref_inv hm (by decide)⟩
    · rw [if_pos c, e28, aC_0 c, aC_0 c]
      split <;> rfl
    · have c2 : (uI m 37 0 0 (m.1 37 0 0 + 1)).1 40 0 15 = 0 := by rw [uI_o (by decide), ← hm.1]; exact c
      rw [if_pos c2, f28, set_0 c2, set_0 c2, calI_s, uI_o (m := m) (a := 51) (by decide)]
      split <;> rfl
  · have hl : ∀ m2, Inv m2 → True := fun _ _ => trivial
    rw [if_neg c, e_within, calI_s]
    have c15 : ¬ m.1 40 0 15 = 0 := by rw [← hm.1]; exact c
    rcases hw a 1 2 (by decide) (by decide) with ⟨j, hj, ea, e1⟩ | ⟨e1, _⟩
    · have lin : ∀ r m1, aC 5 b 0 (-1) m = some (some (.inl r), m1) ∨ aC 6 b 0 (-1) m = some (some (.inl r), m1) → ¬ m1.1 40 0 15 = 0 := by
        intro r m1 h
        obtain ⟨F, B, D, P, W, t, hy⟩ := Inv_cy hm c
        obtain ⟨cc, kr, tt, hc, hr⟩ := CY_cp hy
        have hF : F ≤ 3 := hc.1.1.2.2.2.2.2.2.1
        have hB : B ≤ 3 := hc.1.1.2.2.2.2.2.2.2.1
        have sa : SA m 40 F B D P W (m.1 50 0) t := ⟨hc.1, hc.2.1, hc.2.2.1, hc.2.2.2.1.1.1, hc.2.2.2.1.1.2.2.1, by decide⟩
        have one : ∀ k, k ≤ 7 → aC (nI k) b 0 (-1) m = some (some (.inl r), m1) → ¬ m1.1 40 0 15 = 0 := by
          intro k hk hh
          obtain ⟨m2, e1, e2⟩ := c_refusal sa k hk b 0
          rcases rfG_v (m.1 6 0) F B D P k b 0 (m.1 50 0) hk hF hB with ⟨i, hi, ei⟩ | ⟨ei, av⟩
          · rw [ei] at e1
            rw [aC_no e1 hi] at hh
            cases hh
            rw [uI_o (by decide), e2.1 40 0 15 (by decide)]
            exact c15
          · rw [ei] at e1
            have p1 : m2.1 6 0 = m.1 6 0 := by funext i; exact e2.1 6 0 i (by omega)
            obtain ⟨m3, b1, b2, b3⟩ := c_actG (k := k) (a := b) (b := 0) (CP_Ex e2 hc) av (by rw [p1]; exact ei)
            rw [aC_yes e1 b1] at hh
            cases hh
            rw [b3.1 40 0 15 (by omega) (by omega) (by omega) (by omega), e2.1 40 0 15 (by decide)]
            exact c15
        rcases h with h | h
        · exact one 5 (by decide) h
        · exact one 6 (by decide) h
      rw [e1, if_neg (by decide), e28]
      rcases (by omega : j = 0 ∨ j = 1) with q | q <;> subst q
      · have a0 : a = 0 := ea
        obtain ⟨r, m1, m2, x1, x2, x3⟩ := k_noiC b m hm
        refine ⟨r, m1, m2, by rw [if_pos a0]; exact x1, ?_, x3⟩
        rw [if_neg (lin r m1 (Or.inl x1)), e_in, calI_s, e1, if_neg (by decide), f28, if_neg (by rw [a0]; decide)]
        exact x2
      · have a1 : a = 1 := ea
        obtain ⟨r, m1, m2, x1, x2, x3⟩ := k_train b m hm
        refine ⟨r, m1, m2, by rw [if_neg (by rw [a1]; decide)]; exact x1, ?_, x3⟩
        rw [if_neg (lin r m1 (Or.inr x1)), e_in, calI_s, e1, if_neg (by decide), f28, if_pos a1]
        exact x2
    · refine ⟨-1, uI m 37 0 1 (m.1 37 0 1 + 1), uI (uI m 37 0 1 (m.1 37 0 1 + 1)) 51 0 1 (m.1 51 0 1 + 1), ?_, ?_, ref_inv hm (by decide)⟩
      · rw [e1, if_pos rfl, ald_n (i := 1) (t := 37) (n := 0) 1 rfl (by decide) (by decide), ast_n (i := 1) (t := 37) (n := 0) 1 rfl (by decide) (by decide)]
      · rw [if_neg (by rw [uI_o (by decide)]; exact c15), e_in, calI_s, e1, if_pos rfl, ald_n (i := 1) (t := 51) (n := 0) 1 rfl (by decide) (by decide), ast_n (i := 1) (t := 51) (n := 0) 1 rfl (by decide) (by decide), uI_o (m := m) (a := 51) (by decide)]
/-! set, drop, send, seek -/
theorem k_set (a b : Int32) : Ok1 (JX11_set a b) (JX12_set a b) := by
  refine k_act 3 a b (-1000000000) _ (by decide) ?_ ?_ ?_
  · intro m h
    unfold JX12_set JX12_isTap JX12_taps JX12_set_47
    rw [if_pos h, calI_s, e_in, calI_s, show (0 : Int32) - 1 = -1 from by decide]
    have e : hwi a 0 (-1) = 0 := by
      rcases hw a (-1) 0 (by decide) (by decide) with ⟨j, hj, _⟩ | ⟨e, _⟩
      · omega
      · exact e
    rw [e, jretZ_0, calI_s, if_pos rfl]
    exact ref_no (j := 0) (by decide)
  · intro m F B D P W v t c kr j q hj e
    obtain ⟨q1, q2, q3, q4, q5, q6, q7⟩ := q
    have hF : F ≤ 3 := q1.1.2.2.2.2.2.2.1
    have hB : B ≤ 3 := q1.1.2.2.2.2.2.2.2.1
    rw [rfG_3] at e
    unfold JX12_set JX12_isTap JX12_set_47
    rw [m_taps (by rw [q5]; decide) q1, calI_s, e_in, calI_s, jretZ_b (hwi_b _ _ _), calI_s]
    rcases hw a (nI (F + B) - 1) (F + B) (by omega) rfl with ⟨i, hi, ea, e1⟩ | ⟨e1, _⟩
    · rw [e1, if_neg (by decide), e_in, calI_s]
      rw [e1, if_neg (by decide)] at e
      unfold rts at e
      subst ea
      rw [nI_clamp (by omega)] at e
      rcases hwi_b b (-255) 255 with w | w
      · rw [if_pos w] at e
        rw [if_pos w]
        rcases nI_cases hj e.symm.symm with z | z | z | z
        · exact absurd z.1 (by decide)
        · rw [z.2]; exact ref_noH (j := 1) (by decide)
        · exact absurd z.1 (by decide)
        · exact absurd z.1 (by decide)
      · have w0 : ¬ hwi b (-255) 255 = 0 := by rw [w]; decide
        rw [if_neg w0] at e
        rw [if_neg w0, z0n, rd i rfl (by omega), q6]
        by_cases c2 : b = v i
        · rw [if_pos c2] at e
          rw [if_pos c2.symm]
          rcases nI_cases hj e.symm.symm with z | z | z | z
          · exact absurd z.1 (by decide)
          · exact absurd z.1 (by decide)
          · rw [z.2]; exact ref_noH (j := 2) (by decide)
          · exact absurd z.1 (by decide)
        · rw [if_neg c2] at e
          exact absurd e.symm (nI_m1 hj)
    · rw [e1, if_pos rfl]
      rw [e1, if_pos rfl] at e
      rcases nI_cases hj e.symm.symm with z | z | z | z
      · rw [z.2]; exact ref_noH (j := 0) (by decide)
      · exact absurd z.1 (by decide)
      · exact absurd z.1 (by decide)
      · exact absurd z.1 (by decide)
  · intro m F B D P W v t c kr q e av
    obtain ⟨⟨i, hi, ea⟩, hb⟩ := av.2.2.2.2.1 rfl
    subst ea
    have cl : (nI i).toNatClampNeg = i := nI_clamp (by have : F ≤ 3 := q.1.1.2.2.2.2.2.2.1; have : B ≤ 3 := q.1.1.2.2.2.2.2.2.2.1; omega)
    have hF : F ≤ 3 := q.1.1.2.2.2.2.2.2.1
    have hB : B ≤ 3 := q.1.1.2.2.2.2.2.2.2.1
    rw [rfG_3] at e
    obtain ⟨m1, a1, a2, a3⟩ := RP_keep q
    have s1 := RP_self a2
    have egv : gv m F B D P W 3 (nI i) b v = upd (upd v i b) (6 + i) 0 := by
      show upd (upd v (nI i).toNatClampNeg b) (6 + (nI i).toNatClampNeg) 0 = _
      rw [cl]
    have egr : gr m F B D P W 3 (nI i) v = v i := by
      show v (nI i).toNatClampNeg = _
      rw [cl]
    have gtk : gt 3 t (nI i) = t := rfl
    rcases hw (nI i) (nI (F + B) - 1) (F + B) (by omega) rfl with ⟨i2, hi2, ea2, e1⟩ | ⟨_, e1⟩
    · rw [if_neg (by rw [e1]; decide), cl] at e
      have w1 : hwi b (-255) 255 = 1 ∧ b ≠ v i := by
        rcases rts_c b (-255) 255 (v i) with z | z | z
        · rw [z] at e; exact absurd e (by decide)
        · rw [z] at e; exact absurd e (by decide)
        · exact z.2
      refine ⟨Nm m1 (upd (upd v i b) (6 + i) 0), ?_, ?_, Ra_t a3 Ra_Nm⟩
      · unfold JX12_set JX12_isTap JX12_set_47
        rw [m_taps (by rw [q.2.2.2.2.1]; decide) q.1, calI_s, e_in, calI_s, jretZ_b (hwi_b _ _ _), calI_s, e1, if_neg (by decide), e_in, calI_s, w1.1, if_neg (by decide), z0n, rd i rfl (by omega), q.2.2.2.2.2.1, if_neg (fun z => w1.2 z.symm), ref_yes a1, rd i rfl (by omega), a2.2.2.2.2.2.1, egr]
        have e6 : (6 : Int32) + nI i = nI (6 + i) := by rw [show (6 : Int32) = nI 6 from rfl, nI_add]
        rw [← s1, Nast i rfl (by omega), e6, Nast (6 + i) rfl (by omega)]
        rw [s1]
      · rw [egv, gtk]
        have r9 := a2.2.2.2.2.2.2.2.2.1
        have v1 := VW_s (k := i) (a := b) r9 (fun _ => hb) (fun c => absurd c (by omega)) (fun c => absurd c (by omega)) (fun c => absurd c (by omega)) (fun c => absurd c (by omega)) (by omega)
        exact RP_Nm a2 (VW_s (k := 6 + i) (a := 0) v1 (fun c => absurd c (by omega)) (fun c => absurd c (by omega)) (fun c => absurd c (by omega)) (fun c => absurd c (by omega)) (fun c => absurd c (by omega)) (by omega)) (by rw [pk_un (by omega), pk_un (by omega)]; exact a2.2.2.2.2.2.2.2.2.2.1) a2.2.2.2.2.2.2.2.2.2.2
    · exact absurd rfl (e1 i hi)
theorem k_drop : Ok1 JX11_drop JX12_drop := by
  refine k_act 4 0 0 (-1) _ (by decide) ?_ ?_ ?_
  · intro m h
    unfold JX12_drop JX12_drop_28
    rw [if_pos h]
    exact ref_no (j := 0) (by decide)
  · intro m F B D P W v t c kr j q hj e
    obtain ⟨q1, q2, q3, q4, q5, q6, q7, q8, q9, q10⟩ := q
    rw [rfG_4] at e
    unfold JX12_drop JX12_drop_28
    rw [if_neg (by rw [q5]; decide), rd (i := 22) 22 rfl (by decide), q6]
    rcases bw_01 q9.2.2.2.2.2.2.1 with w | w
    · rw [if_pos w] at e
      exact absurd e.symm (nI_m1 hj)
    · rw [if_neg (by rw [w]; decide)] at e
      rw [if_pos w]
      rcases nI_cases hj e.symm.symm with z | z | z | z
      · exact absurd z.1 (by decide)
      · exact absurd z.1 (by decide)
      · rw [z.2]; exact ref_noH (j := 2) (by decide)
      · exact absurd z.1 (by decide)
  · intro m F B D P W v t c kr q e av
    rw [rfG_4] at e
    obtain ⟨m1, a1, a2, a3⟩ := RP_keep q
    have s1 := RP_self a2
    refine ⟨Nm m1 (upd v 22 1), ?_, ?_, Ra_t a3 Ra_Nm⟩
    · unfold JX12_drop JX12_drop_28
      have w : v 22 = 0 := by
        by_cases c : v 22 = 0
        · exact c
        · rw [if_neg c] at e; exact absurd e (by decide)
      rw [if_neg (by rw [q.2.2.2.2.1]; decide), rd (i := 22) 22 rfl (by decide), q.2.2.2.2.2.1, if_neg (by rw [w]; decide), ref_yes a1]
      have e2 : ast m1 50 0 22 1 (fun m5 => ald m5 50 0 18 fun x6 => some (some (.inl x6), m5)) = ast (Nm m1 v) 50 0 22 1 (fun m5 => ald m5 50 0 18 fun x6 => some (some (.inl x6), m5)) := by rw [s1]
      rw [e2, NW22, NR18, pk_un (by decide)]
      rfl
    · exact RP_Nm a2 (VW_s a2.2.2.2.2.2.2.2.2.1 (fun c => absurd c (by decide)) (fun c => absurd c (by decide)) (fun c => absurd c (by decide)) (fun c => absurd c (by decide)) (fun _ => ⟨by decide, by decide⟩) (by decide)) (by show upd v 22 1 51 = _; rw [pk_un (by decide)]; exact a2.2.2.2.2.2.2.2.2.2.1) a2.2.2.2.2.2.2.2.2.2.2
