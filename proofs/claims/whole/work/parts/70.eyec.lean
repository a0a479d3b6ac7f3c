/-! weigh, eye, opening -/
section
variable {m : hM} {F B D P W t : Nat}
theorem CX_ey (h : CX m F B D P W t) : EyC m 40 F B D P W (m.1 50 0) := ⟨h.1.1, h.2.1.2.1, fun i hi => st_at h.2.2.2.1 13 i i (by decide) (ix13 i hi) (by omega), h.2.2.2.1.1.2.2.1.1⟩
theorem c_isPhase (h : CX m F B D P W t) (a : Int32) : JX11_isPhase a m = some (some (.inl (hwi a 0 3)), m) := by
  unfold JX11_isPhase
  rw [if_neg (by rw [h.2.2.2.2.2.2.1]; decide), e_within, calI_s]
  rcases hwi_b a 0 3 with e | e
  · rw [e, if_pos rfl, jretZ_0]
  · rw [e, if_neg (by decide), jretZ_1]
theorem m_isPhase (h : CX m F B D P W t) (a : Int32) : JX12_isPhase a m = some (some (.inl (hwi a 0 3)), m) := by
  unfold JX12_isPhase
  rw [if_neg (by rw [h.2.2.2.2.2.2.2]; decide), e_in, calI_s]
  rcases hwi_b a 0 3 with e | e
  · rw [e, if_pos rfl, jretZ_0]
  · rw [e, if_neg (by decide), jretZ_1]
theorem i_no0 (hm : Inv m) (c : m.1 0 0 12 = 0) (a : Int32) : JX11_isPhase a m = some (some (.inl 0), m) ∧ JX12_isPhase a m = some (some (.inl 0), m) := by
  unfold JX11_isPhase JX12_isPhase
  rw [← hm.1, if_pos c, if_pos c, jretZ_0]
  exact ⟨rfl, rfl⟩
theorem m_3 {K : Int32 → hR} (hl : LL m F B D P W) : ald m 45 0 3 K = K (nI D) := by
  rw [ald_n (i := 3) (t := 45) (n := 0) 3 rfl (by decide) (by decide), hl.2.1.1 3 (by decide), hl.1.2.2.2.1]
end
theorem Ok1_q {f g : hM → hR} (h : ∀ m, Inv m → ∃ r m1 m2, f m = some (some (.inl r), m1) ∧ g m1 = some (some (.inl r), m2) ∧ Same m m2) : Ok1 f g := fun m hm => by
  obtain ⟨r, m1, m2, a, b, c⟩ := h m hm
  exact ⟨r, m1, m2, a, b, Inv_same c hm⟩
theorem k_weigh (a b c : Int32) : Ok1 (JX11_weigh a b c) (JX12_weigh a b c) := Ok1_p fun m hm => by
  unfold JX11_weigh JX12_weigh
  by_cases c0 : m.1 0 0 12 = 0
  · have z := i_no0 hm c0 b
    rw [z.1, z.2, calI_s, calI_s, if_pos rfl, if_pos rfl]
    exact Qr_r _
  · obtain ⟨F, B, D, P, W, t, h⟩ := Inv_cx hm c0
    rw [c_isPhase h, m_isPhase h, calI_s, calI_s]
    rcases hw b 3 4 (by decide) (by decide) with ⟨ph, hp, eb, e1⟩ | ⟨e1, _⟩
    · subst eb
      rw [e1, if_neg (by decide), if_neg (by decide), e_within, calI_s, e_in, calI_s]
      rcases hwi_b a 0 63 with e2 | e2
      · rw [e2, if_pos rfl, if_pos rfl]; exact Qr_r _
      · rw [e2, if_neg (by decide), if_neg (by decide), e_within, calI_s, e_in, calI_s]
        rcases hwi_b c 0 1 with e3 | e3
        · rw [e3, if_pos rfl, if_pos rfl]; exact Qr_r _
        · have z10 : ¬ (1 : Int32) = 0 := by decide
          rw [e3, if_neg z10, if_neg z10]
          by_cases c3 : c = 0
          · rw [if_pos c3, if_pos c3, c_rowZ (CX_ey h).1 (by omega) (CX_ey h).2.2.1, calI_s, m_weighRow h.1 (by omega), calI_s]
            exact Qr_r _
          · rw [if_neg c3, if_neg c3, g_truth h.1.1, calI_s, m_3 h.1, e_has, calI_s]
            unfold bsg
            by_cases c4 : hbt a (nI D) = 1
            · rw [if_pos c4, if_pos c4, if_neg (by decide)]; exact Qr_r _
            · rw [if_neg c4, if_neg c4, if_pos rfl]; exact Qr_r _
    · rw [e1, if_pos rfl, if_pos rfl]; exact Qr_r _
/-- one more row that is right -/
def eyF (D : Nat) (z : Nat → Int32) (bar : Int32) : Nat → Int32 → Int32 := fun r x => if hbt (nI r) (nI D) = 1 then (if z r < bar then x else x + 1) else (if z r < bar then x + 1 else x)
section
variable {m : hM} {F B D P W : Nat}
theorem c_right {z : Nat → Int32} {bar : Int32} (hl : Ln m 0 F B D P W) (hz : ∀ r, r < 64 → m.1 25 0 r = z r) : JX3_right 0 bar m = some (some (.inl (fr (eyF D z bar) 0 64)), m) := by
  unfold JX3_right
  refine Eq.trans (lpF (fun f (a : Int32 × Int32) => JX3_right_5 (fun v3 m4 => some (some (.inl v3), m4)) 0 bar f a.1 a.2 m) (fun i => (fr (eyF D z bar) 0 i, nI i)) 64 (by omega) (by
    intro i f hi
    show bJX3_right_5 _ _ _ _ _ (nI i) _ = JX3_right_5 _ _ _ f (eyF D z bar i (fr (eyF D z bar) 0 i)) (nI (i + 1)) m
    generalize fr (eyF D z bar) 0 i = x
    unfold bJX3_right_5 JX3_right_34 JX3_right_40
    rw [if_neg (n64 hi), g_truth hl, calI_s, ald_n (t := 25) (n := 0) i rfl (by decide) (show i < 64 from hi), hz i hi, nI_succ]
    unfold eyF bsg
    by_cases c : hbt (nI i) (nI D) = 1
    · rw [if_pos c, if_pos c]
      by_cases c2 : z i < bar
      · rw [if_pos c2, if_pos c2, if_neg (by decide)]
      · rw [if_neg c2, if_neg c2, if_pos rfl]
    · rw [if_neg c, if_neg c]
      by_cases c2 : z i < bar
      · rw [if_pos c2, if_pos c2, if_pos rfl]
      · rw [if_neg c2, if_neg c2, if_neg (by decide)])) ?_
  show bJX3_right_5 _ _ _ _ _ (nI 64) _ = _
  unfold bJX3_right_5
  rw [if_pos (by decide)]
theorem m_eye {ph : Nat} {v : Int32} (hl : LL m F B D P W) (hp : ph ≤ 3) : JX12_eye_26 (fun v3 m11 => some (some (.inl v3), m11)) (nI ph) v FU 0 0 m = some (some (.inl (fr (eyF D (zR m F B D P ph) (64 * v)) 0 64)), m) := by
  refine Eq.trans (lpF (fun f (a : Int32 × Int32) => JX12_eye_26 (fun v3 m11 => some (some (.inl v3), m11)) (nI ph) v f a.1 a.2 m) (fun i => (fr (eyF D (zR m F B D P ph) (64 * v)) 0 i, nI i)) 64 (by omega) (by
    intro i f hi
    show bJX12_eye_26 _ _ _ _ _ (nI i) _ = JX12_eye_26 _ _ _ f (eyF D (zR m F B D P ph) (64 * v) i (fr (eyF D (zR m F B D P ph) (64 * v)) 0 i)) (nI (i + 1)) m
    generalize fr (eyF D (zR m F B D P ph) (64 * v)) 0 i = x
    unfold bJX12_eye_26 JX12_eye_54 JX12_eye_73
    rw [if_neg (n64 hi), m_weighRow hl hp, calI_s, m_3 hl, m_3 hl, e_has, calI_s, calI_s, lt_s9, lt_s9, nI_succ]
    show (if zR m F B D P ph i < 64 * v then _ else _) = _
    unfold eyF
    by_cases c : hbt (nI i) (nI D) = 1
    · rw [if_pos c, if_pos c]
      by_cases c2 : zR m F B D P ph i < 64 * v
      · rw [if_pos c2, if_pos c2, if_neg (by decide), Int32.add_zero]
      · rw [if_neg c2, if_neg c2, if_pos rfl]
    · rw [if_neg c, if_neg c]
      by_cases c2 : zR m F B D P ph i < 64 * v
      · rw [if_pos c2, if_pos c2, if_pos rfl]
      · rw [if_neg c2, if_neg c2, if_neg (by decide), Int32.add_zero])) ?_
  show bJX12_eye_26 _ _ _ _ _ (nI 64) _ = _
  unfold bJX12_eye_26
  rw [if_pos (by decide)]
end
/-- the class has looked; so does the reference -/
theorem t_look {m : hM} {F B D P W t ph : Nat} (h : CX m F B D P W t) (hp : ph ≤ 3) : ∃ m1, JX3_look 0 40 (nI ph) m = some (none, m1) ∧ Ex m m1 ∧ Ln m1 0 F B D P W ∧ CX m1 F B D P W t ∧ (∀ r, r < 64 → m1.1 25 0 r = zR m F B D P ph r) ∧ (∀ r, r < 64 → ab (zR m F B D P ph r) 1000000) ∧ zR m1 F B D P ph = zR m F B D P ph := by
  have ey := CX_ey h
  obtain ⟨m1, a1, a2, a3, a4⟩ := c_lookH ey hp
  refine ⟨m1, a1, a2, Ln_Ex a2 h.1.1, CX_same (Same_Ex a2) h, a3, fun r _ => EyC_b ey ph (nI r) 0, ?_⟩
  unfold zR
  have e6 : m1.1 6 0 = m.1 6 0 := by funext i; exact a2.1 6 0 i (by omega)
  have e50 : m1.1 50 0 = m.1 50 0 := by funext i; exact a2.1 50 0 i (by omega)
  rw [e6, e50]
theorem k_eye (a b : Int32) : Ok1 (JX11_eye a b) (JX12_eye a b) := Ok1_q fun m hm => by
  unfold JX11_eye JX12_eye
  by_cases c0 : m.1 0 0 12 = 0
  · have z := i_no0 hm c0 a
    exact ⟨-1, m, m, by rw [z.1, calI_s, if_pos rfl], by rw [z.2, calI_s, if_pos rfl], Same_r m⟩
  · obtain ⟨F, B, D, P, W, t, h⟩ := Inv_cx hm c0
    rw [c_isPhase h, calI_s]
    rcases hw a 3 4 (by decide) (by decide) with ⟨ph, hp, ea, e1⟩ | ⟨e1, _⟩
    · subst ea
      rw [e1, if_neg (by decide), e_within, calI_s]
      rcases hwi_b b (-99) 99 with e2 | e2
      · exact ⟨-1, m, m, by rw [e2, if_pos rfl], by rw [m_isPhase h, calI_s, e1, if_neg (by decide), e_in, calI_s, e2, if_pos rfl], Same_r m⟩
      · obtain ⟨m1, a1, a2, a3, a4, a5, a6, a7⟩ := t_look h (ph := ph) (by omega)
        refine ⟨_, m1, m1, by rw [e2, if_neg (by decide), a1, calV_s, c_right a3 a5, calI_s], ?_, Same_Ex a2⟩
        rw [m_isPhase a4, calI_s, e1, if_neg (by decide), e_in, calI_s, e2, if_neg (by decide), m_eye a4.1 (by omega), a7]
    · exact ⟨-1, m, m, by rw [e1, if_pos rfl], by rw [m_isPhase h, calI_s, e1, if_pos rfl], Same_r m⟩
def fdv (a b : Int32) : Int32 := if 0 ≤ (a ^^^ b) then a / b else if (a / b) * b = a then a / b else a / b - 1
theorem e_fdv {a b : Int32} {m : hM} (h : b ≠ 0) : JJ9_floorDiv_7cf53 a b m = some (some (.inl (fdv a b)), m) := by
  unfold JJ9_floorDiv_7cf53 jidiv fdv
  rw [if_neg h]
  show (if 0 ≤ (a ^^^ b) then (some (some (.inl (a / b)), m) : hR) else if (a / b) * b = a then (some (some (.inl (a / b)), m) : hR) else (some (some (.inl (a / b - 1)), m) : hR)) = _
  by_cases c : 0 ≤ (a ^^^ b)
  · rw [if_pos c, if_pos c]
  · rw [if_neg c, if_neg c]
    by_cases c2 : (a / b) * b = a
    · rw [if_pos c2, if_pos c2]
    · rw [if_neg c2, if_neg c2]
theorem k_opening (a b : Int32) : Ok1 (JX11_opening a b) (JX12_opening a b) := Ok1_q fun m hm => by
  unfold JX11_opening JX12_opening
  by_cases c0 : m.1 0 0 12 = 0
  · have z := i_no0 hm c0 a
    exact ⟨_, m, m, by rw [z.1, calI_s, if_pos rfl], by rw [z.2, calI_s, if_pos rfl], Same_r m⟩
  · obtain ⟨F, B, D, P, W, t, h⟩ := Inv_cx hm c0
    rw [c_isPhase h, calI_s]
    rcases hw a 3 4 (by decide) (by decide) with ⟨ph, hp, ea, e1⟩ | ⟨e1, _⟩
    · subst ea
      obtain ⟨m1, a1, a2, a3, a4, a5, a6, a7⟩ := t_look h (ph := ph) (by omega)
      rw [e1, if_neg (by decide), a1, calV_s, c_high a3 a5 a6, calI_s, c_low a3 a5 a6, calI_s, e_fdv (by decide), calI_s]
      have lay := m_lay a4.1 (ph := ph) (by omega)
      rw [a7] at lay
      generalize hiR D (zR m F B D P ph) = hi at *
      generalize loR D (zR m F B D P ph) = lo at *
      have sm : Same m (HL m1 hi lo) := Same_t (Same_Ex a2) Same_HL
      rcases hw b 3 4 (by decide) (by decide) with ⟨j, hj, eb, e2⟩ | ⟨e2, e3⟩
      · subst eb
        have ref : ∀ r, (if nI j = 0 then hi else if nI j = 1 then lo else if nI j = 2 then hi - lo else fdv (hi + lo) 2) = r → (calI (JX12_isPhase (nI ph) m1) fun x2 m1 => if x2 = 0 then (some (some (.inl (-1000000000)), m1)) else (calI (JX12_in (nI j) 0 3 m1) fun x4 m3 => if x4 = 0 then (some (some (.inl (-1000000000)), m3)) else (calV (JX12_layOpening (nI ph) m3) fun m5 => if nI j = 0 then (some (some (.inl (m5.1 40 0 25)), m5)) else (if nI j = 1 then (some (some (.inl (m5.1 40 0 26)), m5)) else (if nI j = 2 then (some (some (.inl ((m5.1 40 0 25) - (m5.1 40 0 26))), m5)) else (calI (JJ9_floorDiv_7cf53 ((m5.1 40 0 25) + (m5.1 40 0 26)) 2 m5) fun x7 m6 => some (some (.inl x7), m6))))))) = some (some (.inl r), HL m1 hi lo) := fun r er => by
          rw [m_isPhase a4, calI_s, e1, if_neg (by decide), e_in, calI_s, e2, if_neg (by decide), lay, calV_s, HL_25, HL_26, e_fdv (by decide), calI_s, ← er]
          by_cases y0 : nI j = 0
          · rw [if_pos y0, if_pos y0]
          · rw [if_neg y0, if_neg y0]
            by_cases y1 : nI j = 1
            · rw [if_pos y1, if_pos y1]
            · rw [if_neg y1, if_neg y1]
              by_cases y2 : nI j = 2
              · rw [if_pos y2, if_pos y2]
              · rw [if_neg y2, if_neg y2]
        rcases (by omega : j = 0 ∨ j = 1 ∨ j = 2 ∨ j = 3) with e | e | e | e <;> subst e
        · exact ⟨hi, m1, _, by rw [swL_p (by decide)], ref hi (by rw [if_pos (by decide)]), sm⟩
        · exact ⟨lo, m1, _, by rw [swL_n (by decide), swL_p (by decide)], ref lo (by rw [if_neg (by decide), if_pos (by decide)]), sm⟩
        · exact ⟨hi - lo, m1, _, by rw [swL_n (by decide), swL_n (by decide), swL_p (by decide)], ref _ (by rw [if_neg (by decide), if_neg (by decide), if_pos (by decide)]), sm⟩
        · exact ⟨fdv (hi + lo) 2, m1, _, by rw [swL_n (by decide), swL_n (by decide), swL_n (by decide), swL_p (by decide)], ref _ (by rw [if_neg (by decide), if_neg (by decide), if_neg (by decide)]), sm⟩
      · refine ⟨-1000000000, m1, m1, ?_, ?_, Same_Ex a2⟩
        · rw [swL_n (show ¬ b = 0 from e3 0 (by decide)), swL_n (show ¬ b = 1 from e3 1 (by decide)), swL_n (show ¬ b = 2 from e3 2 (by decide)), swL_n (show ¬ b = 3 from e3 3 (by decide)), swL_0]
        · rw [m_isPhase a4, calI_s, e1, if_neg (by decide), e_in, calI_s, e2, if_pos rfl]
    · exact ⟨_, m, m, by rw [e1, if_pos rfl], by rw [m_isPhase h, calI_s, e1, if_pos rfl], Same_r m⟩
