/-! a whole line, from its start -/
theorem c_rst {K : hM → hR} {n : Nat} (hn : n = 0 ∨ n = 1) : ∀ k i M, i + k = 13 → (∀ j, j < i → M.1 5 n j = ck_usual.getD j 0) → ∀ F, ∃ M2, (∀ a b c, ¬ (a = 5 ∧ b = n) → M2.1 a b c = M.1 a b c) ∧ M2.2 = M.2 ∧ (∀ j, j < 13 → M2.1 5 n j = ck_usual.getD j 0) ∧ JX4_reset_2 K n (F + k + 1) (nI i) M = K M2 := by
  intro k
  induction k with
  | zero =>
    intro i M hi hM F
    obtain rfl : i = 13 := by omega
    refine ⟨M, fun _ _ _ _ => rfl, rfl, hM, ?_⟩
    show bJX4_reset_2 _ _ _ _ _ = _
    unfold bJX4_reset_2
    rw [if_pos (by decide)]
  | succ k ih =>
    intro i M hi hM F
    have hi3 : i < 13 := by omega
    obtain ⟨M2, a1, a2, a3, a4⟩ := ih (i + 1) (uI M 5 n i (ck_usual.getD i 0)) (by omega) (fun j hj => by
      by_cases e : j = i
      · rw [e, uI_s]
      · rw [uI_n (Or.inr e)]; exact hM j (by omega)) F
    refine ⟨M2, fun a b c q => (a1 a b c q).trans (uI_x (fun y => q ⟨y.1, y.2.1⟩)), a2, a3, ?_⟩
    show bJX4_reset_2 _ _ _ _ _ = _
    unfold bJX4_reset_2
    rw [if_neg (show ¬ (13 : Int32) ≤ nI i from nI_ge (b := 13) hi3 (by decide)), if_neg (show ¬ (13 : Int32) ≤ nI i from nI_ge (b := 13) hi3 (by decide)), eal_s (inb_nI hi3 (by decide)), nI_clamp (show i < 2 ^ 31 by omega), ast_n (t := 5) (n := n) i rfl (by decide) (by rcases hn with e | e <;> (subst e; exact hi3)), ← nI_succ]
    exact a4
theorem c_reset {n : Nat} (hn : n = 0 ∨ n = 1) (M : hM) : ∃ M2, (∀ a b c, ¬ (a = 5 ∧ b = n) → M2.1 a b c = M.1 a b c) ∧ M2.2 = M.2 ∧ (∀ j, j < 13 → M2.1 5 n j = ck_usual.getD j 0) ∧ JX4_reset n M = some (none, M2) := by
  obtain ⟨M2, a1, a2, a3, a4⟩ := c_rst (K := fun m3 => some (none, m3)) hn 13 0 M (by omega) (fun j hj => absurd hj (by omega)) 99986
  exact ⟨M2, a1, a2, a3, a4⟩
theorem c_clr {K : hM → hR} : ∀ k i M, i + k = 13 → (∀ j, j < i → M.1 3 0 j = 0) → ∀ F, ∃ M2, (∀ a b c, ¬ a = 3 → M2.1 a b c = M.1 a b c) ∧ M2.2 = M.2 ∧ (∀ j, j < 13 → M2.1 3 0 j = 0) ∧ JX6_faultOfLine_19 K (F + k + 1) (nI i) M = K M2 := by
  intro k
  induction k with
  | zero =>
    intro i M hi hM F
    obtain rfl : i = 13 := by omega
    refine ⟨M, fun _ _ _ _ => rfl, rfl, hM, ?_⟩
    show bJX6_faultOfLine_19 _ _ _ _ = _
    unfold bJX6_faultOfLine_19
    rw [if_pos (by decide)]
  | succ k ih =>
    intro i M hi hM F
    have hi3 : i < 13 := by omega
    obtain ⟨M2, a1, a2, a3, a4⟩ := ih (i + 1) (uI M 3 0 i 0) (by omega) (fun j hj => by
      by_cases e : j = i
      · rw [e, uI_s]
      · rw [uI_n (Or.inr e)]; exact hM j (by omega)) F
    refine ⟨M2, fun a b c q => (a1 a b c q).trans (uI_x (fun y => q y.1)), a2, a3, ?_⟩
    show bJX6_faultOfLine_19 _ _ _ _ = _
    unfold bJX6_faultOfLine_19
    rw [if_neg (show ¬ (13 : Int32) ≤ nI i from nI_ge (b := 13) hi3 (by decide)), zast_n (t := 3) (n := 0) i rfl (by decide) (show i < 13 from hi3) (Or.inl rfl), ← nI_succ]
    exact a4
theorem m_usl {K : hM → hR} : ∀ k i M, i + k = 13 → (∀ j, j < i → M.1 42 0 j = ck_usual.getD j 0) → ∀ F, ∃ M2, (∀ a b c, ¬ a = 42 → M2.1 a b c = M.1 a b c) ∧ M2.2 = M.2 ∧ (∀ j, j < 13 → M2.1 42 0 j = ck_usual.getD j 0) ∧ JX12_readLine_12 K (F + k + 1) (nI i) M = K M2 := by
  intro k
  induction k with
  | zero =>
    intro i M hi hM F
    obtain rfl : i = 13 := by omega
    refine ⟨M, fun _ _ _ _ => rfl, rfl, hM, ?_⟩
    show bJX12_readLine_12 _ _ _ _ = _
    unfold bJX12_readLine_12
    rw [if_pos (by decide)]
  | succ k ih =>
    intro i M hi hM F
    have hi3 : i < 13 := by omega
    obtain ⟨M2, a1, a2, a3, a4⟩ := ih (i + 1) (uI M 42 0 i (ck_usual.getD i 0)) (by omega) (fun j hj => by
      by_cases e : j = i
      · rw [e, uI_s]
      · rw [uI_n (Or.inr e)]; exact hM j (by omega)) F
    refine ⟨M2, fun a b c q => (a1 a b c q).trans (uI_x (fun y => q y.1)), a2, a3, ?_⟩
    show bJX12_readLine_12 _ _ _ _ = _
    unfold bJX12_readLine_12
    rw [if_neg (show ¬ (13 : Int32) ≤ nI i from nI_ge (b := 13) hi3 (by decide)), e_usual M hi3, calI_s, ast_n (t := 42) (n := 0) i rfl (by decide) (show i < 13 from hi3), ← nI_succ]
    exact a4
theorem CLV_0 : CLV (fun k => ck_usual.getD k 0) (fun _ => 0) (fun _ => 0) 0 0 := by
  have e : ∀ k, k < 12 → 1 ≤ k → bw (ck_usual.getD k 0) (ck_low.getD k 0).toInt (ck_high.getD k 0).toInt := by unfold bw; decide +kernel
  exact ⟨⟨by decide, by decide, fun j hj => absurd hj (by omega)⟩, ⟨by decide, by decide, fun j hj => absurd hj (by omega)⟩, fun k a b => e k (by omega) a⟩
theorem line {T : Nat → Int32} {l : Nat} (hb : ∀ i, i < l → bw (T i) 1 255) (hl : l ≤ 240) : ResL l (fun M => CTx M T l) (fun N => RTx N T l) JX6_faultOfLine JX12_readLine := by
  have bt0 : ∀ j, j < 13 → (hbt 0 (nI j) = 1 ↔ (fun _ : Nat => false) j = true) := by decide +kernel
  refine ResL_st (fun M hM => ?_) (fun N hN => ?_) (lns (T := T) hb hl 13 (fun _ => false) (fun k => ck_usual.getD k 0) (fun _ => 0) (fun _ => 0) 0 0 0 0 (by decide) (by omega) CLV_0 (fun z => absurd z (by decide)) (fun _ => rfl) bt0 99985 99985)
  · obtain ⟨M1, a1, a2, a3, a4⟩ := c_reset (n := 1) (Or.inr rfl) (uI (uI M 1 0 5 0) 1 0 6 (-1))
    obtain ⟨M2, b1, b2, b3, b4⟩ := c_clr (K := fun m5 => JX6_faultOfLine_42 (fun m8 => JX6_faultOfLine_63 m8) FU 1 0 m5) 13 0 M1 (by omega) (fun j hj => absurd hj (by omega)) 99986
    have f0 : FCl M (uI (uI M 1 0 5 0) 1 0 6 (-1)) := FCl_t (FCl_u (Or.inl rfl)) (FCl_u (Or.inr (Or.inl rfl)))
    have f1 : FCl (uI (uI M 1 0 5 0) 1 0 6 (-1)) M1 := ⟨fun a b c q => a1 a b c (fun z => q (Or.inr (Or.inl ⟨by rw [z.1]; decide, by rw [z.1]; decide, z.2⟩))), a2⟩
    have f2 : FCl M1 M2 := ⟨fun a b c q => b1 a b c (fun z => q (Or.inr (Or.inr z))), b2⟩
    have ff := FCl_t f0 (FCl_t f1 f2)
    refine ⟨M2, ff, ⟨CTx_c ff hM, ?_, ?_, fun j hj => b3 j hj, ⟨fun j hj => ?_, fun j hj => absurd hj (by omega), fun j hj => absurd hj (by omega)⟩⟩, ?_⟩
    · rw [b1 1 0 5 (by decide), a1 1 0 5 (by decide), uI_n (by decide), uI_s]; rfl
    · rw [b1 1 0 6 (by decide), a1 1 0 6 (by decide), uI_s]
    · rw [b1 5 1 j (by decide)]; exact a3 j hj
    · unfold JX6_faultOfLine
      rw [stI_s, stI_s, a4, calV_s]
      exact b4
  · obtain ⟨N1, a1, a2, a3, a4⟩ := m_usl (K := fun m6 => JX12_readLine_38 (fun v1 m15 => JX12_readLine_116 v1 m15) FU 0 1 m6) 13 0 (uI (uI N 40 0 3 0) 40 0 4 (-1)) (by omega) (fun j hj => absurd hj (by omega)) 99986
    have g0 : GL N (uI (uI N 40 0 3 0) 40 0 4 (-1)) := GL_t ⟨fun a b c q => uI_x (fun y => q (Or.inl ⟨y.1, Or.inl y.2.2⟩)), fun _ _ _ _ => rfl⟩ GL_4
    have g1 : GL (uI (uI N 40 0 3 0) 40 0 4 (-1)) N1 := ⟨fun a b c q => a1 a b c (fun z => q (Or.inr ⟨by rw [z]; decide, by rw [z]; decide⟩)), fun a b c _ => by rw [a2]⟩
    have gg := GL_t g0 g1
    refine ⟨N1, gg, ⟨RTx_l gg hN, ?_, ?_, ⟨fun j hj => a3 j hj, fun j hj => absurd hj (by omega), fun j hj => absurd hj (by omega)⟩⟩, ?_⟩
    · rw [a1 40 0 3 (by decide), uI_n (by decide), uI_s]; rfl
    · rw [a1 40 0 4 (by decide), uI_s]
    · unfold JX12_readLine
      rw [stI_s, stI_s]
      exact a4
