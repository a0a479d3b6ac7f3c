/-! text -/
theorem m_t7 {K : hM → hR} {f : Nat → Int32} : ∀ k i M, i + k = 13 → (∀ j, j < 13 → M.1 42 0 j = f j) → (∀ j, j < i → M.1 45 0 j = f j) → ∀ F, ∃ M2 : hM, (∀ a b c, ¬ a = 45 → M2.1 a b c = M.1 a b c) ∧ M2.2 = M.2 ∧ (∀ j, j < 13 → M2.1 45 0 j = f j) ∧ JX12_takeLine_7 K (F + k + 1) (nI i) M = K M2 := by
  intro k
  induction k with
  | zero =>
    intro i M hi h0 hM F
    obtain rfl : i = 13 := by omega
    refine ⟨M, fun _ _ _ _ => rfl, rfl, hM, ?_⟩
    show bJX12_takeLine_7 _ _ _ _ = _
    unfold bJX12_takeLine_7
    rw [if_pos (by decide)]
  | succ k ih =>
    intro i M hi h0 hM F
    have hi3 : i < 13 := by omega
    obtain ⟨M2, a1, a2, a3, a4⟩ := ih (i + 1) (uI M 45 0 i (f i)) (by omega) (fun j hj => by rw [uI_o (by decide)]; exact h0 j hj) (fun j hj => by
      by_cases e : j = i
      · rw [e, uI_s]
      · rw [uI_n (Or.inr e)]; exact hM j (by omega)) F
    refine ⟨M2, fun a b c q => (a1 a b c q).trans (uI_x (fun y => q y.1)), a2, a3, ?_⟩
    show bJX12_takeLine_7 _ _ _ _ = _
    unfold bJX12_takeLine_7
    rw [if_neg (show ¬ (13 : Int32) ≤ nI i from nI_ge (b := 13) hi3 (by decide)), ald_n (t := 42) (n := 0) i rfl (by decide) (show i < 13 from hi3), h0 i hi3, ast_n (t := 45) (n := 0) i rfl (by decide) (show i < 13 from hi3), ← nI_succ]
    exact a4
theorem m_t33 {K : hM → hR} {g h : Nat → Int32} : ∀ k i M, i + k = 16 → (∀ j, j < 16 → M.1 43 0 j = g j ∧ M.1 44 0 j = h j) → (∀ j, j < i → M.1 46 0 j = g j ∧ M.1 47 0 j = h j) → ∀ F, ∃ M2 : hM, (∀ a b c, ¬ (a = 46 ∨ a = 47) → M2.1 a b c = M.1 a b c) ∧ M2.2 = M.2 ∧ (∀ j, j < 16 → M2.1 46 0 j = g j ∧ M2.1 47 0 j = h j) ∧ JX12_takeLine_33 K (F + k + 1) (nI i) M = K M2 := by
  intro k
  induction k with
  | zero =>
    intro i M hi h0 hM F
    obtain rfl : i = 16 := by omega
    refine ⟨M, fun _ _ _ _ => rfl, rfl, hM, ?_⟩
    show bJX12_takeLine_33 _ _ _ _ = _
    unfold bJX12_takeLine_33
    rw [if_pos (by decide)]
  | succ k ih =>
    intro i M hi h0 hM F
    have hi3 : i < 16 := by omega
    obtain ⟨M2, a1, a2, a3, a4⟩ := ih (i + 1) (uI (uI M 46 0 i (g i)) 47 0 i (h i)) (by omega) (fun j hj => by rw [uI_o (by decide), uI_o (by decide), uI_o (by decide), uI_o (by decide)]; exact h0 j hj) (fun j hj => by
      by_cases e : j = i
      · rw [e, uI_o (by decide), uI_s, uI_s]; exact ⟨rfl, rfl⟩
      · rw [uI_o (by decide), uI_n (Or.inr e), uI_n (Or.inr e), uI_o (by decide)]; exact hM j (by omega)) F
    refine ⟨M2, fun a b c q => (a1 a b c q).trans ((uI_x (fun y => q (Or.inr y.1))).trans (uI_x (fun y => q (Or.inl y.1)))), a2, a3, ?_⟩
    show bJX12_takeLine_33 _ _ _ _ = _
    unfold bJX12_takeLine_33
    rw [if_neg (show ¬ (16 : Int32) ≤ nI i from nI_ge (b := 16) hi3 (by decide)), ald_n (t := 43) (n := 0) i rfl (by decide) (show i < 16 from hi3), (h0 i hi3).1, ast_n (t := 46) (n := 0) i rfl (by decide) (show i < 16 from hi3), ald_n (t := 44) (n := 0) i rfl (by decide) (show i < 16 from hi3), uI_o (by decide), (h0 i hi3).2, ast_n (t := 47) (n := 0) i rfl (by decide) (show i < 16 from hi3), ← nI_succ]
    exact a4
theorem m_t71 {K : hM → hR} : ∀ k i M, i + k = 232 → (∀ j, j < i → M.1 50 0 j = 0) → ∀ F, ∃ M2 : hM, (∀ a b c, ¬ a = 50 → M2.1 a b c = M.1 a b c) ∧ M2.2 = M.2 ∧ (∀ j, j < 232 → M2.1 50 0 j = 0) ∧ JX12_takeLine_71 K (F + k + 1) (nI i) M = K M2 := by
  intro k
  induction k with
  | zero =>
    intro i M hi hM F
    obtain rfl : i = 232 := by omega
    refine ⟨M, fun _ _ _ _ => rfl, rfl, hM, ?_⟩
    show bJX12_takeLine_71 _ _ _ _ = _
    unfold bJX12_takeLine_71
    rw [if_pos (by decide)]
  | succ k ih =>
    intro i M hi hM F
    have hi3 : i < 232 := by omega
    obtain ⟨M2, a1, a2, a3, a4⟩ := ih (i + 1) (uI M 50 0 i 0) (by omega) (fun j hj => by
      by_cases e : j = i
      · rw [e, uI_s]
      · rw [uI_n (Or.inr e)]; exact hM j (by omega)) F
    refine ⟨M2, fun a b c q => (a1 a b c q).trans (uI_x (fun y => q y.1)), a2, a3, ?_⟩
    show bJX12_takeLine_71 _ _ _ _ = _
    unfold bJX12_takeLine_71
    rw [if_neg (show ¬ (232 : Int32) ≤ nI i from nI_ge (b := 232) hi3 (by decide)), ast_n (t := 50) (n := 0) i rfl (by decide) (show i < 232 from hi3), ← nI_succ]
    exact a4
theorem m_take {N : hM} {f : Nat → Int32} (hf : ∀ k, k < 13 → N.1 42 0 k = f k) : ∃ N2 : hM, (∀ a b c, ¬ ((45 ≤ a ∧ a ≤ 47) ∨ a = 50 ∨ (a = 40 ∧ (c = 15 ∨ c = 22 ∨ c = 28 ∨ c = 39))) → N2.1 a b c = N.1 a b c) ∧ N2.2 = N.2 ∧ N2.1 40 0 15 = 1 ∧ (∀ k, k < 13 → N2.1 45 0 k = f k) ∧ (∀ k, k < 16 → N2.1 46 0 k = N.1 43 0 k ∧ N2.1 47 0 k = N.1 44 0 k) ∧ (∀ c, c < 232 → N2.1 50 0 c = rw0 f c) ∧ N2.1 40 0 22 = f 5 ∧ N2.1 40 0 28 = 0 ∧ N2.1 40 0 39 = 0 ∧ JX12_takeLine N = some (some (.inl (f 1 + f 2)), N2) := by
  obtain ⟨A, a1, a2, a3, a4⟩ := m_t7 (f := f) (K := fun m4 => JX12_takeLine_33 (fun m9 => JX12_takeLine_71 (fun m11 => ast m11 50 0 0 64 fun m12 =>
  ald m12 45 0 4 fun x13 =>
  ast m12 50 0 12 x13 fun m14 =>
  ald m14 45 0 8 fun x15 =>
  ast m14 50 0 19 x15 fun m16 =>
  ald m16 45 0 7 fun x17 =>
  ast m16 50 0 20 x17 fun m18 =>
  ald m18 45 0 9 fun x19 =>
  ast m18 50 0 21 x19 fun m20 =>
  ald m20 45 0 5 fun x21 =>
  stI m20 40 0 22 x21 fun m22 =>
  stI m22 40 0 28 0 fun m23 =>
  stZ m23 40 0 39 0 fun m24 =>
  calI (JX12_taps m24) fun x26 m25 =>
  some (some (.inl x26), m25))  FU 0 m9)  FU 0 m4) 13 0 (uI N 40 0 15 1) (by omega) (fun j hj => by rw [uI_o (by decide)]; exact hf j hj) (fun j hj => absurd hj (by omega)) 99986
  obtain ⟨B, b1, b2, b3, b4⟩ := m_t33 (g := N.1 43 0) (h := N.1 44 0) (K := fun m9 => JX12_takeLine_71 (fun m11 => ast m11 50 0 0 64 fun m12 =>
  ald m12 45 0 4 fun x13 =>
  ast m12 50 0 12 x13 fun m14 =>
  ald m14 45 0 8 fun x15 =>
  ast m14 50 0 19 x15 fun m16 =>
  ald m16 45 0 7 fun x17 =>
  ast m16 50 0 20 x17 fun m18 =>
  ald m18 45 0 9 fun x19 =>
  ast m18 50 0 21 x19 fun m20 =>
  ald m20 45 0 5 fun x21 =>
  stI m20 40 0 22 x21 fun m22 =>
  stI m22 40 0 28 0 fun m23 =>
  stZ m23 40 0 39 0 fun m24 =>
  calI (JX12_taps m24) fun x26 m25 =>
  some (some (.inl x26), m25))  FU 0 m9) 16 0 A (by omega) (fun j hj => ⟨by rw [a1 43 0 j (by omega), uI_o (by decide)], by rw [a1 44 0 j (by omega), uI_o (by decide)]⟩) (fun j hj => absurd hj (by omega)) 99983
  obtain ⟨C, c1, c2, c3, c4⟩ := m_t71 (K := fun m11 => ast m11 50 0 0 64 fun m12 =>
  ald m12 45 0 4 fun x13 =>
  ast m12 50 0 12 x13 fun m14 =>
  ald m14 45 0 8 fun x15 =>
  ast m14 50 0 19 x15 fun m16 =>
  ald m16 45 0 7 fun x17 =>
  ast m16 50 0 20 x17 fun m18 =>
  ald m18 45 0 9 fun x19 =>
  ast m18 50 0 21 x19 fun m20 =>
  ald m20 45 0 5 fun x21 =>
  stI m20 40 0 22 x21 fun m22 =>
  stI m22 40 0 28 0 fun m23 =>
  stZ m23 40 0 39 0 fun m24 =>
  calI (JX12_taps m24) fun x26 m25 =>
  some (some (.inl x26), m25)) 232 0 B (by omega) (fun j hj => absurd hj (by omega)) 99767
  have f45 : ∀ k, k < 13 → C.1 45 0 k = f k := fun k hk => by rw [c1 45 0 k (by omega), b1 45 0 k (by omega)]; exact a3 k hk
  have r50 : ∀ c, c < 232 → (uI (uI (uI (uI (uI C 50 0 0 64) 50 0 12 (f 4)) 50 0 19 (f 8)) 50 0 20 (f 7)) 50 0 21 (f 9)).1 50 0 c = rw0 f c := by
    intro c hc
    unfold rw0
    by_cases e0 : c = 0
    · subst e0; rw [uI_n (by decide), uI_n (by decide), uI_n (by decide), uI_n (by decide), uI_s, if_pos rfl]
    by_cases e1 : c = 12
    · subst e1; rw [uI_n (by decide), uI_n (by decide), uI_n (by decide), uI_s, if_neg (by decide), if_pos rfl]
    by_cases e2 : c = 19
    · subst e2; rw [uI_n (by decide), uI_n (by decide), uI_s, if_neg (by decide), if_neg (by decide), if_pos rfl]
    by_cases e3 : c = 20
    · subst e3; rw [uI_n (by decide), uI_s, if_neg (by decide), if_neg (by decide), if_neg (by decide), if_pos rfl]
    by_cases e4 : c = 21
    · subst e4; rw [uI_s, if_neg (by decide), if_neg (by decide), if_neg (by decide), if_neg (by decide), if_pos rfl]
    rw [if_neg e0, if_neg e1, if_neg e2, if_neg e3, if_neg e4, uI_n (Or.inr e4), uI_n (Or.inr e3), uI_n (Or.inr e2), uI_n (Or.inr e1), uI_n (Or.inr e0)]
    exact c3 c hc
  have k45 : ∀ k, k < 13 → (uI (uI (uI (uI (uI C 50 0 0 64) 50 0 12 (f 4)) 50 0 19 (f 8)) 50 0 20 (f 7)) 50 0 21 (f 9)).1 45 0 k = f k := fun k hk => by
    rw [uI_o (by decide), uI_o (by decide), uI_o (by decide), uI_o (by decide), uI_o (by decide)]; exact f45 k hk
  refine ⟨uI (uI (uI (uI (uI (uI (uI (uI C 50 0 0 64) 50 0 12 (f 4)) 50 0 19 (f 8)) 50 0 20 (f 7)) 50 0 21 (f 9)) 40 0 22 (f 5)) 40 0 28 0) 40 0 39 0, fun a b c q => ?_, ?_, ?_, fun k hk => ?_, fun k hk => ?_, fun c hc => ?_, ?_, ?_, uI_s, ?_⟩
  · rw [uI_x (by omega), uI_x (by omega), uI_x (by omega), uI_x (by omega), uI_x (by omega), uI_x (by omega), uI_x (by omega), uI_x (by omega), c1 a b c (by omega), b1 a b c (by omega), a1 a b c (by omega), uI_x (by omega)]
  · exact c2.trans (b2.trans a2)
  · rw [uI_n (by decide), uI_n (by decide), uI_n (by decide), uI_o (by decide), uI_o (by decide), uI_o (by decide), uI_o (by decide), uI_o (by decide), c1 40 0 15 (by decide), b1 40 0 15 (by decide), a1 40 0 15 (by decide), uI_s]
  · rw [uI_o (by decide), uI_o (by decide), uI_o (by decide)]; exact k45 k hk
  · have := b3 k hk
    refine ⟨?_, ?_⟩
    · rw [uI_o (by decide), uI_o (by decide), uI_o (by decide), uI_o (by decide), uI_o (by decide), uI_o (by decide), uI_o (by decide), uI_o (by decide), c1 46 0 k (by omega)]; exact this.1
    · rw [uI_o (by decide), uI_o (by decide), uI_o (by decide), uI_o (by decide), uI_o (by decide), uI_o (by decide), uI_o (by decide), uI_o (by decide), c1 47 0 k (by omega)]; exact this.2
  · rw [uI_o (by decide), uI_o (by decide), uI_o (by decide)]; exact r50 c hc
  · rw [uI_n (by decide), uI_n (by decide), uI_s]
  · rw [uI_n (by decide), uI_s]
  · unfold JX12_takeLine
    rw [stZ_1]
    refine a4.trans (b4.trans (c4.trans ?_))
    rw [ast_n (i := 0) (t := 50) (n := 0) 0 rfl (by decide) (by decide), ald_n (i := 4) (t := 45) (n := 0) 4 rfl (by decide) (by decide), ast_n (i := 12) (t := 50) (n := 0) 12 rfl (by decide) (by decide), ald_n (i := 8) (t := 45) (n := 0) 8 rfl (by decide) (by decide), ast_n (i := 19) (t := 50) (n := 0) 19 rfl (by decide) (by decide), ald_n (i := 7) (t := 45) (n := 0) 7 rfl (by decide) (by decide), ast_n (i := 20) (t := 50) (n := 0) 20 rfl (by decide) (by decide), ald_n (i := 9) (t := 45) (n := 0) 9 rfl (by decide) (by decide), ast_n (i := 21) (t := 50) (n := 0) 21 rfl (by decide) (by decide), ald_n (i := 5) (t := 45) (n := 0) 5 rfl (by decide) (by decide), stI_s, stI_s, stZ_0]
    rw [show (uI C 50 0 0 64).1 45 0 4 = f 4 by rw [uI_o (by decide)]; exact f45 4 (by decide)]
    rw [show (uI (uI C 50 0 0 64) 50 0 12 (f 4)).1 45 0 8 = f 8 by rw [uI_o (by decide), uI_o (by decide)]; exact f45 8 (by decide)]
    rw [show (uI (uI (uI C 50 0 0 64) 50 0 12 (f 4)) 50 0 19 (f 8)).1 45 0 7 = f 7 by rw [uI_o (by decide), uI_o (by decide), uI_o (by decide)]; exact f45 7 (by decide)]
    rw [show (uI (uI (uI (uI C 50 0 0 64) 50 0 12 (f 4)) 50 0 19 (f 8)) 50 0 20 (f 7)).1 45 0 9 = f 9 by rw [uI_o (by decide), uI_o (by decide), uI_o (by decide), uI_o (by decide)]; exact f45 9 (by decide)]
    rw [k45 5 (by decide)]
    unfold JX12_taps
    rw [show (uI (uI (uI (uI (uI (uI (uI (uI C 50 0 0 64) 50 0 12 (f 4)) 50 0 19 (f 8)) 50 0 20 (f 7)) 50 0 21 (f 9)) 40 0 22 (f 5)) 40 0 28 0) 40 0 39 0).1 40 0 15 = 1 by rw [uI_n (by decide), uI_n (by decide), uI_n (by decide), uI_o (by decide), uI_o (by decide), uI_o (by decide), uI_o (by decide), uI_o (by decide), c1 40 0 15 (by decide), b1 40 0 15 (by decide), a1 40 0 15 (by decide), uI_s]]
    rw [if_neg (show ¬ (1 : Int32) = 0 by decide), ald_n (i := 1) (t := 45) (n := 0) 1 rfl (by decide) (by decide), ald_n (i := 2) (t := 45) (n := 0) 2 rfl (by decide) (by decide), uI_o (by decide), uI_o (by decide), uI_o (by decide), k45 1 (by decide), uI_o (by decide), uI_o (by decide), uI_o (by decide), k45 2 (by decide), calI_s]
