/-! fault; what a text that is taken leaves -/
theorem Same_f {m m1 m2 : hM} (h : FCl m m1) (g : GL m1 m2) : Same m m2 := by
  refine ⟨⟨fun a b c z => ?_, fun n _ => ?_⟩, fun a b c z => ?_, fun a b c z => ?_, fun a b c z => ?_, fun a b c z => ?_⟩
  · unfold nsA at z; rw [g.1 a b c (by omega), h.1 a b c (by omega)]
  · rw [g.2 12 n 17 (by omega), h.2]
  · unfold nsC at z; rw [g.1 a b c (by omega), h.1 a b c (by omega)]
  · unfold nsT at z; rw [g.1 a b c (by omega), h.1 a b c (by omega)]
  · unfold nsR at z; rw [g.1 a b c (by omega), h.1 a b c (by omega)]
  · unfold nsH at z; rw [g.1 a b c (by omega), h.1 a b c (by omega)]
theorem Same_sc {x : Nat} {m m1 m2 : hM} (hx : x = 4) (h : FS m m1) (g : GS x m1 m2) : Same m m2 := by
  subst hx
  refine ⟨⟨fun a b c z => ?_, fun n _ => ?_⟩, fun a b c z => ?_, fun a b c z => ?_, fun a b c z => ?_, fun a b c z => ?_⟩
  · unfold nsA at z; rw [g.1 a b c (by omega), h.1 a b c (by omega)]
  · rw [g.2 12 n 17 (by omega), h.2]
  · unfold nsC at z; rw [g.1 a b c (by omega), h.1 a b c (by omega)]
  · unfold nsT at z; rw [g.1 a b c (by omega), h.1 a b c (by omega)]
  · unfold nsR at z; rw [g.1 a b c (by omega), h.1 a b c (by omega)]
  · unfold nsH at z; rw [g.1 a b c (by omega), h.1 a b c (by omega)]
theorem txt {m : hM} (hm : Inv m) : ∃ l, l ≤ 240 ∧ (∀ i, i < l → bw (m.1 2 0 i) 1 255) ∧ CTx m (m.1 2 0) l ∧ RTx m (m.1 2 0) l := by
  obtain ⟨l, l1, l2, l3, l4⟩ := hm.2.2.2.1
  exact ⟨l, l1, fun i hi => (l4 i hi).2, ⟨l2, l1, fun i hi => rfl⟩, ⟨l3, l1, fun i hi => (l4 i hi).1.symm⟩⟩
theorem RTx_c {M M2 : hM} {T : Nat → Int32} {l : Nat} (h : FCl M M2) (q : RTx M T l) : RTx M2 T l := ⟨by rw [h.1 40 0 2 (by omega)]; exact q.1, q.2.1, fun i hi => by rw [h.1 41 0 i (by omega)]; exact q.2.2 i hi⟩
theorem RTx_f {M M2 : hM} {T : Nat → Int32} {l : Nat} (h : FS M M2) (q : RTx M T l) : RTx M2 T l := ⟨by rw [h.1 40 0 2 (by omega)]; exact q.1, q.2.1, fun i hi => by rw [h.1 41 0 i (by omega)]; exact q.2.2 i hi⟩
theorem k_fault (a : Int32) : Ok1 (JX11_fault a) (JX12_fault a) := fun m hm => by
  obtain ⟨l, hl, hb, hc, hr⟩ := txt hm
  unfold JX11_fault JX12_fault
  by_cases a0 : a = 0
  · rcases line hb hl with ⟨s, x1, x2, x3⟩ | ⟨f, g, h, P, W, x1, x2, x3, x4⟩
    · obtain ⟨M1, b1, b2⟩ := x2 m hc
      obtain ⟨N, c1, c2⟩ := x3 M1 (RTx_c b1 hr)
      exact ⟨nI s, M1, N, by rw [if_pos a0, b2, calI_s], by rw [if_pos a0, c2, calI_s], Inv_same (Same_f b1 c1) hm⟩
    · obtain ⟨M1, b1, b2, b3⟩ := x3 m hc
      obtain ⟨N, c1, c2, c3⟩ := x4 M1 (RTx_c b1 hr)
      exact ⟨-1, M1, N, by rw [if_pos a0, b3, calI_s], by rw [if_pos a0, c3, calI_s], Inv_same (Same_f b1 c1) hm⟩
  by_cases a1 : a = 1
  · rcases scrT (x := 4) hb hl (by decide) with ⟨s, x1, x2, x3⟩ | ⟨A, B, C, n, x1, x2, x3, x4⟩
    · obtain ⟨M1, b1, b2⟩ := x2 m hc
      obtain ⟨N, c1, c2⟩ := x3 M1 (RTx_f b1 hr)
      exact ⟨nI s, M1, N, by rw [if_neg a0, if_pos a1, b2, calI_s], by rw [if_neg a0, if_pos a1, show (4 : Int32) = nI 4 from rfl, c2, calI_s], Inv_same (Same_sc rfl b1 c1) hm⟩
    · obtain ⟨M1, b1, b2, b3, b4⟩ := x3 m hc
      obtain ⟨N, c1, c2, c3, c4⟩ := x4 M1 (RTx_f b1 hr)
      exact ⟨-1, M1, N, by rw [if_neg a0, if_pos a1, b4, calI_s], by rw [if_neg a0, if_pos a1, show (4 : Int32) = nI 4 from rfl, c4, calI_s], Inv_same (Same_sc rfl b1 c1) hm⟩
  · exact ⟨-2, m, m, by rw [if_neg a0, if_neg a1], by rw [if_neg a0, if_neg a1], hm⟩
/-- a row is copied from its start -/
theorem acp_x {m : hM} {t n0 n1 N : Nat} {k : Int32} (hk : k = nI N) (ht : iaOK t = true) (hN : N ≤ sLen t n0) (hN2 : N ≤ sLen t n1) (hN3 : N < 1000) :
    ∃ M2 : hM, (∀ a b c, ¬ (a = t ∧ b = n1) → M2.1 a b c = m.1 a b c) ∧ M2.2 = m.2 ∧ (∀ c, c < N → M2.1 t n1 c = m.1 t n0 c) ∧ ∀ K, acp m t n0 0 t n1 0 k K = K M2 := by
  subst hk
  refine ⟨uR m t n1 (va_cpy (m.1 t n0) (m.1 t n1) (0 : Int32).toNatClampNeg (0 : Int32).toNatClampNeg (nI N).toNatClampNeg), fun a b c q => if_neg (fun e => q e), rfl, fun c hc => ?_, fun K => ?_⟩
  · rw [uR_row, nI_clamp (show N < 2 ^ 31 by omega), show (0 : Int32).toNatClampNeg = 0 from rfl, pk_cpy_in (by omega) (by omega), Nat.sub_zero, Nat.zero_add]
  · unfold acp
    rw [if_pos ⟨⟨ht, ht⟩, by decide, by decide, nI_pos (by omega), by rw [nI_clamp (by omega)]; show 0 + N ≤ _; omega, by rw [nI_clamp (by omega)]; show 0 + N ≤ _; omega⟩]
theorem c_copyL (m : hM) : ∃ M2 : hM, (∀ a b c, ¬ (5 ≤ a ∧ a ≤ 7 ∧ b = 0) → M2.1 a b c = m.1 a b c) ∧ M2.2 = m.2 ∧ (∀ c, c < 13 → M2.1 5 0 c = m.1 5 1 c) ∧ (∀ c, c < 16 → M2.1 6 0 c = m.1 6 1 c) ∧ (∀ c, c < 16 → M2.1 7 0 c = m.1 7 1 c) ∧ JX4_copy 0 1 m = some (none, M2) := by
  obtain ⟨A, a1, a2, a3, a4⟩ := acp_x (m := m) (t := 5) (n0 := 1) (n1 := 0) (N := 13) (k := 13) rfl (by decide) (by decide) (by decide) (by decide)
  obtain ⟨B, b1, b2, b3, b4⟩ := acp_x (m := A) (t := 6) (n0 := 1) (n1 := 0) (N := 16) (k := 16) rfl (by decide) (by decide) (by decide) (by decide)
  obtain ⟨C, c1, c2, c3, c4⟩ := acp_x (m := B) (t := 7) (n0 := 1) (n1 := 0) (N := 16) (k := 16) rfl (by decide) (by decide) (by decide) (by decide)
  refine ⟨C, fun a b c q => ?_, c2.trans (b2.trans a2), fun c hc => ?_, fun c hc => ?_, fun c hc => ?_, ?_⟩
  · rw [c1 a b c (by omega), b1 a b c (by omega), a1 a b c (by omega)]
  · rw [c1 5 0 c (by omega), b1 5 0 c (by omega)]; exact a3 c hc
  · rw [c1 6 0 c (by omega), b3 c hc, a1 6 1 c (by omega)]
  · rw [c3 c hc, b1 7 1 c (by omega), a1 7 1 c (by omega)]
  · unfold JX4_copy
    rw [a4, b4, c4]
theorem c_copyS {j : Nat} (hj : j < 4) (m : hM) : ∃ M2 : hM, (∀ a b c, ¬ (8 ≤ a ∧ a ≤ 11 ∧ b = j) → M2.1 a b c = m.1 a b c) ∧ M2.2 = m.2 ∧ M2.1 8 j 3 = m.1 8 4 3 ∧ (∀ c, c < 12 → M2.1 9 j c = m.1 9 4 c) ∧ (∀ c, c < 12 → M2.1 10 j c = m.1 10 4 c) ∧ (∀ c, c < 12 → M2.1 11 j c = m.1 11 4 c) ∧ JX7_copy j 4 m = some (none, M2) := by
  have sl : ∀ t, t = 9 ∨ t = 10 ∨ t = 11 → ∀ n, 12 ≤ sLen t n := by
    intro t ht n
    unfold sLen
    rw [if_neg (by omega)]
    rcases ht with e | e | e <;> (subst e; decide)
  obtain ⟨A, a1, a2, a3, a4⟩ := acp_x (m := m) (t := 9) (n0 := 4) (n1 := j) (N := 12) (k := 12) rfl (by decide) (sl _ (by decide) _) (sl _ (by decide) _) (by decide)
  obtain ⟨B, b1, b2, b3, b4⟩ := acp_x (m := A) (t := 10) (n0 := 4) (n1 := j) (N := 12) (k := 12) rfl (by decide) (sl _ (by decide) _) (sl _ (by decide) _) (by decide)
  obtain ⟨C, c1, c2, c3, c4⟩ := acp_x (m := B) (t := 11) (n0 := 4) (n1 := j) (N := 12) (k := 12) rfl (by decide) (sl _ (by decide) _) (sl _ (by decide) _) (by decide)
  have e8 : C.1 8 4 3 = m.1 8 4 3 := by rw [c1 8 4 3 (by omega), b1 8 4 3 (by omega), a1 8 4 3 (by omega)]
  refine ⟨uI C 8 j 3 (m.1 8 4 3), fun a b c q => ?_, c2.trans (b2.trans a2), uI_s, fun c hc => ?_, fun c hc => ?_, fun c hc => ?_, ?_⟩
  · rw [uI_x (by omega), c1 a b c (by omega), b1 a b c (by omega), a1 a b c (by omega)]
  · rw [uI_o (by decide), c1 9 j c (by omega), b1 9 j c (by omega)]; exact a3 c hc
  · rw [uI_o (by decide), c1 10 j c (by omega), b3 c hc, a1 10 4 c (by omega)]
  · rw [uI_o (by decide), c3 c hc, b1 11 4 c (by omega), a1 11 4 c (by omega)]
  · unfold JX7_copy
    rw [a4, b4, c4, stI_s, e8]
theorem c_cut {m : hM} {l : Nat} (hl : l ≤ 240) (h : m.1 1 0 4 = nI l) : JX6_cut 0 m = some (some (.inl 1), uI m 1 0 4 0) := by
  have w : hwi 0 0 (nI l) = 1 := by
    rcases hw 0 (nI l) (l + 1) (by omega) (by rw [nI_succ]; exact (Int32.add_sub_cancel _ _).symm) with ⟨j, _, _, e1⟩ | ⟨_, e2⟩
    · exact e1
    · exact absurd rfl (e2 0 (by omega))
  unfold JX6_cut
  rw [h, e_within, calI_s, w, if_neg (by decide), stI_s, jretZ_1]
theorem alen_s {t n N : Nat} {K : Int32 → hR} (ht : iaOK t = true) (hN : sLen t n = N) : alenJ t n K = K (nI N) := by
  unfold alenJ
  rw [if_pos ht, hN]
  rfl
/-- a row of State 40 is cleared -/
theorem c_fgt {t N : Nat} (ht : iaOK t = true) (hN : sLen t 40 = N) (hN2 : N < 1000) {K : hM → hR} : ∀ k i M, i + k = N → (∀ j, j < i → M.1 t 40 j = 0) → ∀ F, ∃ M2 : hM, (∀ a b c, ¬ (a = t ∧ b = 40) → M2.1 a b c = M.1 a b c) ∧ M2.2 = M.2 ∧ (∀ j, j < N → M2.1 t 40 j = 0) ∧ JX8_forget_2 K t 40 (F + k + 1) (nI i) M = K M2 := by
  intro k
  induction k with
  | zero =>
    intro i M hi hM F
    obtain rfl : i = N := by omega
    refine ⟨M, fun _ _ _ _ => rfl, rfl, hM, ?_⟩
    show bJX8_forget_2 _ _ _ _ _ _ = _
    unfold bJX8_forget_2
    rw [alen_s ht hN, if_pos (show nI i ≤ nI i from Int32.le_refl _)]
  | succ k ih =>
    intro i M hi hM F
    have hi3 : i < N := by omega
    obtain ⟨M2, a1, a2, a3, a4⟩ := ih (i + 1) (uI M t 40 i 0) (by omega) (fun j hj => by
      by_cases e : j = i
      · rw [e, uI_s]
      · rw [uI_n (Or.inr e)]; exact hM j (by omega)) F
    refine ⟨M2, fun a b c q => (a1 a b c q).trans (uI_x (fun y => q ⟨y.1, y.2.1⟩)), a2, a3, ?_⟩
    show bJX8_forget_2 _ _ _ _ _ _ = _
    unfold bJX8_forget_2
    rw [alen_s ht hN, if_neg (show ¬ nI N ≤ nI i from nI_ge hi3 (by omega)), ast_n (t := t) (n := 40) i rfl ht (by rw [hN]; exact hi3), ← nI_succ]
    exact a4
theorem c_forg {t N : Nat} (ht : iaOK t = true) (hN : sLen t 40 = N) (hN2 : N < 1000) (M : hM) : ∃ M2 : hM, (∀ a b c, ¬ (a = t ∧ b = 40) → M2.1 a b c = M.1 a b c) ∧ M2.2 = M.2 ∧ (∀ j, j < N → M2.1 t 40 j = 0) ∧ JX8_forget t 40 M = some (none, M2) := by
  obtain ⟨M2, a1, a2, a3, a4⟩ := c_fgt ht hN hN2 (K := fun m3 => some (none, m3)) N 0 M (by omega) (fun j hj => absurd hj (by omega)) (100000 - N - 1)
  refine ⟨M2, a1, a2, a3, ?_⟩
  rw [show 100000 - N - 1 + N + 1 = FU from by rw [FU_eq]; omega] at a4
  exact a4
theorem c_bg {K : hM → hR} : ∀ k i M, i + k = 6 → (∀ j, j < i → M.1 13 40 j = if j = 0 then 64 else 0) → (∀ j, j < i → M.1 14 40 j = 0) → ∀ F, ∃ M2 : hM, (∀ a b c, ¬ ((a = 13 ∨ a = 14) ∧ b = 40) → M2.1 a b c = M.1 a b c) ∧ M2.2 = M.2 ∧ (∀ j, j < 6 → M2.1 13 40 j = if j = 0 then 64 else 0) ∧ (∀ j, j < 6 → M2.1 14 40 j = 0) ∧ JX8_begin_2 K 40 0 (F + k + 1) (nI i) M = K M2 := by
  intro k
  induction k with
  | zero =>
    intro i M hi h1 h2 F
    obtain rfl : i = 6 := by omega
    refine ⟨M, fun _ _ _ _ => rfl, rfl, h1, h2, ?_⟩
    show bJX8_begin_2 _ _ _ _ _ _ = _
    unfold bJX8_begin_2
    rw [if_pos (by decide)]
  | succ k ih =>
    intro i M hi h1 h2 F
    have hi3 : i < 6 := by omega
    obtain ⟨M2, a1, a2, a3, a5, a4⟩ := ih (i + 1) (uI (uI M 13 40 i (if i = 0 then 64 else 0)) 14 40 i 0) (by omega) (fun j hj => by
      rw [uI_o (by decide)]
      by_cases e : j = i
      · rw [e, uI_s]
      · rw [uI_n (Or.inr e)]; exact h1 j (by omega)) (fun j hj => by
      by_cases e : j = i
      · rw [e, uI_s]
      · rw [uI_n (Or.inr e), uI_o (by decide)]; exact h2 j (by omega)) F
    refine ⟨M2, fun a b c q => (a1 a b c q).trans ((uI_x (by omega)).trans (uI_x (by omega))), a2, a3, a5, ?_⟩
    show bJX8_begin_2 _ _ _ _ _ _ = _
    unfold bJX8_begin_2 JX8_begin_23
    rw [if_neg (show ¬ (6 : Int32) ≤ nI i from nI_ge (b := 6) hi3 (by decide))]
    by_cases c : i = 0
    · subst c
      rw [if_pos (show nI 0 = 0 from rfl), ast_n (t := 13) (n := 40) 0 rfl (by decide) (by decide), ast_n (t := 14) (n := 40) 0 rfl (by decide) (by decide), ← nI_succ]
      exact a4
    · rw [if_neg (show ¬ nI i = 0 from nI_ne0 (by omega) (by omega)), ast_n (t := 13) (n := 40) i rfl (by decide) (show i < 6 from hi3), ast_n (t := 14) (n := 40) i rfl (by decide) (show i < 6 from hi3), ← nI_succ]
      rw [if_neg c] at a4
      exact a4
theorem c_cl0 {K : hM → hR} : ∀ k i M, i + k = 3 → (∀ j, j < i → M.1 19 40 j = 0) → ∀ F, ∃ M2 : hM, (∀ a b c, ¬ (a = 19 ∧ b = 40) → M2.1 a b c = M.1 a b c) ∧ M2.2 = M.2 ∧ (∀ j, j < 3 → M2.1 19 40 j = 0) ∧ JX10_clear_72 K 40 (F + k + 1) (nI i) M = K M2 := by
  intro k
  induction k with
  | zero =>
    intro i M hi hM F
    obtain rfl : i = 3 := by omega
    refine ⟨M, fun _ _ _ _ => rfl, rfl, hM, ?_⟩
    show bJX10_clear_72 _ _ _ _ _ = _
    unfold bJX10_clear_72
    rw [if_pos (by decide)]
  | succ k ih =>
    intro i M hi hM F
    have hi3 : i < 3 := by omega
    obtain ⟨M2, a1, a2, a3, a4⟩ := ih (i + 1) (uI M 19 40 i 0) (by omega) (fun j hj => by
      by_cases e : j = i
      · rw [e, uI_s]
      · rw [uI_n (Or.inr e)]; exact hM j (by omega)) F
    refine ⟨M2, fun a b c q => (a1 a b c q).trans (uI_x (fun y => q ⟨y.1, y.2.1⟩)), a2, a3, ?_⟩
    show bJX10_clear_72 _ _ _ _ _ = _
    unfold bJX10_clear_72
    rw [if_neg (show ¬ (3 : Int32) ≤ nI i from nI_ge (b := 3) hi3 (by decide)), ast_n (t := 19) (n := 40) i rfl (by decide) (show i < 3 from hi3), ← nI_succ]
    exact a4
def clr (M : hM) : hM := (uI (uI (uI (uI (uI (uI (uI (uI (uI (uI (uI (uI (uI (uI M 18 40 0 0) 18 40 1 0) 18 40 2 0) 18 40 3 0) 18 40 4 0) 18 40 5 0) 18 40 6 0) 18 40 7 0) 18 40 8 0) 18 40 9 0) 18 40 10 0) 18 40 11 0) 18 40 12 0) 18 40 13 0)
theorem clr_f (M : hM) : (∀ a b c, ¬ (a = 18 ∧ b = 40) → (clr M).1 a b c = M.1 a b c) ∧ (clr M).2 = M.2 ∧ ∀ j, j < 14 → (clr M).1 18 40 j = 0 := by
  refine ⟨fun a b c q => ?_, rfl, fun j hj => ?_⟩
  · unfold clr
    rw [uI_x (fun y => q ⟨y.1, y.2.1⟩), uI_x (fun y => q ⟨y.1, y.2.1⟩), uI_x (fun y => q ⟨y.1, y.2.1⟩), uI_x (fun y => q ⟨y.1, y.2.1⟩), uI_x (fun y => q ⟨y.1, y.2.1⟩), uI_x (fun y => q ⟨y.1, y.2.1⟩), uI_x (fun y => q ⟨y.1, y.2.1⟩), uI_x (fun y => q ⟨y.1, y.2.1⟩), uI_x (fun y => q ⟨y.1, y.2.1⟩), uI_x (fun y => q ⟨y.1, y.2.1⟩), uI_x (fun y => q ⟨y.1, y.2.1⟩), uI_x (fun y => q ⟨y.1, y.2.1⟩), uI_x (fun y => q ⟨y.1, y.2.1⟩), uI_x (fun y => q ⟨y.1, y.2.1⟩)]
  · unfold clr
    by_cases e13 : j = 13
    · rw [e13, uI_s]
    rw [uI_n (Or.inr e13)]
    by_cases e12 : j = 12
    · rw [e12, uI_s]
    rw [uI_n (Or.inr e12)]
    by_cases e11 : j = 11
    · rw [e11, uI_s]
    rw [uI_n (Or.inr e11)]
    by_cases e10 : j = 10
    · rw [e10, uI_s]
    rw [uI_n (Or.inr e10)]
    by_cases e9 : j = 9
    · rw [e9, uI_s]
    rw [uI_n (Or.inr e9)]
    by_cases e8 : j = 8
    · rw [e8, uI_s]
    rw [uI_n (Or.inr e8)]
    by_cases e7 : j = 7
    · rw [e7, uI_s]
    rw [uI_n (Or.inr e7)]
    by_cases e6 : j = 6
    · rw [e6, uI_s]
    rw [uI_n (Or.inr e6)]
    by_cases e5 : j = 5
    · rw [e5, uI_s]
    rw [uI_n (Or.inr e5)]
    by_cases e4 : j = 4
    · rw [e4, uI_s]
    rw [uI_n (Or.inr e4)]
    by_cases e3 : j = 3
    · rw [e3, uI_s]
    rw [uI_n (Or.inr e3)]
    by_cases e2 : j = 2
    · rw [e2, uI_s]
    rw [uI_n (Or.inr e2)]
    by_cases e1 : j = 1
    · rw [e1, uI_s]
    rw [uI_n (Or.inr e1)]
    by_cases e0 : j = 0
    · rw [e0, uI_s]
    rw [uI_n (Or.inr e0)]
    omega
theorem c_clear (M : hM) : ∃ M2 : hM, (∀ a b c, ¬ ((a = 18 ∨ a = 19) ∧ b = 40) → M2.1 a b c = M.1 a b c) ∧ M2.2 = M.2 ∧ (∀ j, j < 14 → M2.1 18 40 j = 0) ∧ (∀ j, j < 3 → M2.1 19 40 j = 0) ∧ JX10_clear 40 M = some (none, M2) := by
  have f := clr_f M
  obtain ⟨M2, a1, a2, a3, a4⟩ := c_cl0 (K := fun m3 => some (none, m3)) 3 0 (clr M) (by omega) (fun j hj => absurd hj (by omega)) 99996
  refine ⟨M2, fun a b c q => (a1 a b c (by omega)).trans (f.1 a b c (by omega)), a2.trans f.2.1, fun j hj => (a1 18 40 j (by omega)).trans (f.2.2 j hj), a3, ?_⟩
  unfold JX10_clear
  rw [stI_s, stI_s, stZ_0, stI_s, stI_s, stI_s, stI_s, stI_s, stI_s, stI_s, stI_s, stI_s, stI_s, stI_s]
  exact a4
theorem c_rul0 {M : hM} {k : Nat} {x : Int32} (hk : k < 13) (hx : M.1 5 0 k = x) : JX4_ruleOf 0 (nI k) M = some (some (.inl x), M) := by
  have w : hwi (nI k) 0 12 = 1 := by
    rcases hw (nI k) 12 13 (by decide) (by decide) with ⟨j, _, _, e1⟩ | ⟨_, e2⟩
    · exact e1
    · exact absurd rfl (e2 k hk)
  unfold JX4_ruleOf
  rw [e_within, calI_s, w, if_neg (by decide), ald_n (t := 5) (n := 0) k rfl (by decide) (show k < 13 from hk), hx]
/-- the row of a line that was just taken -/
def rw0 (f : Nat → Int32) : Nat → Int32 := fun c => if c = 0 then 64 else if c = 12 then f 4 else if c = 19 then f 8 else if c = 20 then f 7 else if c = 21 then f 9 else 0

def bgI (f : Nat → Int32) (M : hM) : hM := (uI (uI (uI (uI (uI (uI (uI (uI (uI (uI (uI M 12 40 6 0) 12 40 7 0) 12 40 8 0) 12 40 9 (f 4)) 12 40 10 0) 12 40 11 (f 5)) 12 40 12 (f 7)) 12 40 13 (f 8)) 12 40 14 (f 9)) 12 40 15 0) 12 40 16 0)
def bgn (f : Nat → Int32) (M : hM) : hM := uL (bgI f M) 12 40 17 0
theorem bgn_f (f : Nat → Int32) (M : hM) : (∀ a b c, ¬ (a = 12 ∧ b = 40) → (bgn f M).1 a b c = M.1 a b c) ∧ (∀ a b c, ¬ (a = 12 ∧ b = 40 ∧ c = 17) → (bgn f M).2 a b c = M.2 a b c) ∧ (bgn f M).2 12 40 17 = 0 ∧ ((bgn f M).1 12 40 6 = 0 ∧ (bgn f M).1 12 40 7 = 0 ∧ (bgn f M).1 12 40 8 = 0 ∧ (bgn f M).1 12 40 9 = (f 4) ∧ (bgn f M).1 12 40 10 = 0 ∧ (bgn f M).1 12 40 11 = (f 5) ∧ (bgn f M).1 12 40 12 = (f 7) ∧ (bgn f M).1 12 40 13 = (f 8) ∧ (bgn f M).1 12 40 14 = (f 9) ∧ (bgn f M).1 12 40 15 = 0 ∧ (bgn f M).1 12 40 16 = 0) := by
  refine ⟨fun a b c q => ?_, fun a b c q => (if_neg q : (uL (bgI f M) 12 40 17 0).2 a b c = _), (by show (if 12 = 12 ∧ 40 = 40 ∧ 17 = 17 then (0 : Int64) else (bgI f M).2 12 40 17) = 0; exact if_pos ⟨rfl, rfl, rfl⟩), ?_, ?_, ?_, ?_, ?_, ?_, ?_, ?_, ?_, ?_, ?_⟩
  · show (bgI f M).1 a b c = _
    unfold bgI
    rw [uI_x (fun y => q ⟨y.1, y.2.1⟩), uI_x (fun y => q ⟨y.1, y.2.1⟩), uI_x (fun y => q ⟨y.1, y.2.1⟩), uI_x (fun y => q ⟨y.1, y.2.1⟩), uI_x (fun y => q ⟨y.1, y.2.1⟩), uI_x (fun y => q ⟨y.1, y.2.1⟩), uI_x (fun y => q ⟨y.1, y.2.1⟩), uI_x (fun y => q ⟨y.1, y.2.1⟩), uI_x (fun y => q ⟨y.1, y.2.1⟩), uI_x (fun y => q ⟨y.1, y.2.1⟩), uI_x (fun y => q ⟨y.1, y.2.1⟩)]
  · show (bgI f M).1 12 40 6 = _
    unfold bgI
    rw [uI_n (by decide), uI_n (by decide), uI_n (by decide), uI_n (by decide), uI_n (by decide), uI_n (by decide), uI_n (by decide), uI_n (by decide), uI_n (by decide), uI_n (by decide), uI_s]
  · show (bgI f M).1 12 40 7 = _
    unfold bgI
    rw [uI_n (by decide), uI_n (by decide), uI_n (by decide), uI_n (by decide), uI_n (by decide), uI_n (by decide), uI_n (by decide), uI_n (by decide), uI_n (by decide), uI_s]
  · show (bgI f M).1 12 40 8 = _
    unfold bgI
    rw [uI_n (by decide), uI_n (by decide), uI_n (by decide), uI_n (by decide), uI_n (by decide), uI_n (by decide), uI_n (by decide), uI_n (by decide), uI_s]
  · show (bgI f M).1 12 40 9 = _
    unfold bgI
    rw [uI_n (by decide), uI_n (by decide), uI_n (by decide), uI_n (by decide), uI_n (by decide), uI_n (by decide), uI_n (by decide), uI_s]
  · show (bgI f M).1 12 40 10 = _
    unfold bgI
    rw [uI_n (by decide), uI_n (by decide), uI_n (by decide), uI_n (by decide), uI_n (by decide), uI_n (by decide), uI_s]
  · show (bgI f M).1 12 40 11 = _
    unfold bgI
    rw [uI_n (by decide), uI_n (by decide), uI_n (by decide), uI_n (by decide), uI_n (by decide), uI_s]
  · show (bgI f M).1 12 40 12 = _
    unfold bgI
    rw [uI_n (by decide), uI_n (by decide), uI_n (by decide), uI_n (by decide), uI_s]
  · show (bgI f M).1 12 40 13 = _
    unfold bgI
    rw [uI_n (by decide), uI_n (by decide), uI_n (by decide), uI_s]
  · show (bgI f M).1 12 40 14 = _
    unfold bgI
    rw [uI_n (by decide), uI_n (by decide), uI_s]
  · show (bgI f M).1 12 40 15 = _
    unfold bgI
    rw [uI_n (by decide), uI_s]
  · show (bgI f M).1 12 40 16 = _
    unfold bgI
    rw [uI_s]
theorem c_begin {M : hM} {f : Nat → Int32} (hf : ∀ k, k < 13 → M.1 5 0 k = f k) : ∃ M2 : hM, (∀ a b c, ¬ (12 ≤ a ∧ a ≤ 19 ∧ b = 40) → M2.1 a b c = M.1 a b c) ∧ (∀ a b c, ¬ (a = 12 ∧ b = 40 ∧ c = 17) → M2.2 a b c = M.2 a b c) ∧ M2.2 12 40 17 = 0 ∧ Eq9 (vec M2 40) (rw0 f) ∧ vec M2 40 1088 = f 5 ∧ JX8_begin 40 0 M = some (none, M2) := by
  obtain ⟨M1, a1, a2, a3, a4, a5⟩ := c_bg (K := fun m3 => calV (JX8_forget 15 40 m3) fun m4 =>
  calV (JX8_forget 16 40 m4) fun m5 =>
  calV (JX8_forget 17 40 m5) fun m6 =>
  calV (JX10_clear 40 m6) fun m7 =>
  stI m7 12 40 6 0 fun m8 =>
  stI m8 12 40 7 0 fun m9 =>
  stI m9 12 40 8 0 fun m10 =>
  calI (JX4_ruleOf 0 4 m10) fun x12 m11 =>
  stI m11 12 40 9 x12 fun m13 =>
  stI m13 12 40 10 0 fun m14 =>
  calI (JX4_ruleOf 0 5 m14) fun x16 m15 =>
  stI m15 12 40 11 x16 fun m17 =>
  calI (JX4_ruleOf 0 7 m17) fun x19 m18 =>
  stI m18 12 40 12 x19 fun m20 =>
  calI (JX4_ruleOf 0 8 m20) fun x22 m21 =>
  stI m21 12 40 13 x22 fun m23 =>
  calI (JX4_ruleOf 0 9 m23) fun x25 m24 =>
  stI m24 12 40 14 x25 fun m26 =>
  stZ m26 12 40 15 0 fun m27 =>
  stZ m27 12 40 16 0 fun m28 =>
  stL m28 12 40 17 0 fun m29 =>
  some (none, m29)) 6 0 M (by omega) (fun j hj => absurd hj (by omega)) (fun j hj => absurd hj (by omega)) 99993
  obtain ⟨M3, b1, b2, b3, b4⟩ := c_forg (t := 15) (N := 6) (by decide) (by decide) (by decide) M1
  obtain ⟨M4, c1, c2, c3, c4⟩ := c_forg (t := 16) (N := 3) (by decide) (by decide) (by decide) M3
  obtain ⟨M5, d1, d2, d3, d4⟩ := c_forg (t := 17) (N := 3) (by decide) (by decide) (by decide) M4
  obtain ⟨M6, e1, e2, e3, e5, e4⟩ := c_clear M5
  obtain ⟨g1, g2, g3, h6, h7, h8, h9, h10, h11, h12, h13, h14, h15, h16⟩ := bgn_f f M6
  have fr : ∀ a b c, ¬ (12 ≤ a ∧ a ≤ 19 ∧ b = 40) → M6.1 a b c = M.1 a b c := fun a b c q => by
    rw [e1 a b c (by omega), d1 a b c (by omega), c1 a b c (by omega), b1 a b c (by omega), a1 a b c (by omega)]
  have r5 : ∀ k, k < 13 → M6.1 5 0 k = f k := fun k hk => (fr 5 0 k (by omega)).trans (hf k hk)
  have k13 : ∀ j, j < 6 → (bgn f M6).1 13 40 j = if j = 0 then 64 else 0 := fun j hj => by
    rw [g1 13 40 j (by omega), e1 13 40 j (by omega), d1 13 40 j (by omega), c1 13 40 j (by omega), b1 13 40 j (by omega)]; exact a3 j hj
  have k14 : ∀ j, j < 6 → (bgn f M6).1 14 40 j = 0 := fun j hj => by
    rw [g1 14 40 j (by omega), e1 14 40 j (by omega), d1 14 40 j (by omega), c1 14 40 j (by omega), b1 14 40 j (by omega)]; exact a4 j hj
  have k15 : ∀ j, j < 6 → (bgn f M6).1 15 40 j = 0 := fun j hj => by
    rw [g1 15 40 j (by omega), e1 15 40 j (by omega), d1 15 40 j (by omega), c1 15 40 j (by omega)]; exact b3 j hj
  have k16 : ∀ j, j < 3 → (bgn f M6).1 16 40 j = 0 := fun j hj => by
    rw [g1 16 40 j (by omega), e1 16 40 j (by omega), d1 16 40 j (by omega)]; exact c3 j hj
  have k17 : ∀ j, j < 3 → (bgn f M6).1 17 40 j = 0 := fun j hj => by
    rw [g1 17 40 j (by omega), e1 17 40 j (by omega)]; exact d3 j hj
  have k18 : ∀ j, j < 14 → (bgn f M6).1 18 40 j = 0 := fun j hj => by
    rw [g1 18 40 j (by omega)]; exact e3 j hj
  have k19 : ∀ j, j < 3 → (bgn f M6).1 19 40 j = 0 := fun j hj => by
    rw [g1 19 40 j (by omega)]; exact e5 j hj
  refine ⟨bgn f M6, fun a b c q => (g1 a b c (by omega)).trans (fr a b c q), fun a b c q => by rw [g2 a b c q, e2, d2, c2, b2, a2], g3, fun i hi => ?_, h11, ?_⟩
  · match i, hi with
    | 0, _ => exact k13 0 (by decide)
    | 1, _ => exact k13 1 (by decide)
    | 2, _ => exact k13 2 (by decide)
    | 3, _ => exact k13 3 (by decide)
    | 4, _ => exact k13 4 (by decide)
    | 5, _ => exact k13 5 (by decide)
    | 6, _ => exact k14 0 (by decide)
    | 7, _ => exact k14 1 (by decide)
    | 8, _ => exact k14 2 (by decide)
    | 9, _ => exact k14 3 (by decide)
    | 10, _ => exact k14 4 (by decide)
    | 11, _ => exact k14 5 (by decide)
    | 12, _ => exact h9
    | 13, _ => exact h10
    | 14, _ => exact h7
    | 15, _ => exact h8
    | 16, _ => exact h15
    | 17, _ => exact k18 2 (by decide)
    | 18, _ => exact h6
    | 19, _ => exact h13
    | 20, _ => exact h12
    | 21, _ => exact h14
    | 22, _ => exact h16
    | 23, _ => exact k18 0 (by decide)
    | 24, _ => exact k18 1 (by decide)
    | 25, _ => exact k18 3 (by decide)
    | 26, _ => exact k18 4 (by decide)
    | 27, _ => exact k18 5 (by decide)
    | 28, _ => exact k18 6 (by decide)
    | 29, _ => exact k18 7 (by decide)
    | 30, _ => exact k18 8 (by decide)
    | 31, _ => exact k15 0 (by decide)
    | 32, _ => exact k15 1 (by decide)
    | 33, _ => exact k15 2 (by decide)
    | 34, _ => exact k15 3 (by decide)
    | 35, _ => exact k15 4 (by decide)
    | 36, _ => exact k15 5 (by decide)
    | 37, _ => exact k16 0 (by decide)
    | 38, _ => exact k16 1 (by decide)
    | 39, _ => exact k16 2 (by decide)
    | 40, _ => exact k17 0 (by decide)
    | 41, _ => exact k17 1 (by decide)
    | 42, _ => exact k17 2 (by decide)
    | 43, _ => exact k18 12 (by decide)
    | 44, _ => exact k18 10 (by decide)
    | 45, _ => exact k18 11 (by decide)
    | 46, _ => exact k19 0 (by decide)
    | 47, _ => exact k19 1 (by decide)
    | 48, _ => exact k19 2 (by decide)
    | k + 49, z => exact absurd z (by omega)
  · unfold JX8_begin
    refine a5.trans ?_
    rw [b4, calV_s, c4, calV_s, d4, calV_s, e4, calV_s, stI_s, stI_s, stI_s, show (4 : Int32) = nI 4 from rfl, c_rul0 (by decide) (show _ = f 4 by rw [uI_o (by decide), uI_o (by decide), uI_o (by decide)]; exact r5 4 (by decide)), calI_s, stI_s, stI_s, show (5 : Int32) = nI 5 from rfl, c_rul0 (by decide) (show _ = f 5 by rw [uI_o (by decide), uI_o (by decide), uI_o (by decide), uI_o (by decide), uI_o (by decide)]; exact r5 5 (by decide)), calI_s, stI_s, show (7 : Int32) = nI 7 from rfl, c_rul0 (by decide) (show _ = f 7 by rw [uI_o (by decide), uI_o (by decide), uI_o (by decide), uI_o (by decide), uI_o (by decide), uI_o (by decide)]; exact r5 7 (by decide)), calI_s, stI_s, show (8 : Int32) = nI 8 from rfl, c_rul0 (by decide) (show _ = f 8 by rw [uI_o (by decide), uI_o (by decide), uI_o (by decide), uI_o (by decide), uI_o (by decide), uI_o (by decide), uI_o (by decide)]; exact r5 8 (by decide)), calI_s, stI_s, show (9 : Int32) = nI 9 from rfl, c_rul0 (by decide) (show _ = f 9 by rw [uI_o (by decide), uI_o (by decide), uI_o (by decide), uI_o (by decide), uI_o (by decide), uI_o (by decide), uI_o (by decide), uI_o (by decide)]; exact r5 9 (by decide)), calI_s, stI_s, stZ_0, stZ_0, stL_s]
    rfl
