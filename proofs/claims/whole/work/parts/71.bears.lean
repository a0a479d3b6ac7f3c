/-! bears -/
def wtS (v : Nat → Int32) (F : Nat) : Int32 := sumN (fun i => hsz (v i)) F
theorem hsz_b {a : Int32} {N : Nat} (h : ab a N) (hN : N < 2147483648) : bw (hsz a) 0 N := by
  have h1 := h.1; have h2 := h.2
  unfold hsz
  by_cases c : 0 ≤ a
  · rw [if_pos c]
    rw [Int32.le_iff_toInt_le, Int32.toInt_zero] at c
    exact ⟨c, h2⟩
  · rw [if_neg c]
    rw [Int32.le_iff_toInt_le, Int32.toInt_zero] at c
    have e := j_neg (x := a) (by omega) (by omega)
    exact ⟨by rw [e]; omega, by rw [e]; omega⟩
theorem bw_add {a b : Int32} {l h l2 h2 : Int} (p : bw a l h) (q : bw b l2 h2) (x : -2147483648 ≤ l + l2) (y : h + h2 < 2147483648) : bw (a + b) (l + l2) (h + h2) := by
  have p1 := p.1; have p2 := p.2; have q1 := q.1; have q2 := q.2
  have e := j_add (x := a) (y := b) (by omega) (by omega)
  exact ⟨by rw [e]; omega, by rw [e]; omega⟩
theorem wtS_b {v : Nat → Int32} {F : Nat} (hF : F ≤ 3) (hv : ∀ i, i < 6 → bw (v i) (-255) 255) : bw (wtS v F) 0 765 := by
  have e : ∀ n, n ≤ F → bw (wtS v n) 0 (n * 255) := by
    intro n
    induction n with
    | zero =>
      intro _
      exact ⟨by show 0 ≤ (0 : Int32).toInt; rw [Int32.toInt_zero]; omega, by show (0 : Int32).toInt ≤ _; rw [Int32.toInt_zero]; omega⟩
    | succ n ih =>
      intro hn
      have q2 : ab (v n) 255 := hv n (by omega)
      have q := hsz_b (N := 255) q2 (by omega)
      have z := bw_add (ih (by omega)) q (by omega) (by omega)
      show bw (wtS v n + hsz (v n)) 0 (((n + 1 : Nat) : Int) * 255)
      exact ⟨by have := z.1; omega, by have := z.2; omega⟩
  have z := e F (Nat.le_refl _)
  exact ⟨z.1, by have := z.2; omega⟩
/-- N is borne -/
def brC (hi lo w : Int32) (n : Nat) : Prop := (n : Int) * w.toInt ≤ hi.toInt ∧ lo.toInt + n * w.toInt < 0
section
variable {hi lo w : Int32}
theorem nw_e {n : Nat} (hw : bw w 0 765) (hn : n ≤ 100) : (nI n * w).toInt = n * w.toInt ∧ 0 ≤ (n : Int) * w.toInt ∧ (n : Int) * w.toInt ≤ 76500 := by
  have w1 := hw.1; have w2 := hw.2
  have z : 0 ≤ (n : Int) * w.toInt ∧ (n : Int) * w.toInt ≤ 100 * 765 := by
    refine ⟨Int.mul_nonneg (by omega) w1, ?_⟩
    exact Int.mul_le_mul (by omega) w2 w1 (by omega)
  have e : (nI n).toInt = n := nI_toInt (by omega)
  have e2 := j_mul (x := nI n) (y := w) (by rw [e]; omega) (by rw [e]; omega)
  rw [e] at e2
  exact ⟨e2, z.1, by omega⟩
theorem br_1 {n : Nat} (hw : bw w 0 765) (hn : n ≤ 100) (h1 : ab hi 1000000) : ((hi - nI n * w) < 0) ↔ ¬ (n : Int) * w.toInt ≤ hi.toInt := by
  obtain ⟨e, z1, z2⟩ := nw_e hw hn
  have a1 := h1.1; have a2 := h1.2
  have s := j_sub (x := hi) (y := nI n * w) (by rw [e]; omega) (by rw [e]; omega)
  rw [Int32.lt_iff_toInt_lt, Int32.toInt_zero, s, e]
  omega
theorem br_2 {n : Nat} (hw : bw w 0 765) (hn : n ≤ 100) (h1 : ab lo 1000000) : (0 ≤ (lo + nI n * w)) ↔ ¬ lo.toInt + n * w.toInt < 0 := by
  obtain ⟨e, z1, z2⟩ := nw_e hw hn
  have a1 := h1.1; have a2 := h1.2
  have s := j_add (x := lo) (y := nI n * w) (by rw [e]; omega) (by rw [e]; omega)
  rw [Int32.le_iff_toInt_le, Int32.toInt_zero, s, e]
  omega
theorem brC_mono {n k : Nat} (hw : bw w 0 765) (h : n ≤ k) (q : brC hi lo w k) : brC hi lo w n := by
  have w1 := hw.1
  have z : (n : Int) * w.toInt ≤ k * w.toInt := Int.mul_le_mul_of_nonneg_right (by omega) w1
  exact ⟨by have := q.1; omega, by have := q.2; omega⟩
/-- how many are borne, from 0 -/
theorem br_k (hw : bw w 0 765) : ∃ k, k ≤ 100 ∧ (∀ n, n < k → brC hi lo w n) ∧ (k = 100 ∨ ¬ brC hi lo w k) := by
  obtain ⟨k, h1, h2⟩ := pk_least (fun k => k = 100 ∨ ¬ brC hi lo w k) ⟨100, Or.inl rfl⟩
  refine ⟨k, ?_, fun n hn => ?_, h1⟩
  · apply Nat.le_of_not_lt
    intro z
    exact h2 100 z (Or.inl rfl)
  · have := h2 n hn
    exact Classical.byContradiction (fun z => this (Or.inr z))
end
def nI1 (k : Nat) : Int32 := if k = 0 then -1 else nI (k - 1)
theorem c_bear {m : hM} {hi lo w : Int32} {k : Nat} (hw : bw w 0 765) (h1 : ab hi 1000000) (h2 : ab lo 1000000) (hk : k ≤ 100) (k1 : ∀ n, n < k → brC hi lo w n) (k2 : k = 100 ∨ ¬ brC hi lo w k) : JX3_bearable_63 hi lo w m = some (some (.inl (nI1 k)), m) := by
  unfold JX3_bearable_63
  have neg : ∀ n, k ≤ n → n < 100 → ¬ brC hi lo w n := fun n a b z => by
    rcases k2 with e | e
    · omega
    · exact e (brC_mono hw a z)
  have key : ∀ i, i ≤ 100 - k → ∀ f, JX3_bearable_67 (fun v7 m13 => some (some (.inl v7), m13)) (fun m14 => some (some (.inl (-1)), m14)) hi lo w (f + i) (nI 100 - 1) m = JX3_bearable_67 (fun v7 m13 => some (some (.inl v7), m13)) (fun m14 => some (some (.inl (-1)), m14)) hi lo w f (nI (100 - i) - 1) m := by
    intro i
    induction i with
    | zero => intro _ f; rfl
    | succ i ih =>
      intro hi2 f
      rw [show f + (i + 1) = f + 1 + i from by omega, ih (by omega)]
      obtain ⟨n, hn⟩ : ∃ n, 100 - i = n + 1 := ⟨100 - i - 1, by omega⟩
      rw [hn, nI_pred]
      show bJX3_bearable_67 _ _ _ _ _ _ (nI n) _ = _
      unfold bJX3_bearable_67 JX3_bearable_97
      have ng := neg n (by omega) (by omega)
      have en : nI n + -1 = nI (100 - (i + 1)) - 1 := by
        rw [show 100 - (i + 1) = n from by omega, Int32.sub_eq_add_neg]
      rw [if_neg (nI_pos (by omega)), en]
      by_cases c1 : (hi - nI n * w) < 0
      · rw [if_pos c1]
      · rw [if_neg c1]
        by_cases c2 : 0 ≤ (lo + nI n * w)
        · rw [if_pos c2]
        · exfalso
          apply ng
          refine ⟨Classical.byContradiction (fun z => c1 ((br_1 hw (by omega) h1).mpr z)), Classical.byContradiction (fun z => c2 ((br_2 hw (by omega) h2).mpr z))⟩
  have e := key (100 - k) (Nat.le_refl _) (100000 - (100 - k) - 1 + 1)
  rw [show 100000 - (100 - k) - 1 + 1 + (100 - k) = FU from by rw [FU_eq]; omega, show 100 - (100 - k) = k from by omega] at e
  show JX3_bearable_67 _ _ hi lo w FU (nI 100 - 1) m = _
  rw [e]
  show bJX3_bearable_67 _ _ _ _ _ _ (nI k - 1) _ = _
  unfold bJX3_bearable_67 nI1
  by_cases c0 : k = 0
  · subst c0
    rw [if_pos (by decide), if_pos rfl]
  · obtain ⟨n, rfl⟩ : ∃ n, k = n + 1 := ⟨k - 1, by omega⟩
    have p := k1 n (by omega)
    rw [nI_pred, if_neg (nI_pos (by omega)), if_neg (fun z => (br_1 hw (by omega) h1).mp z p.1), if_neg (fun z => (br_2 hw (by omega) h2).mp z p.2), if_neg c0]
    rfl
theorem m_bear {m : hM} {hi lo w : Int32} {k : Nat} (hw : bw w 0 765) (h1 : ab hi 1000000) (h2 : ab lo 1000000) (hk : k ≤ 100) (k1 : ∀ n, n < k → brC hi lo w n) (k2 : k = 100 ∨ ¬ brC hi lo w k) (e25 : m.1 40 0 25 = hi) (e26 : m.1 40 0 26 = lo) : JX12_bears_52 (fun v3 m10 => some (some (.inl v3), m10)) w FU (-1) m = some (some (.inl (nI1 k)), m) := by
  have key : ∀ i, i ≤ k → ∀ f, JX12_bears_52 (fun v3 m10 => some (some (.inl v3), m10)) w (f + i) (nI 0 - 1) m = JX12_bears_52 (fun v3 m10 => some (some (.inl v3), m10)) w f (nI i - 1) m := by
    intro i
    induction i with
    | zero => intro _ f; rfl
    | succ i ih =>
      intro hi2 f
      rw [show f + (i + 1) = f + 1 + i from by omega, ih (by omega)]
      show bJX12_bears_52 _ _ _ (nI i - 1) _ = _
      unfold bJX12_bears_52
      have en : nI i - 1 + 1 = nI i := Int32.sub_add_cancel _ _
      have p := k1 i (by omega)
      have c99 : ¬ 99 ≤ nI i - 1 := by
        rcases (show i = 0 ∨ ∃ j, i = j + 1 from (Nat.eq_zero_or_pos i).imp id (fun q => ⟨i - 1, by omega⟩)) with z | ⟨j, z⟩
        · subst z; decide
        · subst z
          rw [nI_pred]
          exact nI_ge (b := 99) (by omega) (by decide)
      rw [if_neg c99, en, e25, e26, if_neg (fun z => (br_1 hw (by omega) h1).mp z p.1), if_neg (fun z => (br_2 hw (by omega) h2).mp z p.2), show nI i = nI (i + 1) - 1 from (nI_pred i).symm]
  have e := key k (Nat.le_refl _) (100000 - k - 1 + 1)
  rw [show 100000 - k - 1 + 1 + k = FU from by rw [FU_eq]; omega] at e
  refine Eq.trans e ?_
  have en : nI k - 1 + 1 = nI k := Int32.sub_add_cancel _ _
  have em : nI k - 1 = nI1 k := by
    unfold nI1
    rcases (show k = 0 ∨ ∃ j, k = j + 1 from (Nat.eq_zero_or_pos k).imp id (fun q => ⟨k - 1, by omega⟩)) with z | ⟨j, z⟩
    · subst z; decide
    · subst z
      rw [nI_pred, if_neg (by omega)]
      rfl
  show bJX12_bears_52 _ _ _ (nI k - 1) _ = _
  unfold bJX12_bears_52
  rw [en, e25, e26, em]
  by_cases c : k = 100
  · rw [if_pos]
    subst c
    decide
  · have nc := k2.resolve_left c
    by_cases c9 : 99 ≤ nI1 k
    · rw [if_pos c9]
    · rw [if_neg c9]
      by_cases c1 : (hi - nI k * w) < 0
      · rw [if_pos c1]
      · rw [if_neg c1]
        by_cases c2 : 0 ≤ (lo + nI k * w)
        · rw [if_pos c2]
        · exfalso
          apply nc
          refine ⟨Classical.byContradiction (fun z => c1 ((br_1 hw (by omega) h1).mpr z)), Classical.byContradiction (fun z => c2 ((br_2 hw (by omega) h2).mpr z))⟩
theorem k_bears (a : Int32) : Ok1 (JX11_bears a) (JX12_bears a) := Ok1_q fun m hm => by
  unfold JX11_bears JX12_bears
  by_cases c0 : m.1 0 0 12 = 0
  · have z := i_no0 hm c0 a
    exact ⟨_, m, m, by rw [z.1, calI_s, if_pos rfl], by rw [z.2, calI_s, if_pos rfl], Same_r m⟩
  · obtain ⟨F, B, D, P, W, t, h⟩ := Inv_cx hm c0
    rw [c_isPhase h, calI_s]
    rcases hw a 3 4 (by decide) (by decide) with ⟨ph, hp, ea, e1⟩ | ⟨e1, _⟩
    · subst ea
      obtain ⟨m1, a1, a2, a3, a4, a5, a6, a7⟩ := t_look h (ph := ph) (by omega)
      have hF : F ≤ 3 := h.1.1.2.2.2.2.2.2.1
      have hD : D ≤ 2 := h.1.1.2.2.2.2.2.2.2.2.1
      have lay := m_lay a4.1 (ph := ph) (by omega)
      rw [a7] at lay
      have ch := c_high a3 a5 a6
      have cl := c_low a3 a5 a6
      have b1 := (hi_eq (D := D) a6 hD).2
      have b2 := (lo_eq (D := D) a6 hD).2
      generalize hiR D (zR m F B D P ph) = hi at *
      generalize loR D (zR m F B D P ph) = lo at *
      have hv := (CX_ey h).2.2.2
      have e50 : m1.1 50 0 = m.1 50 0 := by funext i; exact a2.1 50 0 i (by omega)
      have hw := wtS_b hF hv
      obtain ⟨k, k0, k1, k2⟩ := br_k (hi := hi) (lo := lo) hw
      have ey1 := (CX_ey a4).2.2.1
      rw [e50] at ey1
      have cS : JX3_bearable_27 (fun v6 m12 => JX3_bearable_63 hi lo v6 m12) 0 40 hi lo FU 0 0 m1 = JX3_bearable_63 hi lo (wtS (m.1 50 0) F) m1 := by
        refine Eq.trans (lpF (fun f (x : Int32 × Int32) => JX3_bearable_27 (fun v6 m12 => JX3_bearable_63 hi lo v6 m12) 0 40 hi lo f x.1 x.2 m1) (fun i => (wtS (m.1 50 0) i, nI i)) F (by omega) (by
          intro i f hi2
          show bJX3_bearable_27 _ _ _ _ _ _ _ (nI i) _ = _
          unfold bJX3_bearable_27
          rw [g_fore a3, calI_s, if_neg (nI_ge hi2 (by omega)), if_neg (n3 (by omega)), ald_n (t := 13) (n := 40) i rfl (by decide) (show i < 6 by omega), ey1 i (by omega), e_sizeOf, calI_s, lt_s9, ← nI_succ]
          rfl)) ?_
        show bJX3_bearable_27 _ _ _ _ _ _ _ (nI F) _ = _
        unfold bJX3_bearable_27
        rw [g_fore a3, calI_s, if_pos (nI_le (by omega) (by omega))]
      have mS : ∀ K, JX12_bears_20 K FU 0 0 (HL m1 hi lo) = K (wtS (m.1 50 0) F) (HL m1 hi lo) := by
        intro K
        have l2 := LL_HL (h := hi) (l := lo) a4.1
        refine Eq.trans (lpF (fun f (x : Int32 × Int32) => JX12_bears_20 K f x.1 x.2 (HL m1 hi lo)) (fun i => (wtS (m.1 50 0) i, nI i)) F (by omega) (by
          intro i f hi2
          show bJX12_bears_20 _ _ _ (nI i) _ = _
          unfold bJX12_bears_20
          rw [ald_n (i := 1) (t := 45) (n := 0) 1 rfl (by decide) (by decide), l2.2.1.1 1 (by decide), l2.1.2.1, if_neg (nI_ge hi2 (by omega)), z0n, rd i rfl (by omega), HL_o (Or.inl (by decide)), e50, e_size, calI_s, lt_s9, ← nI_succ]
          rfl)) ?_
        show bJX12_bears_20 _ _ _ (nI F) _ = _
        unfold bJX12_bears_20
        rw [ald_n (i := 1) (t := 45) (n := 0) 1 rfl (by decide) (by decide), l2.2.1.1 1 (by decide), l2.1.2.1, if_pos (nI_le (by omega) (by omega))]
      refine ⟨nI1 k, m1, HL m1 hi lo, ?_, ?_, Same_t (Same_Ex a2) Same_HL⟩
      · unfold JX3_bearable
        rw [e1, if_neg (by decide), a1, calV_s, ch, calI_s, cl, calI_s, cS, c_bear hw b1 b2 k0 k1 k2, calI_s]
      · rw [m_isPhase a4, calI_s, e1, if_neg (by decide), lay, calV_s, mS]
        exact m_bear hw b1 b2 k0 k1 k2 HL_25 HL_26
    · exact ⟨_, m, m, by rw [e1, if_pos rfl], by rw [m_isPhase h, calI_s, e1, if_pos rfl], Same_r m⟩
