/-! map -/
theorem xor_neg (a : Int32) : (0 ≤ (a ^^^ 64)) ↔ 0 ≤ a := by
  rw [Int32.le_iff_toInt_le, Int32.le_iff_toInt_le, Int32.toInt_zero]
  have e : ∀ x : BitVec 32, (0 ≤ x.toInt) ↔ x.msb = false := fun x => by
    rw [BitVec.msb_eq_toInt]
    constructor
    · intro h; exact decide_eq_false (by omega)
    · intro h; have := of_decide_eq_false h; omega
  show (0 ≤ (a.toBitVec ^^^ (64 : Int32).toBitVec).toInt) ↔ 0 ≤ a.toBitVec.toInt
  rw [e, e, BitVec.msb_xor, show (64 : Int32).toBitVec.msb = false from by decide, Bool.xor_false]
theorem fdv_64 {a : Int32} (h : ab a 1000000) : (fdv a 64).toInt = a.toInt / 64 := by
  have a1 := h.1; have a2 := h.2
  have ed : (a / 64).toInt = a.toInt.tdiv 64 := by
    rw [Int32.toInt_div, show (64 : Int32).toInt = 64 from by decide]
    have z : (a.toInt.tdiv 64).natAbs ≤ a.toInt.natAbs := by rw [Int.natAbs_tdiv]; exact Nat.div_le_self _ _
    exact bm32 (by omega) (by omega)
  unfold fdv
  by_cases c : 0 ≤ a.toInt
  · rw [if_pos ((xor_neg a).mpr (by rw [Int32.le_iff_toInt_le, Int32.toInt_zero]; exact c)), ed]
    exact Int.tdiv_eq_ediv_of_nonneg c
  · rw [if_neg (fun z => c (by have := (xor_neg a).mp z; rw [Int32.le_iff_toInt_le, Int32.toInt_zero] at this; exact this))]
    have t1 : a.toInt.tdiv 64 = -((-a.toInt) / 64) := by
      rw [← Int.tdiv_eq_ediv_of_nonneg (by omega), Int.neg_tdiv, Int.neg_neg]
    have em : ((a / 64) * 64).toInt = a.toInt.tdiv 64 * 64 := by
      rw [j_mul (by rw [ed, t1, show (64 : Int32).toInt = 64 from by decide]; omega) (by rw [ed, t1, show (64 : Int32).toInt = 64 from by decide]; omega), ed, show (64 : Int32).toInt = 64 from by decide]
    by_cases c2 : (a / 64) * 64 = a
    · rw [if_pos c2, ed, t1]
      have : ((a / 64) * 64).toInt = a.toInt := by rw [c2]
      rw [em, t1] at this
      omega
    · rw [if_neg c2, j_sub (by rw [ed, t1, show (1 : Int32).toInt = 1 from by decide]; omega) (by rw [ed, t1, show (1 : Int32).toInt = 1 from by decide]; omega), ed, t1, show (1 : Int32).toInt = 1 from by decide]
      have : ¬ a.toInt.tdiv 64 * 64 = a.toInt := fun z => c2 (Int32.toInt_inj.mp (by rw [em]; exact z))
      rw [t1] at this
      omega
/-- how many v are open, of the first n from -L -/
def opF (hi lo : Int32) (L : Nat) : Nat → Int32 → Int32 := fun i x => if 64 * (nI i - nI L) ≤ lo then x + 0 else if hi < 64 * (nI i - nI L) then x + 0 else x + 1
def opN (hi lo : Int) (L : Nat) : Nat → Nat
  | 0 => 0
  | n + 1 => opN hi lo L n + (if lo < 64 * ((n : Int) - L) ∧ 64 * ((n : Int) - L) ≤ hi then 1 else 0)
theorem opN_e {hi lo : Int} {L : Nat} : ∀ n, (opN hi lo L n : Int) = max 0 (min (min (L : Int) (hi / 64)) ((n : Int) - 1 - L) - max (-(L : Int)) (lo / 64 + 1) + 1) ∨ 2 * L + 1 < n := by
  intro n
  induction n with
  | zero =>
    left
    show ((0 : Nat) : Int) = _
    omega
  | succ n ih =>
    rcases ih with ih | ih
    · by_cases c : 2 * L + 1 < n + 1
      · exact Or.inr c
      · left
        show ((opN hi lo L n + (if lo < 64 * ((n : Int) - L) ∧ 64 * ((n : Int) - L) ≤ hi then 1 else 0) : Nat) : Int) = _
        by_cases c2 : lo < 64 * ((n : Int) - L) ∧ 64 * ((n : Int) - L) ≤ hi
        · rw [if_pos c2]
          omega
        · rw [if_neg c2]
          omega
    · exact Or.inr (by omega)
theorem opN_le {hi lo : Int} {L : Nat} : ∀ n, opN hi lo L n ≤ n := by
  intro n
  induction n with
  | zero => exact Nat.le_refl _
  | succ n ih =>
    show opN hi lo L n + (if lo < 64 * ((n : Int) - L) ∧ 64 * ((n : Int) - L) ≤ hi then 1 else 0) ≤ n + 1
    split <;> omega
section
variable {hi lo : Int32} {L : Nat}
theorem v64 {i : Nat} (hL : L ≤ 99) (hi2 : i ≤ 200) : (64 * (nI i - nI L)).toInt = 64 * ((i : Int) - L) := by
  have e1 : (nI i - nI L).toInt = (i : Int) - L := pk_sub_toInt (by omega) (by omega)
  have e2 : (64 : Int32).toInt = 64 := by decide
  rw [j_mul (by rw [e1, e2]; omega) (by rw [e1, e2]; omega), e1, e2]
theorem opF_e (hL : L ≤ 99) : ∀ n, n ≤ 2 * L + 1 → fr (opF hi lo L) 0 n = nI (opN hi.toInt lo.toInt L n) := by
  intro n
  induction n with
  | zero => intro _; rfl
  | succ n ih =>
    intro hn
    show opF hi lo L n (fr (opF hi lo L) 0 n) = nI (opN hi.toInt lo.toInt L n + (if lo.toInt < 64 * ((n : Int) - L) ∧ 64 * ((n : Int) - L) ≤ hi.toInt then 1 else 0))
    rw [ih (by omega)]
    have e := v64 (L := L) (i := n) hL (by omega)
    unfold opF
    by_cases c1 : 64 * (nI n - nI L) ≤ lo
    · rw [if_pos c1, if_neg (by rw [Int32.le_iff_toInt_le, e] at c1; omega), Int32.add_zero]
      rfl
    · rw [if_neg c1]
      by_cases c2 : hi < 64 * (nI n - nI L)
      · rw [if_pos c2, if_neg (by rw [Int32.lt_iff_toInt_lt, e] at c2; omega), Int32.add_zero]
        rfl
      · rw [if_neg c2, if_pos (by rw [Int32.le_iff_toInt_le, e] at c1; rw [Int32.lt_iff_toInt_lt, e] at c2; omega), ← nI_succ]
theorem hmn_t (a b : Int32) : (hmn a b).toInt = min a.toInt b.toInt := by
  unfold hmn
  by_cases c : b < a
  · rw [if_pos c]; rw [Int32.lt_iff_toInt_lt] at c; omega
  · rw [if_neg c]; rw [Int32.lt_iff_toInt_lt] at c; omega
theorem hmx_t (a b : Int32) : (hmx a b).toInt = max a.toInt b.toInt := by
  unfold hmx
  by_cases c : a < b
  · rw [if_pos c]; rw [Int32.lt_iff_toInt_lt] at c; omega
  · rw [if_neg c]; rw [Int32.lt_iff_toInt_lt] at c; omega
/-- the class's count is the same -/
theorem op_same (hL : L ≤ 99) (h1 : ab hi 1000000) (h2 : ab lo 1000000) : hmx (hmn (nI L) (fdv hi 64) - hmx (-(nI L)) (fdv lo 64 + 1) + 1) 0 = nI (opN hi.toInt lo.toInt L (2 * L + 1)) := by
  have a1 := h1.1; have a2 := h1.2; have b1 := h2.1; have b2 := h2.2
  have eL : (nI L).toInt = L := nI_toInt (by omega)
  have e1 : (1 : Int32).toInt = 1 := by decide
  have eN : (-(nI L)).toInt = -(L : Int) := by rw [j_neg (by rw [eL]; omega) (by rw [eL]; omega), eL]
  have f1 := fdv_64 h1
  have f2 := fdv_64 h2
  have g2 : (fdv lo 64 + 1).toInt = lo.toInt / 64 + 1 := by rw [j_add (by rw [f2, e1]; omega) (by rw [f2, e1]; omega), f2, e1]
  have m1 : (hmn (nI L) (fdv hi 64)).toInt = min (L : Int) (hi.toInt / 64) := by rw [hmn_t, eL, f1]
  have m2 : (hmx (-(nI L)) (fdv lo 64 + 1)).toInt = max (-(L : Int)) (lo.toInt / 64 + 1) := by rw [hmx_t, eN, g2]
  have s1 : (hmn (nI L) (fdv hi 64) - hmx (-(nI L)) (fdv lo 64 + 1)).toInt = min (L : Int) (hi.toInt / 64) - max (-(L : Int)) (lo.toInt / 64 + 1) := by
    rw [j_sub (by rw [m1, m2]; omega) (by rw [m1, m2]; omega), m1, m2]
  have s2 : (hmn (nI L) (fdv hi 64) - hmx (-(nI L)) (fdv lo 64 + 1) + 1).toInt = min (L : Int) (hi.toInt / 64) - max (-(L : Int)) (lo.toInt / 64 + 1) + 1 := by
    rw [j_add (by rw [s1, e1]; omega) (by rw [s1, e1]; omega), s1, e1]
  have lN := opN_le (hi := hi.toInt) (lo := lo.toInt) (L := L) (2 * L + 1)
  apply Int32.toInt_inj.mp
  rw [hmx_t, s2, Int32.toInt_zero, nI_toInt (by omega)]
  rcases opN_e (hi := hi.toInt) (lo := lo.toInt) (L := L) (2 * L + 1) with z | z
  · rw [z]
    omega
  · omega
end
theorem m_whole {m : hM} {L : Nat} {K : Int32 → hM → hR} (hL : L ≤ 99) (hl : m.1 50 0 12 = nI L) : JX12_wholeOnes_16 K FU 0 (-(nI L)) m = K (fr (opF (m.1 40 0 25) (m.1 40 0 26) L) 0 (2 * L + 1)) m := by
  have e0 : -(nI L) = nI 0 - nI L := by
    show _ = (0 : Int32) - nI L
    rw [Int32.zero_sub]
  rw [e0]
  refine Eq.trans (lpF (fun f (x : Int32 × Int32) => JX12_wholeOnes_16 K f x.1 x.2 m) (fun i => (fr (opF (m.1 40 0 25) (m.1 40 0 26) L) 0 i, nI i - nI L)) (2 * L + 1) (by omega) (by
    intro i f hi
    show bJX12_wholeOnes_16 _ _ _ (nI i - nI L) _ = JX12_wholeOnes_16 _ f (opF (m.1 40 0 25) (m.1 40 0 26) L i (fr (opF (m.1 40 0 25) (m.1 40 0 26) L) 0 i)) (nI (i + 1) - nI L) m
    generalize fr (opF (m.1 40 0 25) (m.1 40 0 26) L) 0 i = x
    unfold bJX12_wholeOnes_16 JX12_wholeOnes_54 JX12_wholeOnes_55
    have c : ¬ nI L < nI i - nI L := by
      rw [Int32.lt_iff_toInt_lt, pk_sub_toInt (by omega) (by omega), nI_toInt (by omega)]
      omega
    have en : nI i - nI L + 1 = nI (i + 1) - nI L := by
      rw [nI_succ, Int32.sub_eq_add_neg, Int32.sub_eq_add_neg, Int32.add_assoc, Int32.add_assoc, Int32.add_comm 1]
    rw [rd (i := 12) 12 rfl (by decide), hl, if_neg c, lt_s9, lt_s9, en]
    unfold opF
    by_cases c1 : 64 * (nI i - nI L) ≤ m.1 40 0 26
    · rw [if_pos c1, if_pos c1]
    · rw [if_neg c1, if_neg c1]
      by_cases c2 : m.1 40 0 25 < 64 * (nI i - nI L)
      · rw [if_pos c2, if_pos c2]
      · rw [if_neg c2, if_neg c2])) ?_
  show bJX12_wholeOnes_16 _ _ _ (nI (2 * L + 1) - nI L) _ = _
  unfold bJX12_wholeOnes_16
  rw [rd (i := 12) 12 rfl (by decide), hl, if_pos (by rw [pk_sub (by omega)]; exact nI_lt (by omega) (by omega))]
theorem t_open {m m' : hM} {F B D P W t ph : Nat} (h : CX m F B D P W t) (hp : ph ≤ 3) (hs : Same m m') : ∃ r m1, JX3_openLevels 0 40 (nI ph) m = some (some (.inl (nI r)), m1) ∧ r ≤ 199 ∧ Ex m m1 ∧ ∃ m2, JX12_wholeOnes (nI ph) m' = some (some (.inl (nI r)), m2) ∧ Same m' m2 := by
  have hx' := CX_same hs h
  obtain ⟨m1, a1, a2, a3, a4, a5, a6, a7⟩ := t_look h hp
  have hD : D ≤ 2 := h.1.1.2.2.2.2.2.2.2.2.1
  have lay := m_lay hx'.1 (ph := ph) hp
  have ez : zR m' F B D P ph = zR m F B D P ph := by
    unfold zR
    have e6 : m'.1 6 0 = m.1 6 0 := by funext i; exact hs.1.1 6 0 i (n_L (by decide) (by decide))
    rw [e6, row_same hs.1 (by decide)]
  rw [ez] at lay
  have ch := c_high a3 a5 a6
  have cl := c_low a3 a5 a6
  have b1 := (hi_eq (D := D) a6 hD).2
  have b2 := (lo_eq (D := D) a6 hD).2
  generalize hiR D (zR m F B D P ph) = hi at *
  generalize loR D (zR m F B D P ph) = lo at *
  obtain ⟨L, hL, eL⟩ := bw_n (a := m.1 50 0 12) (n := 99) ⟨by have := h.2.2.2.1.1.2.2.1.2.1.1; omega, h.2.2.2.1.1.2.2.1.2.1.2⟩
  have e12 : m1.1 12 40 9 = nI L := by
    rw [a2.1 12 40 9 (by decide), st_at h.2.2.2.1 12 9 12 (by decide) rfl (by decide)]
    exact eL
  have lN := opN_le (hi := hi.toInt) (lo := lo.toInt) (L := L) (2 * L + 1)
  refine ⟨opN hi.toInt lo.toInt L (2 * L + 1), m1, ?_, by omega, a2, HL m' hi lo, ?_, Same_HL⟩
  · unfold JX3_openLevels
    rw [a1, calV_s, ch, calI_s, e_fdv (by decide), calI_s, e12, e_min, calI_s, cl, calI_s, e_fdv (by decide), calI_s, e12, e_max, calI_s, e_max, calI_s, op_same hL b1 b2]
  · unfold JX12_wholeOnes
    have l12 : (HL m' hi lo).1 50 0 12 = nI L := by
      rw [HL_o (Or.inl (by decide)), row_same hs.1 (by decide)]
      exact eL
    rw [lay, calV_s, rd (i := 12) 12 rfl (by decide), l12, m_whole hL l12, HL_25, HL_26, opF_e hL _ (Nat.le_refl _)]
theorem inl_inj {a b : Int32} {m m2 : hM} (h : (some (some (.inl a), m) : hR) = some (some (.inl b), m2)) : a = b ∧ m = m2 := by
  cases h
  exact ⟨rfl, rfl⟩
theorem l_map {m : hM} {F B D P W t : Nat} {a : Int32} (h : CX m F B D P W t) : ∀ i, i ≤ 3 → ∃ all best most mi, Ex m mi ∧ (∀ K f, JX11_map_28 K a (f + (i + 1)) 0 0 0 0 m = JX11_map_28 K a f all best most (nI (i + 1)) mi) ∧ ∀ m', Same m m' → ∃ mj, Same m mj ∧ ∀ K f, JX12_map_28 K a (f + (i + 1)) 0 0 (-1) 0 m' = JX12_map_28 K a f all best most (nI (i + 1)) mj := by
  intro i
  induction i with
  | zero =>
    intro _
    obtain ⟨r, mk, a1, a2, a3, _⟩ := t_open (ph := 0) h (by omega) (Same_r m)
    refine ⟨0 + nI r, 0, nI r, mk, a3, fun K f => ?_, fun m' q => ?_⟩
    · show bJX11_map_28 _ _ _ _ _ _ (nI 0) _ = _
      unfold bJX11_map_28 JX11_map_72
      rw [if_neg (n4 (by omega)), a1, calI_s, lt_s9, ← nI_succ]
      by_cases c : nI r ≤ 0
      · have r0 : r = 0 := by
          have := (nI_leI (a := r) (b := 0) (by omega) (by decide)).mp c
          omega
        rw [if_pos c, r0]
        rfl
      · rw [if_neg c]
        rfl
    · obtain ⟨r', _, b1, _, _, ml, b2, b3⟩ := t_open (ph := 0) h (by omega) q
      rw [a1] at b1
      rw [← (inl_inj b1).1] at b2
      refine ⟨ml, Same_t q b3, fun K f => ?_⟩
      show bJX12_map_28 _ _ _ _ _ _ (nI 0) _ = _
      unfold bJX12_map_28 JX12_map_61
      have c : ¬ nI r ≤ -1 := by
        rw [Int32.le_iff_toInt_le, nI_toInt (by omega), show (-1 : Int32).toInt = -1 from by decide]
        omega
      rw [if_neg (n4 (by omega)), b2, calI_s, lt_s9, ← nI_succ, if_neg c]
      rfl
  | succ i ih =>
    intro hi
    obtain ⟨all, best, most, mi, s1, e1, e2⟩ := ih (by omega)
    have hmi := CX_same (Same_Ex s1) h
    obtain ⟨r, mk, a1, a2, a3, _⟩ := t_open (ph := i + 1) hmi (by omega) (Same_r mi)
    refine ⟨all + nI r, if nI r ≤ most then best else nI (i + 1), if nI r ≤ most then most else nI r, mk, Ex_t s1 a3, fun K f => ?_, fun m' q => ?_⟩
    · rw [show f + (i + 1 + 1) = f + 1 + (i + 1) from by omega, e1]
      show bJX11_map_28 _ _ _ _ _ _ (nI (i + 1)) _ = _
      unfold bJX11_map_28 JX11_map_72
      rw [if_neg (n4 (by omega)), a1, calI_s, lt_s9, ← nI_succ]
      by_cases c : nI r ≤ most
      · rw [if_pos c, if_pos c, if_pos c]
      · rw [if_neg c, if_neg c, if_neg c]
    · obtain ⟨mj, s2, e3⟩ := e2 m' q
      obtain ⟨r', _, b1, _, _, ml, b2, b3⟩ := t_open (ph := i + 1) hmi (by omega) (Same_t (Same_s (Same_Ex s1)) s2)
      rw [a1] at b1
      rw [← (inl_inj b1).1] at b2
      refine ⟨ml, Same_t s2 b3, fun K f => ?_⟩
      rw [show f + (i + 1 + 1) = f + 1 + (i + 1) from by omega, e3]
      show bJX12_map_28 _ _ _ _ _ _ (nI (i + 1)) _ = _
      unfold bJX12_map_28 JX12_map_61
      rw [if_neg (n4 (by omega)), b2, calI_s, lt_s9, ← nI_succ]
      by_cases c : nI r ≤ most
      · rw [if_pos c, if_pos c, if_pos c]
      · rw [if_neg c, if_neg c, if_neg c]
theorem k_map (a : Int32) : Ok1 (JX11_map a) (JX12_map a) := Ok1_q fun m hm => by
  unfold JX11_map JX12_map
  by_cases c0 : m.1 0 0 12 = 0
  · exact ⟨_, m, m, by rw [if_pos c0], by rw [← hm.1, if_pos c0], Same_r m⟩
  · obtain ⟨F, B, D, P, W, t, h⟩ := Inv_cx hm c0
    have c15 : ¬ m.1 40 0 15 = 0 := by rw [← hm.1]; exact c0
    rw [if_neg c0, e_within, calI_s]
    rcases hwi_b a 0 2 with e1 | e1
    · exact ⟨_, m, m, by rw [e1, if_pos rfl], by rw [if_neg c15, e_in, calI_s, e1, if_pos rfl], Same_r m⟩
    · obtain ⟨all, best, most, mi, s1, e2, e3⟩ := l_map (a := a) h 3 (by decide)
      obtain ⟨mj, s2, e4⟩ := e3 mi (Same_Ex s1)
      refine ⟨if a = 0 then all else if a = 1 then best else most, mi, mj, ?_, ?_, s2⟩
      · rw [e1, if_neg (by decide), show FU = 99995 + 1 + (3 + 1) from rfl, e2]
        show bJX11_map_28 _ _ _ _ _ _ (nI 4) _ = _
        unfold bJX11_map_28
        rw [if_pos (by decide)]
        by_cases c : a = 0
        · rw [if_pos c]; exact if_pos c
        · rw [if_neg c]
          refine (if_neg c).trans ?_
          by_cases c2 : a = 1
          · rw [if_pos c2, if_pos c2]
          · rw [if_neg c2, if_neg c2]
      · rw [if_neg (by rw [s1.1 40 0 15 (by decide)]; exact c15), e_in, calI_s, e1, if_neg (by decide), show FU = 99995 + 1 + (3 + 1) from rfl, e4]
        show bJX12_map_28 _ _ _ _ _ _ (nI 4) _ = _
        unfold bJX12_map_28
        rw [if_pos (by decide)]
        by_cases c : a = 0
        · rw [if_pos c]; exact if_pos c
        · rw [if_neg c]
          refine (if_neg c).trans ?_
          by_cases c2 : a = 1
          · rw [if_pos c2, if_pos c2]
          · rw [if_neg c2, if_neg c2]
