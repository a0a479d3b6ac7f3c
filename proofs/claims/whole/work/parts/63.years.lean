/-! draws -/
theorem lus_pos (y : Int64) : ¬ jlushr y (33 : Int32) < 0 := by
  unfold jlushr
  have e : ((33 : Int32).toInt64.toUInt64 &&& Int64.toUInt64 63) = 33 := by decide
  rw [e, Int64.lt_iff_toInt_lt, Int64.toInt_zero]
  have h : (y.toUInt64 >>> 33).toInt64.toInt = ((y.toUInt64 >>> 33).toNat : Int) := by
    have hb : (y.toUInt64 >>> 33).toNat < 2 ^ 31 := by
      rw [UInt64.toNat_shiftRight]
      have := y.toUInt64.toNat_lt
      rw [show (33 : UInt64).toNat % 64 = 33 from by decide, Nat.shiftRight_eq_div_pow]
      omega
    show (y.toUInt64 >>> 33).toBitVec.toInt = _
    rw [BitVec.toInt_eq_toNat_of_lt]
    · rfl
    · show 2 * (y.toUInt64 >>> 33).toNat < 2 ^ 64
      omega
  rw [h]
  omega
theorem e_trn (a : Int64) (m : hM) : JX11_turned a m = some (some (.inr (.inl (trn a))), m) := rfl
theorem uL_s {m : hM} {t n k : Nat} {x : Int64} : (uL m t n k x).2 t n k = x := if_pos ⟨rfl, rfl, rfl⟩
theorem drv_b (y : Int64) (n : Nat) (h0 : 0 < n) (h1 : n < 100) : ∃ k, k < n ∧ drv y (nI n) = nI k := by
  obtain ⟨a, ha, ea⟩ := pk_lOf (lus_pos y)
  refine ⟨a % n, Nat.mod_lt _ h0, ?_⟩
  unfold drv
  rw [ea, nI_l (by omega), pk_lRem ha h0 (by omega)]
  exact lN_i _
theorem c_drawn {m : hM} (y : Int64) (n : Nat) (h0 : 0 < n) (h1 : n < 100) : JX11_drawn y (nI n) m = some (some (.inl (drv y (nI n))), m) := by
  unfold JX11_drawn jlrem
  have e : ¬ (nI n).toInt64 = 0 := by
    rw [nI_l (by omega)]
    intro z
    have := (pk_lEQ (a := n) (b := 0) (by omega) (by decide)).mp z
    omega
  rw [if_neg (nI_nle h0 (by omega)), if_neg e]
  rfl
theorem m_draw {m : hM} (n : Nat) (h0 : 0 < n) (h1 : n < 100) : JX12_draw (nI n) m = some (some (.inl (drv (trn (m.2 40 0 29)) (nI n))), uL m 40 0 29 (trn (m.2 40 0 29))) := by
  unfold JX12_draw jlrem
  have e : ¬ (nI n).toInt64 = 0 := by
    rw [nI_l (by omega)]
    intro z
    have := (pk_lEQ (a := n) (b := 0) (by omega) (by decide)).mp z
    omega
  have ey : m.2 40 0 29 * 6364136223846793005 + 1442695040888963407 = trn (m.2 40 0 29) := rfl
  rw [ey, stL_s, if_neg e]
  generalize trn (m.2 40 0 29) = Y
  rw [uL_s]
  unfold drv
  rfl
/-! a year, as a row sees it -/
def miV (k : Int32) (y : Int64) (v : Nat → Int32) : Nat → Int32 := if k = 0 then upd v 22 1 else if k = 1 then upd v 14 (drv (trn y) 4) else if k = 2 then upd v 20 (drv (trn y) 5) else upd v 16 (1 - v 16)
def miY (k : Int32) (y : Int64) : Int64 := if k = 0 then y else if k = 1 then trn y else if k = 2 then trn y else y
def yrV (rk : Int32) (y : Int64) (v : Nat → Int32) : Nat → Int32 := if rk ≤ drv (trn y) 10 then v else miV (drv (trn (trn y)) 4) (trn (trn y)) v
def yrZ (rk : Int32) (y : Int64) : Int64 := if rk ≤ drv (trn y) 10 then trn y else miY (drv (trn (trn y)) 4) (trn (trn y))
def yrY (rk : Int32) (y : Int64) : Int64 := trn (yrZ rk y)
def yrN (rk : Int32) (y : Int64) (t : Nat) : Nat := min ((drv (yrY rk y) 8).toNatClampNeg + 1) (9999 - t)
theorem drv_4 (y : Int64) : bw (drv y 4) 0 3 := by
  obtain ⟨k, hk, e⟩ := drv_b y 4 (by decide) (by decide)
  have e2 : drv y 4 = nI k := e
  rw [e2]
  exact n01 (by omega)
theorem drv_5 (y : Int64) : bw (drv y 5) 0 4 := by
  obtain ⟨k, hk, e⟩ := drv_b y 5 (by decide) (by decide)
  have e2 : drv y 5 = nI k := e
  rw [e2]
  exact ⟨by rw [nI_toInt (by omega)]; omega, by rw [nI_toInt (by omega)]; omega⟩
theorem miG_lo {k : Int32} {y : Int64} {v : Nat → Int32} {i : Nat} (h : 49 ≤ i) : (miV k y v) i = v i := by
  unfold miV
  by_cases c0 : k = 0
  · rw [if_pos c0]; exact pk_un (by omega)
  rw [if_neg c0]
  by_cases c1 : k = 1
  · rw [if_pos c1]; exact pk_un (by omega)
  rw [if_neg c1]
  by_cases c2 : k = 2
  · rw [if_pos c2]; exact pk_un (by omega)
  rw [if_neg c2]; exact pk_un (by omega)
theorem b1m {a : Int32} (h : a = 0 ∨ a = 1) : bw (1 - a) 0 1 := by
  rcases h with h | h <;> rw [h] <;> exact ⟨by decide, by decide⟩
theorem miG_vw {k : Int32} {y : Int64} {v : Nat → Int32} {B t : Nat} (h : VW B v t) : VW B (miV k y v) t := by
  unfold miV
  by_cases c0 : k = 0
  · rw [if_pos c0]
    exact VW_s h (fun c => absurd c (by decide)) (fun c => absurd c (by decide)) (fun c => absurd c (by decide)) (fun c => absurd c (by decide)) (fun _ => ⟨by decide, by decide⟩) (by decide)
  rw [if_neg c0]
  by_cases c1 : k = 1
  · rw [if_pos c1]
    exact VW_s h (fun c => absurd c (by decide)) (fun _ => drv_4 _) (fun c => absurd c (by decide)) (fun c => absurd c (by decide)) (fun c => absurd c (by decide)) (by decide)
  rw [if_neg c1]
  by_cases c2 : k = 2
  · rw [if_pos c2]
    exact VW_s h (fun c => absurd c (by decide)) (fun c => absurd c (by decide)) (fun c => absurd c (by decide)) (fun _ => drv_5 _) (fun c => absurd c (by decide)) (by decide)
  rw [if_neg c2]
  exact VW_s h (fun c => absurd c (by decide)) (fun c => absurd c (by decide)) (fun _ => b1m (bw_01 h.2.2.2.1)) (fun c => absurd c (by decide)) (fun c => absurd c (by decide)) (by decide)
theorem yrV_p {rk : Int32} {y : Int64} {v : Nat → Int32} (c : rk ≤ drv (trn y) 10) : yrV rk y v = v := if_pos c
theorem yrV_n {rk : Int32} {y : Int64} {v : Nat → Int32} (c : ¬ rk ≤ drv (trn y) 10) : yrV rk y v = miV (drv (trn (trn y)) 4) (trn (trn y)) v := if_neg c
theorem yrZ_p {rk : Int32} {y : Int64} (c : rk ≤ drv (trn y) 10) : yrZ rk y = trn y := if_pos c
theorem yrZ_n {rk : Int32} {y : Int64} (c : ¬ rk ≤ drv (trn y) 10) : yrZ rk y = miY (drv (trn (trn y)) 4) (trn (trn y)) := if_neg c
theorem yrV_lo {rk : Int32} {y : Int64} {v : Nat → Int32} {i : Nat} (h : 49 ≤ i) : yrV rk y v i = v i := by
  by_cases c : rk ≤ drv (trn y) 10
  · rw [yrV_p c]
  · rw [yrV_n c]; exact miG_lo h
theorem yrV_vw {rk : Int32} {y : Int64} {v : Nat → Int32} {B t : Nat} (h : VW B v t) : VW B (yrV rk y v) t := by
  by_cases c : rk ≤ drv (trn y) 10
  · rw [yrV_p c]; exact h
  · rw [yrV_n c]; exact miG_vw h
/-- one number of State 40 is set -/
theorem ST_set {m : hM} {B t c idx : Nat} {g a : Int32} {v : Nat → Int32} (hi : ix 12 c = idx) (h49 : idx < 49) (h : ST m B g 40 0 2460 v t) (hv : VW B (upd v idx a) t) : ST (uI m 12 40 c a) B g 40 0 2460 (upd v idx a) t := by
  have es := Sm_u (m := m) (n := 40) (w := vec m 40) (x := m.2 12 40 17) (t := 12) (c := c) (v := a) (by decide)
  rw [Sm_self, hi] at es
  rw [es]
  have r := RS_s h.1 h49 hv
  refine ⟨?_, ⟨by rw [pk_un (by omega)]; exact h.2.1.1, fun j hj d hd => ?_⟩, h.2.2⟩
  · have e := vec_Sm (m := m) (n := 40) (w := upd (vec m 40) idx a) (x := m.2 12 40 17)
    have ex : (Sm m 40 (upd (vec m 40) idx a) (m.2 12 40 17)).2 12 40 17 = m.2 12 40 17 := Sm_x
    rw [ex]
    exact RS_g r e.1 e.2
  · rw [pk_un (by omega), Sm_o (by omega)]
    exact h.2.1.2 j hj d hd
theorem Ca_u40 {m : hM} {c : Nat} {a : Int32} : Ca m (uI m 12 40 c a) := ⟨fun x y z q1 _ _ _ => if_neg (by omega), rfl, fun _ _ _ _ => rfl⟩
theorem KC_u40 {m : hM} {B c k : Nat} {g a : Int32} {kr : Nat → Nat → Int32} {tt : Nat → Nat} (q : KC m B g c kr tt) : KC (uI m 12 40 k a) B g c kr tt := KC_w (m := m) (uI_o (by decide)) (uI_o (by decide)) (fun x y z h1 _ _ => if_neg (by omega)) (fun _ _ => rfl) (fun x y z h1 h2 => uI_o (by omega)) q
theorem c_mishap {m : hM} {B t c : Nat} {g : Int32} {v : Nat → Int32} {kr : Nat → Nat → Int32} {tt : Nat → Nat} (y : Int64) (k : Int32) (h : ST m B g 40 0 2460 v t) (hk : KC m B g c kr tt) : ∃ m2, JX11_mishap y k m = some (some (.inr (.inl (miY k y))), m2) ∧ ST m2 B g 40 0 2460 (miV k y v) t ∧ KC m2 B g c kr tt ∧ Ca m m2 := by
  have vw := miG_vw (k := k) (y := y) h.1.2.2.1
  unfold JX11_mishap
  unfold miV at vw ⊢
  unfold miY
  by_cases c0 : k = 0
  · rw [if_pos c0] at vw
    rw [if_pos c0, if_pos c0, if_pos c0]
    exact ⟨_, stZ_1, ST_set rfl (by decide) h vw, KC_u40 hk, Ca_u40⟩
  rw [if_neg c0] at vw
  rw [if_neg c0, if_neg c0, if_neg c0]
  by_cases c1 : k = 1
  · rw [if_pos c1] at vw
    rw [if_pos c1, if_pos c1, if_pos c1]
    have e := c_drawn (m := m) (trn y) 4 (by decide) (by decide)
    refine ⟨uI m 12 40 7 (drv (trn y) 4), ?_, ST_set rfl (by decide) h vw, KC_u40 hk, Ca_u40⟩
    rw [e_trn, calL_s]
    show calI (JX11_drawn (trn y) (nI 4) m) _ = _
    rw [e, calI_s, stI_s]
    rfl
  rw [if_neg c1] at vw
  rw [if_neg c1, if_neg c1, if_neg c1]
  by_cases c2 : k = 2
  · rw [if_pos c2] at vw
    rw [if_pos c2, if_pos c2, if_pos c2]
    have e := c_drawn (m := m) (trn y) 5 (by decide) (by decide)
    refine ⟨uI m 12 40 12 (drv (trn y) 5), ?_, ST_set rfl (by decide) h vw, KC_u40 hk, Ca_u40⟩
    rw [e_trn, calL_s]
    show calI (JX11_drawn (trn y) (nI 5) m) _ = _
    rw [e, calI_s, stI_s]
    rfl
  rw [if_neg c2] at vw
  rw [if_neg c2, if_neg c2, if_neg c2]
  have e16 : m.1 12 40 15 = v 16 := by rw [vec_at (by decide), show ix 12 15 = 16 from rfl]; exact h.1.1 16 (by decide)
  refine ⟨uI m 12 40 15 (1 - v 16), ?_, ST_set rfl (by decide) h vw, KC_u40 hk, Ca_u40⟩
  rw [e16]
  rcases bw_01 h.1.2.2.1.2.2.2.1 with w | w
  · rw [if_pos w, stZ_1, w]
    rfl
  · rw [if_neg (by rw [w]; decide), stZ_0, w]
    rfl
theorem yrN_e {rk : Int32} {y : Int64} {t : Nat} (ht : t ≤ 9999) : hmn (drv (yrY rk y) 8 + 1) (9999 - nI t) = nI (yrN rk y t) ∧ yrN rk y t ≤ 60 ∧ t + yrN rk y t ≤ 9999 := by
  obtain ⟨k, hk, e⟩ := drv_b (yrY rk y) 8 (by decide) (by decide)
  have e2 : drv (yrY rk y) 8 = nI k := e
  unfold yrN
  rw [e2, nI_clamp (by omega), show (9999 : Int32) = nI 9999 from rfl, pk_sub ht, ← nI_succ]
  refine ⟨?_, by omega, by omega⟩
  unfold hmn
  by_cases c : 9999 - t < k + 1
  · rw [if_pos (nI_lt c (by omega)), show min (k + 1) (9999 - t) = 9999 - t from by omega]
  · rw [if_neg (nI_nlt (by omega) (by omega)), show min (k + 1) (9999 - t) = k + 1 from by omega]
def yV (m : hM) (F B D P W : Nat) (rk : Int32) (y : Int64) (v : Nat → Int32) (t : Nat) : Nat → Int32 := itN m F B D P W (m.1 5 0 5) (yrV rk y v) (yrN rk y t)
theorem c_year {m : hM} {F B D P W t c : Nat} {v : Nat → Int32} {kr : Nat → Nat → Int32} {tt : Nat → Nat} (h : CP m F B D P W v t c kr tt) (y : Int64) : ∃ m2, JX11_liveYear y m = some (some (.inr (.inl (yrY (m.1 0 0 17) y))), m2) ∧ CP m2 F B D P W (yV m F B D P W (m.1 0 0 17) y v t) (t + yrN (m.1 0 0 17) y t) (pc c) (pk c kr v) (pk c tt t) ∧ Ca m m2 := by
  obtain ⟨q1, q2, q3, q4, q5, q6⟩ := h
  have hF : F ≤ 3 := q1.1.2.2.2.2.2.2.1
  have hB : B ≤ 3 := q1.1.2.2.2.2.2.2.2.1
  have hD : D ≤ 2 := q1.1.2.2.2.2.2.2.2.2.1
  have hc40 : c ≤ 40 := by obtain ⟨s, _, _, z, _⟩ := q5; exact z
  obtain ⟨m1, a1, a2, a3, a4⟩ := c_rem q5 q4
  have hC1 : Ca m m1 := Ca_Rb a2 a4
  have s1 := ST_Rb a2 q4
  have T1 := KT_push hc40 q6
  have rk1 : m1.1 0 0 17 = m.1 0 0 17 := hC1.1 0 0 17 (by omega) (by omega) (by omega) (by omega)
  generalize m.1 0 0 17 = rk at *
  have last : ∀ m3, Ca m m3 → ST m3 B (m.1 5 0 5) 40 0 2460 (yrV rk y v) t → KC m3 B (m.1 5 0 5) (pc c) (pk c kr v) (pk c tt t) → ∃ m2, JX11_liveYear_38 (yrZ rk y) m3 = some (some (.inr (.inl (yrY rk y))), m2) ∧ CP m2 F B D P W (yV m F B D P W rk y v t) (t + yrN rk y t) (pc c) (pk c kr v) (pk c tt t) ∧ Ca m m2 := by
    intro m3 c1 c2 c3
    have yn := yrN_e (rk := rk) (y := y) q4.2.2
    obtain ⟨m2, b1, b2, b3, b4, b5⟩ := c_sendL yn.2.1 yn.2.2 c2 (Ca_LL c1 q1) c3 T1
    have e18 : m3.1 12 40 6 = nI t := by
      rw [vec_at (by decide), show ix 12 6 = 18 from rfl, c2.1.1 18 (by decide)]
      exact c2.1.2.2.1.2.2.2.2.2.2.2.2
    have hC2 := Ca_t c1 b5
    have g2 : m2.1 5 0 5 = m.1 5 0 5 := hC2.1 5 0 5 (by omega) (by omega) (by omega) (by omega)
    rw [itN_m (Ca_Ls c1) hF hB hD] at b2
    refine ⟨m2, ?_, ⟨Ca_LL hC2 q1, LB_w (Ca_L hC2) q2, by rw [hC2.1 0 0 12 (by omega) (by omega) (by omega) (by omega)]; exact q3, by rw [g2]; exact b2, by rw [g2]; exact b3, b4⟩, hC2⟩
    unfold JX11_liveYear_38
    have e := c_drawn (m := m3) (yrY rk y) 8 (by decide) (by decide)
    rw [e_trn, calL_s, show trn (yrZ rk y) = yrY rk y from rfl]
    show calI (JX11_drawn (yrY rk y) (nI 8) m3) _ = _
    rw [e, calI_s, e18, e_min, calI_s]
    show calI (JX11_sendLogged (hmn (drv (yrY rk y) 8 + 1) (9999 - nI t)) m3) _ = _
    rw [yn.1, b1, calI_s]
  have e10 := c_drawn (m := m1) (trn y) 10 (by decide) (by decide)
  unfold JX11_liveYear
  rw [a1, calV_s, e_trn, calL_s]
  show ∃ m2, calI (JX11_drawn (trn y) (nI 10) m1) _ = _ ∧ _
  rw [e10, calI_s, rk1]
  show ∃ m2, (if rk ≤ drv (trn y) 10 then JX11_liveYear_38 (trn y) m1 else _) = _ ∧ _
  by_cases cr : rk ≤ drv (trn y) 10
  · rw [if_pos cr]
    have eg := yrV_p (v := v) cr
    have ez := yrZ_p cr
    have l := last m1 hC1
    rw [eg, ez] at l
    exact l s1 a3
  · rw [if_neg cr]
    have eg := yrV_n (v := v) cr
    have ez := yrZ_n cr
    obtain ⟨m3, b1, b2, b3, b4⟩ := c_mishap (trn (trn y)) (drv (trn (trn y)) 4) s1 a3
    have l := last m3 (Ca_t hC1 b4)
    rw [eg, ez] at l
    obtain ⟨m2, d1, d2, d3⟩ := l b2 b3
    refine ⟨m2, ?_, d2, d3⟩
    have e4 := c_drawn (m := m1) (trn (trn y)) 4 (by decide) (by decide)
    rw [e_trn, calL_s]
    show calI (JX11_drawn (trn (trn y)) (nI 4) m1) _ = _
    rw [e4, calI_s]
    show calL (JX11_mishap (trn (trn y)) (drv (trn (trn y)) 4) m1) _ = _
    rw [b1, calL_s]
    exact d1
