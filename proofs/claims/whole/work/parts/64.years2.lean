/-! a year of the reference -/
theorem Nm_2 {m : hM} {v : Nat → Int32} : (Nm m v).2 = m.2 := rfl
theorem RP_uL {m : hM} {F B D P W t c : Nat} {v : Nat → Int32} {kr : Nat → Nat → Int32} {y : Int64} (q : RP m F B D P W v t c kr) : RP (uL m 40 0 29 y) F B D P W v t c kr := RP_w (m := m) (fun _ _ _ _ => rfl) q
theorem Ra_uL {m : hM} {y : Int64} : Ra m (uL m 40 0 29 y) := ⟨fun _ _ _ _ _ _ _ => rfl, fun a b k h => if_neg (fun e => h e.1)⟩
theorem Ra_Ls {m m2 : hM} (h : Ra m m2) : Lsm m2 m := fun x y h1 h2 => h.1 x 0 y (by omega) (by omega) (by omega) (by omega)
theorem m_101 {m : hM} {F B D P W t c : Nat} {v : Nat → Int32} {kr : Nat → Nat → Int32} (q : RP m F B D P W v t c kr) (rk : Int32) (y : Int64) (hy : m.2 40 0 29 = yrZ rk y) : ∃ m2, JX12_drawYear_101 m = some (none, m2) ∧ RP m2 F B D P W (itN m F B D P W (m.1 5 0 5) v (yrN rk y t)) (t + yrN rk y t) c kr ∧ Ra m m2 ∧ m2.2 40 0 29 = yrY rk y := by
  have ht : t ≤ 9999 := q.2.2.2.2.2.2.2.2.2.2
  have yn := yrN_e (rk := rk) (y := y) (t := t) ht
  have q1 := RP_uL (y := yrY rk y) q
  have z := RP_syms q1 yn.2.1 yn.2.2
  have e18 : v 18 = nI t := q.2.2.2.2.2.2.2.2.1.2.2.2.2.2.2.2.2
  have ei : itN (uL m 40 0 29 (yrY rk y)) F B D P W ((uL m 40 0 29 (yrY rk y)).1 5 0 5) v (yrN rk y t) = itN m F B D P W (m.1 5 0 5) v (yrN rk y t) := itN_m (fun _ _ _ _ => rfl) q.1.1.2.2.2.2.2.2.1 q.1.1.2.2.2.2.2.2.2.1 q.1.1.2.2.2.2.2.2.2.2.1 _
  rw [ei] at z
  refine ⟨_, ?_, z.2, Ra_t Ra_uL Ra_Nm, ?_⟩
  · unfold JX12_drawYear_101
    have e8 := m_draw (m := m) 8 (by decide) (by decide)
    rw [hy, show trn (yrZ rk y) = yrY rk y from rfl] at e8
    show calI (JX12_draw (nI 8) m) _ = _
    rw [e8, calI_s, lt_s9, rd (i := 18) 18 rfl (by decide), q1.2.2.2.2.2.1, e18, e_min, calI_s]
    show calI (JX12_symbols (hmn (drv (yrY rk y) 8 + 1) (9999 - nI t)) _) _ = _
    rw [yn.1, z.1, calI_s]
  · rw [Nm_2, uL_s]
theorem m_drawYear {m : hM} {F B D P W t c : Nat} {v : Nat → Int32} {kr : Nat → Nat → Int32} (q : RP m F B D P W v t c kr) : ∃ m2, JX12_drawYear m = some (none, m2) ∧ RP m2 F B D P W (itN m F B D P W (m.1 5 0 5) (yrV (m.1 40 0 21) (m.2 40 0 29) v) (yrN (m.1 40 0 21) (m.2 40 0 29) t)) (t + yrN (m.1 40 0 21) (m.2 40 0 29) t) c kr ∧ Ra m m2 ∧ m2.2 40 0 29 = yrY (m.1 40 0 21) (m.2 40 0 29) := by
  generalize hrk : m.1 40 0 21 = rk
  generalize hy : m.2 40 0 29 = y
  have hF : F ≤ 3 := q.1.1.2.2.2.2.2.2.1
  have hB : B ≤ 3 := q.1.1.2.2.2.2.2.2.2.1
  have hD : D ≤ 2 := q.1.1.2.2.2.2.2.2.2.2.1
  have q9 := q.2.2.2.2.2.2.2.2.1
  have q10 := q.2.2.2.2.2.2.2.2.2.1
  have q11 := q.2.2.2.2.2.2.2.2.2.2
  have e10 := m_draw (m := m) 10 (by decide) (by decide)
  rw [hy] at e10
  unfold JX12_drawYear
  show ∃ m2, calI (JX12_draw (nI 10) m) _ = _ ∧ _
  rw [e10, calI_s]
  have rk1 : (uL m 40 0 29 (trn y)).1 40 0 21 = rk := hrk
  rw [rk1]
  have fin : ∀ m3 v3, Ra m m3 → RP m3 F B D P W v3 t c kr → m3.2 40 0 29 = yrZ rk y → v3 = yrV rk y v → ∃ m2, JX12_drawYear_101 m3 = some (none, m2) ∧ RP m2 F B D P W (itN m F B D P W (m.1 5 0 5) (yrV rk y v) (yrN rk y t)) (t + yrN rk y t) c kr ∧ Ra m m2 ∧ m2.2 40 0 29 = yrY rk y := by
    intro m3 v3 c1 c2 c3 c4
    obtain ⟨m2, d1, d2, d3, d4⟩ := m_101 c2 rk y c3
    have g5 : m3.1 5 0 5 = m.1 5 0 5 := Ra_Ls c1 5 5 (by decide) (by decide)
    rw [g5, itN_m (Ra_Ls c1) hF hB hD, c4] at d2
    exact ⟨m2, d1, d2, Ra_t c1 d3, d4⟩
  show ∃ m2, (if rk ≤ drv (trn y) 10 then JX12_drawYear_101 (uL m 40 0 29 (trn y)) else _) = _ ∧ _
  by_cases cr : rk ≤ drv (trn y) 10
  · rw [if_pos cr]
    exact fin _ v Ra_uL (RP_uL q) (by rw [uL_s, yrZ_p cr]) (yrV_p cr).symm
  · rw [if_neg cr]
    have e4 := m_draw (m := uL m 40 0 29 (trn y)) 4 (by decide) (by decide)
    rw [uL_s] at e4
    show ∃ m2, calI (JX12_draw (nI 4) (uL m 40 0 29 (trn y))) _ = _ ∧ _
    rw [e4, calI_s]
    have qa := RP_uL (y := trn (trn y)) (RP_uL (y := trn y) q)
    have ra : Ra m (uL (uL m 40 0 29 (trn y)) 40 0 29 (trn (trn y))) := Ra_t Ra_uL Ra_uL
    have ez := yrZ_n cr
    have ev := yrV_n (v := v) cr
    have sa := RP_self qa
    have ya : (uL (uL m 40 0 29 (trn y)) 40 0 29 (trn (trn y))).2 40 0 29 = trn (trn y) := uL_s
    generalize uL (uL m 40 0 29 (trn y)) 40 0 29 (trn (trn y)) = ma at qa ra sa ya
    show ∃ m2, swL (drv (trn (trn y)) 4) _ _ = _ ∧ _
    have vw := miG_vw (k := drv (trn (trn y)) 4) (y := trn (trn y)) q9
    generalize drv (trn (trn y)) 4 = k at ez ev vw
    unfold miV at ev vw
    unfold miY at ez
    by_cases c0 : k = 0
    · rw [swL_p c0]
      rw [if_pos c0] at ev ez vw
      rw [← sa, NW22]
      exact fin _ (upd v 22 1) (Ra_t ra Ra_Nm) (RP_Nm qa vw (by rw [pk_un (by decide)]; exact q10) q11) (by rw [ez, Nm_2]; exact ya) ev.symm
    · rw [swL_n c0]
      rw [if_neg c0] at ev ez vw
      by_cases c1 : k = 1
      · rw [swL_p c1]
        rw [if_pos c1] at ev ez vw
        have e5 := m_draw (m := ma) 4 (by decide) (by decide)
        rw [ya] at e5
        show ∃ m2, calI (JX12_draw (nI 4) ma) _ = _ ∧ _
        have qb := RP_uL (y := trn (trn (trn y))) qa
        have sb := RP_self qb
        rw [e5, calI_s, ← sb, NW14]
        exact fin _ (upd v 14 (drv (trn (trn (trn y))) 4)) (Ra_t ra (Ra_t Ra_uL Ra_Nm)) (RP_Nm qb vw (by rw [pk_un (by decide)]; exact q10) q11) (by rw [ez, Nm_2, uL_s]) ev.symm
      · rw [swL_n c1]
        rw [if_neg c1] at ev ez vw
        by_cases c2 : k = 2
        · rw [swL_p c2]
          rw [if_pos c2] at ev ez vw
          have e5 := m_draw (m := ma) 5 (by decide) (by decide)
          rw [ya] at e5
          show ∃ m2, calI (JX12_draw (nI 5) ma) _ = _ ∧ _
          have qb := RP_uL (y := trn (trn (trn y))) qa
          have sb := RP_self qb
          rw [e5, calI_s, ← sb, NW20]
          exact fin _ (upd v 20 (drv (trn (trn (trn y))) 5)) (Ra_t ra (Ra_t Ra_uL Ra_Nm)) (RP_Nm qb vw (by rw [pk_un (by decide)]; exact q10) q11) (by rw [ez, Nm_2, uL_s]) ev.symm
        · rw [swL_n c2, swL_0]
          rw [if_neg c2] at ev ez vw
          rw [← sa, NR16, NW16]
          exact fin _ (upd v 16 (1 - v 16)) (Ra_t ra Ra_Nm) (RP_Nm qa vw (by rw [pk_un (by decide)]; exact q10) q11) (by rw [ez, Nm_2]; exact ya) ev.symm
theorem m_year {m : hM} {F B D P W t c : Nat} {v : Nat → Int32} {kr : Nat → Nat → Int32} (q : RP m F B D P W v t c kr) : ∃ m1 m2, JX12_keep m = some (none, m1) ∧ JX12_drawYear m1 = some (none, m2) ∧ RP m2 F B D P W (yV m F B D P W (m.1 40 0 21) (m.2 40 0 29) v t) (t + yrN (m.1 40 0 21) (m.2 40 0 29) t) (pc c) (pk c kr v) ∧ Ra m m2 ∧ m2.2 40 0 29 = yrY (m.1 40 0 21) (m.2 40 0 29) := by
  obtain ⟨q1, q2, q3, q4, q5, q6, q7, q8, q9, q10, q11⟩ := id q
  obtain ⟨m1, a1, a2, a3⟩ := m_keepG q8 q7
  obtain ⟨m1', b1, b2, b3⟩ := RP_keep q
  rw [a1] at b1
  cases b1
  obtain ⟨m2, d1, d2, d3, d4⟩ := m_drawYear b2
  have rk1 : m1.1 40 0 21 = m.1 40 0 21 := a2.1 40 0 21 (by decide) (by decide)
  rw [rk1, a2.2] at d2 d4
  have g5 : m1.1 5 0 5 = m.1 5 0 5 := Ra_Ls b3 5 5 (by decide) (by decide)
  rw [g5, itN_m (Ra_Ls b3) q1.1.2.2.2.2.2.2.1 q1.1.2.2.2.2.2.2.2.1 q1.1.2.2.2.2.2.2.2.2.1] at d2
  exact ⟨m1, m2, a1, d1, d2, Ra_t b3 d3, d4⟩
/-- many years -/
theorem l_years {m : hM} {F B D P W t c n : Nat} {kr : Nat → Nat → Int32} {tt : Nat → Nat} (h : CP m F B D P W (m.1 50 0) t c kr tt) (hn : n ≤ 40) (y0 : Int64) : ∀ i, i ≤ n → ∃ v t2 c2 kr2 tt2 y mi, CP mi F B D P W v t2 c2 kr2 tt2 ∧ Ca m mi ∧ (∀ K f, JX11_years_25 K (nI n) (f + i) y0 0 m = JX11_years_25 K (nI n) f y (nI i) mi) ∧ ∀ m', RP m' F B D P W (m.1 50 0) t c kr → Lsm m' m → m'.1 40 0 21 = m.1 0 0 17 → m'.2 40 0 29 = y0 → ∃ mj, RP mj F B D P W v t2 c2 kr2 ∧ Ra m' mj ∧ mj.2 40 0 29 = y ∧ ∀ K f, JX12_years_27 K (nI n) (f + i) 0 m' = JX12_years_27 K (nI n) f (nI i) mj := by
  intro i
  induction i with
  | zero => intro _; exact ⟨_, t, c, kr, tt, y0, m, h, Ca_r m, fun _ _ => rfl, fun m' q _ _ e => ⟨m', q, Ra_r m', e, fun _ _ => rfl⟩⟩
  | succ i ih =>
    intro hi
    obtain ⟨v, t2, c2, kr2, tt2, y, mi, a1, a2, a3, a4⟩ := ih (by omega)
    obtain ⟨mk, b1, b2, b3⟩ := c_year a1 y
    have hF : F ≤ 3 := h.1.1.2.2.2.2.2.2.1
    have hB : B ≤ 3 := h.1.1.2.2.2.2.2.2.2.1
    have hD : D ≤ 2 := h.1.1.2.2.2.2.2.2.2.2.1
    refine ⟨_, _, _, _, _, yrY (mi.1 0 0 17) y, mk, b2, Ca_t a2 b3, fun K f => ?_, fun m' q1 q2 q3 q4 => ?_⟩
    · rw [show f + (i + 1) = f + 1 + i from by omega, a3]
      show bJX11_years_25 _ _ _ _ (nI i) _ = _
      unfold bJX11_years_25
      rw [if_neg (nI_ge (by omega) (by omega)), b1, calL_s, ← nI_succ]
    · obtain ⟨mj, d1, d2, d3, d4⟩ := a4 m' q1 q2 q3 q4
      obtain ⟨mx, ml, e1, e2, e3, e4, e5⟩ := m_year d1
      have rk : mj.1 40 0 21 = mi.1 0 0 17 := by
        rw [d2.1 40 0 21 (by omega) (by omega) (by omega) (by omega), q3, a2.1 0 0 17 (by omega) (by omega) (by omega) (by omega)]
      have hm : Lsm mj mi := fun x z h1 h2 => by
        rw [Ra_Ls d2 x z h1 h2, q2 x z h1 h2]
        exact (Ca_Ls a2 x z h1 h2).symm
      rw [rk, d3] at e3 e5
      refine ⟨ml, ?_, Ra_t d2 e4, e5, fun K f => ?_⟩
      · have ev : yV mj F B D P W (mi.1 0 0 17) y v t2 = yV mi F B D P W (mi.1 0 0 17) y v t2 := by
          unfold yV
          rw [hm 5 5 (by decide) (by decide), itN_m hm hF hB hD]
        rw [ev] at e3
        exact e3
      · rw [show f + (i + 1) = f + 1 + i from by omega, d4]
        show bJX12_years_27 _ _ _ (nI i) _ = _
        unfold bJX12_years_27
        rw [if_neg (nI_ge (by omega) (by omega)), e1, calV_s, e2, calV_s, ← nI_succ]
theorem k_years (a : Int32) (s : Int64) : Ok1 (JX11_years a s) (JX12_years a s) := by
  intro m hm
  unfold JX11_years JX12_years
  by_cases c : m.1 0 0 12 = 0
  · exact ⟨_, m, m, by rw [if_pos c], by rw [← hm.1, if_pos c], hm⟩
  · obtain ⟨F, B, D, P, W, t, hy⟩ := Inv_cy hm c
    obtain ⟨cc, kr, tt, hc, hr⟩ := CY_cp hy
    have c15 : ¬ m.1 40 0 15 = 0 := by rw [← hm.1]; exact c
    rw [if_neg c, e_within, calI_s]
    rcases hw1 a 40 40 rfl (by decide) with ⟨n, hn, ea, e1⟩ | e1
    · subst ea
      rw [e1, if_neg (by decide)]
      obtain ⟨v, t2, c2, kr2, tt2, y, mi, a1, a2, a3, a4⟩ := l_years hc hn s n (Nat.le_refl n)
      have hr1 := RP_uL (y := s) (Ca_RP a2 hr)
      obtain ⟨mj, d1, d2, d3, d4⟩ := a4 (uL mi 40 0 29 s) hr1 (fun x z h1 h2 => Ca_Ls a2 x z h1 h2) (by
        show mi.1 40 0 21 = _
        rw [a2.1 40 0 21 (by omega) (by omega) (by omega) (by omega)]
        exact hm.2.2.2.2.2.1.symm) uL_s
      have eF : ∀ k, k ≤ 40 → FU = (FU - k - 1) + 1 + k := fun k hk => by rw [FU_eq]; omega
      have v18 : mi.1 12 40 6 = v 18 := by
        rw [vec_at (by decide), show ix 12 6 = 18 from rfl]
        exact a1.2.2.2.1.1.1 18 (by decide)
      refine ⟨v 18, mi, mj, ?_, ?_, fin_inv hm hy a2 a1 (Ra_t Ra_uL d2) d1⟩
      · rw [eF n hn, a3]
        show bJX11_years_25 _ _ _ _ (nI n) _ = _
        unfold bJX11_years_25
        rw [if_pos (nI_le (by omega) (by omega)), ← v18]
      · rw [if_neg (by rw [a2.1 40 0 15 (by omega) (by omega) (by omega) (by omega)]; exact c15), e_in, calI_s, e1, if_neg (by decide), stL_s, eF n hn, d4]
        show bJX12_years_27 _ _ _ (nI n) _ = _
        unfold bJX12_years_27
        rw [if_pos (nI_le (by omega) (by omega))]
        show ald mj 50 0 18 _ = _
        rw [rd (i := 18) 18 rfl (by decide), d1.2.2.2.2.2.1]
    · exact ⟨_, m, m, by rw [e1, if_pos rfl], by rw [if_neg c15, e_in, calI_s, e1, if_pos rfl], hm⟩
