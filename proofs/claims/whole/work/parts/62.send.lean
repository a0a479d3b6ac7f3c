/-! send, seek, dice -/
theorem RP_syms {m : hM} {F B D P W t c N : Nat} {v : Nat → Int32} {kr : Nat → Nat → Int32} (q : RP m F B D P W v t c kr) (hN : N ≤ 60) (ht : t + N ≤ 9999) : JX12_symbols (nI N) m = some (some (.inl (wrN m F B D P W (m.1 5 0 5) v N)), Nm m (itN m F B D P W (m.1 5 0 5) v N)) ∧ RP (Nm m (itN m F B D P W (m.1 5 0 5) v N)) F B D P W (itN m F B D P W (m.1 5 0 5) v N) (t + N) c kr := by
  obtain ⟨q1, q2, q3, q4, q5, q6, q7, q8, q9, q10, q11⟩ := id q
  have hF : F ≤ 3 := q1.1.2.2.2.2.2.2.1
  have hB : B ≤ 3 := q1.1.2.2.2.2.2.2.2.1
  have e := m_symbolsN (N := N) q9 q4 q3 q10 q1 (by omega) (by omega)
  rw [RP_self q, q2] at e
  exact ⟨e, RP_Nm q (VW_itN q9 hF hB N) (itN_51 q10 hF hB N) ht⟩
theorem gv_0 {m : hM} {F B D P W N : Nat} {b : Int32} {v : Nat → Int32} (hN : N < 1000) : gv m F B D P W 0 (nI N) b v = itN m F B D P W (m.1 5 0 5) v N := by
  show itN m F B D P W (m.1 5 0 5) v (nI N).toNatClampNeg = _
  rw [nI_clamp (by omega)]
theorem grs0 {m : hM} {F B D P W N : Nat} {v : Nat → Int32} (hN : N < 1000) : gr m F B D P W 0 (nI N) v = wrN m F B D P W (m.1 5 0 5) v N := by
  show wrN m F B D P W (m.1 5 0 5) v (nI N).toNatClampNeg = _
  rw [nI_clamp (by omega)]
theorem gt_0 {t N : Nat} (hN : N < 1000) : gt 0 t (nI N) = t + N := by
  show t + (nI N).toNatClampNeg = _
  rw [nI_clamp (by omega)]
theorem rf_t {v : Nat → Int32} {B t N : Nat} (hv : VW B v t) (ht : t ≤ 9999) (hN : N ≤ 60) : (v 18 + nI N ≤ 9999) ↔ t + N ≤ 9999 := by
  have e18 : v 18 = nI t := hv.2.2.2.2.2.2.2.2
  rw [e18, nI_add]
  exact nI_leI (a := t + N) (b := 9999) (by omega) (by decide)
theorem k_send (a : Int32) : Ok1 (JX11_send a) (JX12_send a) := by
  refine k_act 0 a 0 (-1) _ (by decide) ?_ ?_ ?_
  · intro m h
    unfold JX12_send JX12_send_46
    rw [if_pos h]
    exact ref_no (j := 0) (by decide)
  · intro m F B D P W v t c kr j q hj e
    obtain ⟨q1, q2, q3, q4, q5, q6, q7, q8, q9, q10⟩ := q
    rw [rfG_0] at e
    unfold JX12_send JX12_send_46
    rw [if_neg (by rw [q5]; decide), e_in, calI_s, rd (i := 18) 18 rfl (by decide), q6]
    rcases hwi_b a 1 60 with w | w
    · rw [if_pos w] at e
      rw [if_pos w]
      rcases nI_cases hj e.symm.symm with z | z | z | z
      · exact absurd z.1 (by decide)
      · rw [z.2]; exact ref_noH (j := 1) (by decide)
      · exact absurd z.1 (by decide)
      · exact absurd z.1 (by decide)
    · have w0 : ¬ hwi a 1 60 = 0 := by rw [w]; decide
      rw [if_neg w0] at e
      rw [if_neg w0]
      by_cases c2 : v 18 + a ≤ 9999
      · rw [if_pos c2] at e
        exact absurd e.symm (nI_m1 hj)
      · rw [if_neg c2] at e
        rw [if_neg c2]
        rcases nI_cases hj e.symm.symm with z | z | z | z
        · exact absurd z.1 (by decide)
        · exact absurd z.1 (by decide)
        · exact absurd z.1 (by decide)
        · rw [z.2]; exact ref_noH (j := 3) (by decide)
  · intro m F B D P W v t c kr q e av
    obtain ⟨N, hN1, hN2, ea⟩ := bw1_n (av.2.1 rfl)
    subst ea
    have w1 : hwi (nI N) 1 60 = 1 := by
      have e : ∀ N, N < 61 → 1 ≤ N → hwi (nI N) 1 60 = 1 := by decide +kernel
      exact e N (by omega) hN1
    rw [rfG_0, w1, if_neg (by decide)] at e
    have c2 : v 18 + nI N ≤ 9999 := by
      by_cases c : v 18 + nI N ≤ 9999
      · exact c
      · rw [if_neg c] at e; exact absurd e (by decide)
    have htN : t + N ≤ 9999 := (rf_t q.2.2.2.2.2.2.2.2.1 q.2.2.2.2.2.2.2.2.2.2 hN2).mp c2
    obtain ⟨m1, a1, a2, a3⟩ := RP_keep q
    have z := RP_syms a2 hN2 htN
    have hm : Lsm m1 m := fun x y h1 h2 => a3.1 x 0 y (by omega) (by omega) (by omega) (by omega)
    have g5 : m1.1 5 0 5 = m.1 5 0 5 := hm 5 5 (by decide) (by decide)
    have hF : F ≤ 3 := q.1.1.2.2.2.2.2.2.1
    have hB : B ≤ 3 := q.1.1.2.2.2.2.2.2.2.1
    have hD : D ≤ 2 := q.1.1.2.2.2.2.2.2.2.2.1
    rw [g5, itN_m hm hF hB hD, wrN_m hm hF hB hD] at z
    refine ⟨Nm m1 (itN m F B D P W (m.1 5 0 5) v N), ?_, ?_, Ra_t a3 Ra_Nm⟩
    rotate_left
    · rw [gv_0 (by omega), gt_0 (by omega)]
      exact z.2
    · unfold JX12_send JX12_send_46
      rw [if_neg (by rw [q.2.2.2.2.1]; decide), e_in, calI_s, rd (i := 18) 18 rfl (by decide), q.2.2.2.2.2.1, w1, if_neg (by decide), if_pos c2, ref_yes a1, z.1, calI_s, grs0 (by omega)]
/-- SEEK, from the reference's better phase -/
theorem m_betR {m : hM} {F B D P W t c : Nat} {v : Nat → Int32} {kr : Nat → Nat → Int32} (q : RP m F B D P W v t c kr) : ∃ h l, JX12_better (v 14) m = some (some (.inl (bet (hts (m.1 6 0) F B D P v) (phN v))), HL m h l) ∧ ((bet (hts (m.1 6 0) F B D P v) (phN v) = -1) ↔ nbk (hts (m.1 6 0) F B D P v) (phN v) 3 = phN v) := by
  obtain ⟨q1, q2, q3, q4, q5, q6, q7, q8, q9, q10⟩ := q
  have hph := ph_of q9.2.2.1
  obtain ⟨h, l, e⟩ := m_better (m := m) q1 hph.2 (m.1 40 0 25) (m.1 40 0 26)
  rw [HL_self, q6, ← hph.1] at e
  refine ⟨h, l, e, ?_⟩
  generalize hts (m.1 6 0) F B D P v = H
  rw [bet_m hph.2]
  constructor
  · intro z
    show nb H (nb H (nb H (phN v))) = _
    rw [z, z, z]
  · intro z
    have fx := nb_fix H (phN v) hph.2
    rw [z] at fx
    exact fx
theorem k_seek : Ok1 JX11_seek JX12_seek := by
  refine k_act 7 0 0 (-1) _ (by decide) ?_ ?_ ?_
  · intro m h
    unfold JX12_seek JX12_seek_32
    rw [if_pos h]
    exact ref_no (j := 0) (by decide)
  · intro m F B D P W v t c kr j q hj e
    obtain ⟨h, l, e1, e2⟩ := m_betR q
    rw [rfG_7] at e
    unfold JX12_seek JX12_seek_32
    rw [if_neg (by rw [q.2.2.2.2.1]; decide), rd (i := 14) 14 rfl (by decide), q.2.2.2.2.2.1, e1, calI_s]
    by_cases c2 : nbk (hts (m.1 6 0) F B D P v) (phN v) 3 = phN v
    · rw [if_pos c2] at e
      rw [if_pos (e2.mpr c2)]
      rcases nI_cases hj e.symm.symm with z | z | z | z
      · exact absurd z.1 (by decide)
      · exact absurd z.1 (by decide)
      · refine ⟨h, l, ?_⟩
        have y := ref_no (m := HL m h l) (j := 2) (d := -1) (K := fun m4 => calV (JX12_keep m4) fun m6 => calV (JX12_seekNow m6) fun m7 => ald m7 50 0 14 fun x8 => some (some (.inl x8), m7)) (by decide)
        rw [z.2, ← HL_uI (by decide), ← HL_o (m := m) (h := h) (l := l) (a := 51) (b := 0) (c := 2) (Or.inl (by decide))]
        exact y
      · exact absurd z.1 (by decide)
    · rw [if_neg c2] at e
      exact absurd e.symm (nI_m1 hj)
  · intro m F B D P W v t c kr q e av
    obtain ⟨h, l, e1, e2⟩ := m_betR q
    rw [rfG_7] at e
    have c2 : ¬ nbk (hts (m.1 6 0) F B D P v) (phN v) 3 = phN v := fun c => by rw [if_pos c] at e; exact absurd e (by decide)
    obtain ⟨m1, a1, a2, a3⟩ := RP_keep (RP_HL (h := h) (l := l) q)
    have p1 : m1.1 6 0 = m.1 6 0 := by
      funext i
      rw [a3.1 6 0 i (by omega) (by omega) (by omega) (by omega)]
      exact HL_o (Or.inl (by decide))
    have hph := ph_of a2.2.2.2.2.2.2.2.2.1.2.2.1
    obtain ⟨h3, l3, b1⟩ := m_seekNow (m := m1) (v := v) a2.1 hph.2 hph.1 (m1.1 40 0 25) (m1.1 40 0 26)
    rw [RP_self a2, HL_self, p1] at b1
    have z3 := nbk_3 (hts (m.1 6 0) F B D P v) (phN v) 3 hph.2
    refine ⟨HL (Nm m1 (upd v 14 (nI (nbk (hts (m.1 6 0) F B D P v) (phN v) 3)))) h3 l3, ?_, ?_, Ra_t (Ra_t (Ra_HL (h := h) (l := l)) a3) (Ra_t Ra_Nm Ra_HL)⟩
    rotate_left
    · show RP _ F B D P W (upd v 14 (nI (nbk (hts (m.1 6 0) F B D P v) (phN v) 3))) t (pc c) (pk c kr v)
      exact RP_HL (h := h3) (l := l3) (RP_Nm a2 (VW_s a2.2.2.2.2.2.2.2.2.1 (fun c => absurd c (by decide)) (fun _ => n01 z3) (fun c => absurd c (by decide)) (fun c => absurd c (by decide)) (fun c => absurd c (by decide)) (by decide)) (by rw [pk_un (by decide)]; exact a2.2.2.2.2.2.2.2.2.2.1) a2.2.2.2.2.2.2.2.2.2.2)
    · unfold JX12_seek JX12_seek_32
      rw [if_neg (by rw [q.2.2.2.2.1]; decide), rd (i := 14) 14 rfl (by decide), q.2.2.2.2.2.1, e1, calI_s, if_neg (fun z => c2 (e2.mp z)), ref_yes a1, b1, calV_s, ← Nm_HL, NR14, pk_us]
      rfl
/-! dice -/
theorem jn_hi (y : Int64) : jn (hi32 y) y.toInt32 = y := jn_eq y
theorem k_dice (a : Int64) : Ok1 (JX11_dice a) (JX12_dice a) := by
  intro m hm
  unfold JX11_dice JX12_dice
  by_cases c : m.1 0 0 12 = 0
  · refine ⟨-1, uI m 37 0 0 (m.1 37 0 0 + 1), uI (uI m 37 0 0 (m.1 37 0 0 + 1)) 51 0 0 (m.1 51 0 0 + 1), ?_, ?_, ref_inv hm (by decide)⟩
    · rw [if_pos c, ald_n (i := 0) (t := 37) (n := 0) 0 rfl (by decide) (by decide), ast_n (i := 0) (t := 37) (n := 0) 0 rfl (by decide) (by decide)]
    · have c2 : (uI m 37 0 0 (m.1 37 0 0 + 1)).1 40 0 15 = 0 := by rw [uI_o (by decide), ← hm.1]; exact c
      rw [if_pos c2]
      unfold JX12_dice_13
      have y := ref_no (m := uI m 37 0 0 (m.1 37 0 0 + 1)) (j := 0) (d := -1) (K := fun m1 => calV (JX12_keep m1) fun m3 => ast m3 50 0 49 ((a >>> ((32 : Int32).toInt64 &&& 63)).toInt32) fun m4 => ast m4 50 0 50 a.toInt32 fun m5 => ald m5 50 0 18 fun x6 => some (some (.inl x6), m5)) (by decide)
      rw [uI_o (m := m) (a := 51) (by decide)] at y
      exact y
  · obtain ⟨F, B, D, P, W, t, hy⟩ := Inv_cy hm c
    obtain ⟨cc, kr, tt, hc, hr⟩ := CY_cp hy
    obtain ⟨q1, q2, q3, q4, q5, q6⟩ := hc
    have hc40 : cc ≤ 40 := hr.2.2.2.2.2.2.2.1
    obtain ⟨m1, a1, a2, a3, a4⟩ := c_rem q5 q4
    have hC1 : Ca m m1 := Ca_Rb a2 a4
    have s1 := ST_Rb a2 q4
    have eS : uL m1 12 40 17 a = Sm m1 40 (vec m1 40) a := by
      have e := Sm_uL (m := m1) (n := 40) (w := vec m1 40) (x := m1.2 12 40 17) (v := a)
      rw [Sm_self] at e
      exact e
    have hC3 : Ca m1 (Sm m1 40 (vec m1 40) a) := Ca_Sm (by decide)
    have hC2 := Ca_t hC1 hC3
    have g2 : (Sm m1 40 (vec m1 40) a).1 5 0 5 = m.1 5 0 5 := hC2.1 5 0 5 (by omega) (by omega) (by omega) (by omega)
    have v18 : (Sm m1 40 (vec m1 40) a).1 12 40 6 = m.1 50 0 18 := by
      rw [Sm_r (by decide), show ix 12 6 = 18 from rfl]
      exact s1.1.1 18 (by decide)
    obtain ⟨m3, b1, b2, b3⟩ := RP_keep (Ca_RP hC2 hr)
    have vw : VW B (upd (upd (m.1 50 0) 49 (hi32 a)) 50 a.toInt32) t := VW_q (v := m.1 50 0) (fun k hk => by rw [pk_un (by omega), pk_un (by omega)]) q4.1.2.2.1
    refine ⟨m.1 50 0 18, Sm m1 40 (vec m1 40) a, Nm m3 (upd (upd (m.1 50 0) 49 (hi32 a)) 50 a.toInt32), ?_, ?_, fin_inv hm hy hC2 (v := upd (upd (m.1 50 0) 49 (hi32 a)) 50 a.toInt32) (t := t) (c := pc cc) (kr := pk cc kr (m.1 50 0)) (tt := pk cc tt t) ⟨Ca_LL hC2 q1, LB_w (Ca_L hC2) q2, by rw [hC2.1 0 0 12 (by omega) (by omega) (by omega) (by omega)]; exact q3, ?_, ?_, KT_0 (KT_push hc40 q6) (by decide)⟩ (Ra_t b3 Ra_Nm) (RP_Nm b2 vw (by rw [pk_un (by decide), pk_un (by decide)]; exact q4.2.1.1) q4.2.2)⟩
    · rw [if_neg c, a1, calV_s, stL_s, eS, v18]
    · have c15 : ¬ (Sm m1 40 (vec m1 40) a).1 40 0 15 = 0 := by
        rw [hC2.1 40 0 15 (by omega) (by omega) (by omega) (by omega), ← hm.1]
        exact c
      rw [if_neg c15]
      unfold JX12_dice_13
      rw [ref_yes b1]
      have e2 : ast m3 50 0 49 ((a >>> ((32 : Int32).toInt64 &&& 63)).toInt32) (fun m4 => ast m4 50 0 50 a.toInt32 fun m5 => ald m5 50 0 18 fun x6 => some (some (.inl x6), m5)) = ast (Nm m3 (m.1 50 0)) 50 0 49 ((a >>> ((32 : Int32).toInt64 &&& 63)).toInt32) (fun m4 => ast m4 50 0 50 a.toInt32 fun m5 => ald m5 50 0 18 fun x6 => some (some (.inl x6), m5)) := by rw [RP_self b2]
      rw [e2, NW49, NW50, NR18, pk_un (by decide), pk_un (by decide)]
      rfl
    · rw [g2]
      refine ⟨?_, ⟨by rw [pk_un (by decide), pk_un (by decide)]; exact q4.2.1.1, fun j hj d hd => ?_⟩, q4.2.2⟩
      · have e := vec_Sm (m := m1) (n := 40) (w := vec m1 40) (x := a)
        have ex : (Sm m1 40 (vec m1 40) a).2 12 40 17 = a := Sm_x
        rw [ex]
        refine RS_g (w := vec m1 40) ⟨fun k hk => ?_, ?_, vw, s1.1.2.2.2.1, s1.1.2.2.2.2⟩ e.1 e.2
        · rw [pk_un (by omega), pk_un (by omega)]; exact s1.1.1 k hk
        · rw [pk_un (by decide), pk_us, pk_us, jn_eq]
      · rw [pk_un (by omega), pk_un (by omega), Sm_o (by omega)]
        exact s1.2.1.2 j hj d hd
    · rw [g2]
      exact KC_Sm (by decide) a3
