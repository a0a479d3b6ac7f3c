/-! undo, image, back -/
theorem m_undo21 {m : hM} {c : Nat} {K : hM → hR} (hc : c < 40) (h : m.1 40 0 28 = nI c) : JX12_undo_21 K FU 0 m = K (rst m 50 0 (krow m c) 0 232) := by
  refine Eq.trans ((congrArg (fun z => JX12_undo_21 K FU 0 z) (rst_0 (m := m) (t := 50) (n := 0) (lo := 0) (u := krow m c)).symm).trans (lpF (fun f (a : Int32 × hM) => JX12_undo_21 K f a.1 a.2) (fun i => (nI i, rst m 50 0 (krow m c) 0 i)) 232 (by omega) (by
    intro i f hi
    show bJX12_undo_21 _ _ (nI i) _ = _
    unfold bJX12_undo_21
    rw [if_neg (show ¬ (232 : Int32) ≤ nI i from nI_ge (a := i) (b := 232) hi (by decide)), rst_o (by decide), h, show (232 : Int32) * nI c + nI i = nI (232 * c + i) from by rw [show (232 : Int32) = nI 232 from rfl, pk_mul, nI_add], ald_n (t := 52) (n := 0) (232 * c + i) rfl (by decide) (show 232 * c + i < 9280 by omega), rst_o (by decide), ast_n (t := 50) (n := 0) i rfl (by decide) (show i < 232 from hi)]
    have e := rst_s (m := m) (t := 50) (n := 0) (lo := 0) (N := i) (u := krow m c)
    rw [Nat.zero_add] at e
    show JX12_undo_21 _ f (nI i + 1) (uI _ 50 0 i (krow m c i)) = _
    rw [e, ← nI_succ]))) ?_
  show bJX12_undo_21 _ _ (nI 232) _ = _
  unfold bJX12_undo_21
  rw [if_pos (by decide)]
theorem k_undo : Ok1 JX11_undo JX12_undo := by
  intro m hm
  unfold JX11_undo JX12_undo
  rcases hm.2.1 with ⟨c0, hi⟩ | ⟨c1, hi⟩
  · exact ⟨-1, m, m, by rw [hi.2.2.2.1, if_neg (by decide)], by rw [hi.2.2.2.2.1, if_pos rfl], hm⟩
  · have c : ¬ m.1 0 0 12 = 0 := by rw [c1]; decide
    obtain ⟨F, B, D, P, W, t, hy⟩ := Inv_cy hm c
    obtain ⟨cc, kr, tt, hc, hr⟩ := CY_cp hy
    obtain ⟨q1, q2, q3, q4, ⟨s, k1, k2, k3, k4, k5⟩, q6⟩ := hc
    rw [k1]
    by_cases z : cc = 0
    · subst z
      exact ⟨-1, m, m, by rw [if_neg (by decide)], by rw [hr.2.2.2.2.2.2.1.1, if_pos (by decide)], hm⟩
    · obtain ⟨b, rfl⟩ : ∃ b, cc = b + 1 := ⟨cc - 1, by omega⟩
      have hb := k5 b (by omega)
      have hv := VW_q hb.1.1 hb.1.2.2.1
      have hp : (s + b) % 40 < 40 := Nat.mod_lt _ (by decide)
      generalize hq : (s + b) % 40 = p at hb hv hp
      have o1 : ∀ x y k, (x ≠ 0 ∨ k ≠ 16) → (uI m 0 0 16 (nI b)).1 x y k = m.1 x y k := fun x y k q => uI_n q
      have ev : vec (uI m 0 0 16 (nI b)) p = vec m p := by
        funext i
        unfold vec
        have := lc_k i
        exact o1 _ _ _ (by omega)
      obtain ⟨w, e1, e2, e3, _⟩ := c_copy (m := uI m 0 0 16 (nI b)) (n := 40) (n1 := p) (by omega) (by rw [ev]; exact bw_01 hv.2.2.2.2.1) (by rw [ev]; exact bw_01 hv.2.2.2.1) (by rw [ev]; exact bw_01 hv.2.2.2.2.2.2.1)
      rw [ev] at e2 e3
      have x1 : (uI m 0 0 16 (nI b)).2 12 p 17 = m.2 12 p 17 := rfl
      rw [x1] at e1
      have hC : Ca m (Sm (uI m 0 0 16 (nI b)) 40 w (m.2 12 p 17)) := Ca_t (b := uI m 0 0 16 (nI b)) ⟨fun x y k _ _ _ q => o1 x y k (by omega), rfl, fun _ _ _ _ => rfl⟩ (Ca_Sm (by decide))
      generalize hM : Sm (uI m 0 0 16 (nI b)) 40 w (m.2 12 p 17) = m1 at *
      have oM : ∀ x y k, ¬ (12 ≤ x ∧ x ≤ 19 ∧ y = 40) → (x ≠ 0 ∨ k ≠ 16) → m1.1 x y k = m.1 x y k := fun x y k h1 h2 => by
        rw [← hM, ← o1 x y k h2]
        exact if_neg (by omega)
      have hr1 := Ca_RP hC hr
      obtain ⟨r1, r2, r3, r4, r5, r6, ⟨r7, r7b⟩, r8, r9, r10, r11⟩ := id hr1
      generalize hV : (fun i => if i < 232 then kr b i else m.1 50 0 i) = V
      have eV : ∀ i, i < 232 → V i = kr b i := fun i hi => by rw [← hV]; exact if_pos hi
      have sV : ST m B (m.1 5 0 5) p 0 2460 V (tt b) := ST_v eV hb
      have g5 : m1.1 5 0 5 = m.1 5 0 5 := oM 5 0 5 (by omega) (by decide)
      have row : (rst (uI m1 40 0 28 (nI b)) 50 0 (krow (uI m1 40 0 28 (nI b)) b) 0 232).1 50 0 = V := by
        funext i
        rw [rst_r, ← hV]
        show _ = if i < 232 then kr b i else m.1 50 0 i
        by_cases hi : i < 232
        · rw [if_pos (by omega), if_pos hi, Nat.sub_zero]
          show (uI m1 40 0 28 (nI b)).1 52 0 (232 * b + i) = _
          rw [uI_o (by decide)]
          exact r7b b i (by omega) hi
        · rw [if_neg (by omega), if_neg hi, uI_o (by decide)]
          exact oM 50 0 i (by omega) (by omega)
      have oR : ∀ x y k, x ≠ 50 → (x ≠ 40 ∨ k ≠ 28) → (rst (uI m1 40 0 28 (nI b)) 50 0 (krow (uI m1 40 0 28 (nI b)) b) 0 232).1 x y k = m1.1 x y k := fun x y k h1 h2 => by rw [rst_o (Or.inl h1), uI_n h2]
      refine ⟨nI b, m1, _, ?_, ?_, fin_inv hm hy hC (v := V) (t := tt b) (c := b) (kr := kr) (tt := tt) ⟨r1, LB_w (Ca_L hC) q2, by rw [hC.1 0 0 12 (by omega) (by omega) (by omega) (by omega)]; exact q3, ?_, ⟨s, ?_, ?_, by omega, k4, fun j hj => ?_⟩, ?_⟩ ⟨fun x y k h1 _ _ h4 => oR x y k h1 (by omega), fun _ _ _ _ => rfl⟩ ⟨LL_k (fun x y k h1 => oR x y k (by omega) (by omega)) r1, ?_, ?_, ?_, ?_, row, ⟨?_, fun j i hj hi => ?_⟩, by omega, ?_, ?_, hb.2.2⟩⟩
      · rw [if_pos (show (0 : Int32) < nI (b + 1) from nI_lt (a := 0) (by omega) (by omega)), nI_pred, stI_s, uI_s, o_past (m := uI m 0 0 16 (nI b)) (s := s) (by rw [o1 0 0 15 (by decide)]; exact k2) (by omega), calI_s, hq]
        show aal 39 (nI p) _ = _
        unfold aal
        rw [if_pos ⟨by decide, inb_nI (show p < sLen 39 0 from hp) (sLen_le _ _)⟩, nI_clamp (by omega)]
        show calV (JX8_copy 40 p (uI m 0 0 16 (nI b))) _ = _
        rw [e1, calV_s, ← hM]
        show some (some (.inl ((Sm (uI m 0 0 16 (nI b)) 40 w (m.2 12 p 17)).1 0 0 16)), _) = (some (some (.inl (nI b)), _) : hR)
        rw [Sm_o (by decide), uI_s]
      · rw [r7, if_neg (nI_ne0 (by omega) (by omega)), nI_pred, stI_s, m_undo21 (by omega) uI_s]
        show some (some (.inl ((rst (uI m1 40 0 28 (nI b)) 50 0 _ 0 232).1 40 0 28)), _) = (some (some (.inl (nI b)), _) : hR)
        rw [rst_o (by decide), uI_s]
      · rw [g5]
        refine ⟨?_, ⟨sV.2.1.1, fun j hj k hk => ?_⟩, sV.2.2⟩
        · have e := vec_Sm (m := uI m 0 0 16 (nI b)) (n := 40) (w := w) (x := m.2 12 p 17)
          have ex : (Sm (uI m 0 0 16 (nI b)) 40 w (m.2 12 p 17)).2 12 40 17 = m.2 12 p 17 := Sm_x
          rw [hM] at e ex
          rw [ex]
          exact RS_g sV.1 (fun i hi => (e.1 i hi).trans (e2 i hi)) (e.2.trans e3)
        · rw [oM _ _ _ (by omega) (by omega)]
          exact sV.2.1.2 j hj k hk
      · rw [← hM, Sm_o (by decide), uI_s]
      · rw [oM 0 0 15 (by omega) (by decide)]; exact k2
      · rw [g5]
        have hl : (s + j) % 40 < 40 := Nat.mod_lt _ (by decide)
        refine ST_w (fun x k h1 h2 => oM x _ k (by omega) (by omega)) ?_ (fun x y k h1 h2 => oM x y k (by omega) (by omega)) (k5 j (by omega))
        rw [← hM]
        exact if_neg (by omega)
      · refine ⟨fun i j h1 h2 => q6.1 i j h1 (by omega), fun j hj => ?_⟩
        have := q6.1 j b (by omega) (by omega)
        omega
      · rw [oR 40 0 22 (by decide) (by decide), oR 5 0 5 (by decide) (by decide)]; exact r2
      · rw [oR 40 0 24 (by decide) (by decide)]; exact r3
      · rw [oR 40 0 23 (by decide) (by decide)]; exact r4
      · rw [oR 40 0 15 (by decide) (by decide)]; exact r5
      · rw [rst_o (by decide), uI_s]
      · show (rst (uI m1 40 0 28 (nI b)) 50 0 _ 0 232).1 52 0 (232 * j + i) = _
        rw [oR 52 0 _ (by decide) (Or.inl (by decide))]
        exact r7b j i (by omega) hi
      · exact sV.1.2.2.1
      · exact sV.2.1.1
/-! what the log shows is copied -/
theorem c_latest {m : hM} {n n1 sz sz1 t : Nat} (hne : n ≠ n1) (h1 : sLen 21 n = sz) (h2 : sLen 21 n1 = sz1) (h3 : 60 ≤ sz) (h4 : 60 ≤ sz1) (h5 : sz < 100000) (h6 : sz1 < 100000) (e22 : sLen 22 n = sz ∧ sLen 23 n = sz ∧ sLen 22 n1 = sz1 ∧ sLen 23 n1 = sz1) (ht : t ≤ 9999) : ∃ m2, JX5_copyLatest n n1 (nI t) m = some (none, m2) ∧ (∀ a b k, ¬ (21 ≤ a ∧ a ≤ 23 ∧ b = n) → m2.1 a b k = m.1 a b k) ∧ m2.2 = m.2 ∧ ∀ T, t - min t 60 ≤ T → T < t → ∀ c, c < 3 → m2.1 (21 + c) n (T % sz) = m.1 (21 + c) n1 (T % sz1) := by
  have emx : hmx (nI t - 60) 0 = nI (t - min t 60) := by
    unfold hmx
    by_cases c : 60 ≤ t
    · rw [show (60 : Int32) = nI 60 from rfl, pk_sub c, if_neg (show ¬ nI (t - 60) < 0 from nI_pos (by omega)), show min t 60 = 60 from by omega]
    · rw [if_pos (show nI t - 60 < 0 from pk_sneg (a := t) (b := 60) (by decide) (by omega)), show t - min t 60 = 0 from by omega]
      rfl
  generalize hT0 : t - min t 60 = T0 at *
  have key : ∀ i, i ≤ t - T0 → ∃ mi, (∀ K f, JX5_copyLatest_9 K n n1 (nI t) (f + i) (nI T0) m = JX5_copyLatest_9 K n n1 (nI t) f (nI (T0 + i)) mi) ∧ (∀ a b k, ¬ (21 ≤ a ∧ a ≤ 23 ∧ b = n) → mi.1 a b k = m.1 a b k) ∧ mi.2 = m.2 ∧ ∀ T, T0 ≤ T → T < T0 + i → ∀ c, c < 3 → mi.1 (21 + c) n (T % sz) = m.1 (21 + c) n1 (T % sz1) := by
    intro i
    induction i with
    | zero => intro _; exact ⟨m, fun _ _ => rfl, fun _ _ _ _ => rfl, rfl, fun T a b => absurd b (by omega)⟩
    | succ i ih =>
      intro hi
      obtain ⟨mi, a1, a2, a3, a4⟩ := ih (by omega)
      have pz : (T0 + i) % sz < sz := Nat.mod_lt _ (by omega)
      have pz1 : (T0 + i) % sz1 < sz1 := Nat.mod_lt _ (by omega)
      generalize hpq : (T0 + i) % sz = p at pz
      generalize hpq1 : (T0 + i) % sz1 = p1 at pz1
      refine ⟨uI (uI (uI mi 21 n p (m.1 21 n1 p1)) 22 n p (m.1 22 n1 p1)) 23 n p (m.1 23 n1 p1), fun K f => ?_, fun a b k h => ?_, a3, fun T b1 b2 c hc => ?_⟩
      · rw [show f + (i + 1) = f + 1 + i from by omega, a1]
        show bJX5_copyLatest_9 _ _ _ _ _ (nI (T0 + i)) _ = _
        unfold bJX5_copyLatest_9
        rw [if_neg (nI_ge (by omega) (by omega)), e_place h2 (by omega) h6 (by omega), calI_s, e_place h1 (by omega) h5 (by omega), calI_s, hpq, hpq1, ald_n (t := 21) (n := n1) p1 rfl (by decide) (by rw [h2]; exact pz1), a2 21 n1 p1 (by omega), ast_n (t := 21) (n := n) p rfl (by decide) (by rw [h1]; exact pz), ald_n (t := 22) (n := n1) p1 rfl (by decide) (by rw [e22.2.2.1]; exact pz1), uI_o (by decide), a2 22 n1 p1 (by omega), ast_n (t := 22) (n := n) p rfl (by decide) (by rw [e22.1]; exact pz), ald_n (t := 23) (n := n1) p1 rfl (by decide) (by rw [e22.2.2.2]; exact pz1), uI_o (by decide), uI_o (by decide), a2 23 n1 p1 (by omega), ast_n (t := 23) (n := n) p rfl (by decide) (by rw [e22.2.1]; exact pz), ← nI_succ]
        rfl
      · have e : ∀ (m' : hM) (t' : Nat) (x : Int32), 21 ≤ t' → t' ≤ 23 → (uI m' t' n p x).1 a b k = m'.1 a b k := fun m' t' x h3 h4 => if_neg (by omega)
        rw [e _ 23 _ (by decide) (by decide), e _ 22 _ (by decide) (by decide), e _ 21 _ (by decide) (by decide), a2 a b k h]
      · by_cases cT : T = T0 + i
        · rw [cT, hpq, hpq1]
          rcases (by omega : c = 0 ∨ c = 1 ∨ c = 2) with e | e | e <;> subst e
          · rw [uI_o (by decide), uI_o (by decide), uI_s]
          · rw [uI_o (by decide), uI_s]
          · rw [uI_s]
        · have hne2 : T % sz ≠ p := by
            rw [← hpq]
            intro e
            have l1 := Nat.div_add_mod T sz
            have l2 := Nat.div_add_mod (T0 + i) sz
            rw [e] at l1
            rcases Nat.lt_trichotomy (T / sz) ((T0 + i) / sz) with z | z | z
            · have : sz * (T / sz) + sz ≤ sz * ((T0 + i) / sz) := by rw [← Nat.mul_succ]; exact Nat.mul_le_mul_left _ z
              omega
            · rw [z] at l1; omega
            · have : sz * ((T0 + i) / sz) + sz ≤ sz * (T / sz) := by rw [← Nat.mul_succ]; exact Nat.mul_le_mul_left _ z
              omega
          rw [uI_n (Or.inr hne2), uI_n (Or.inr hne2), uI_n (Or.inr hne2)]
          exact a4 T b1 (by omega) c hc
  obtain ⟨m2, a1, a2, a3, a4⟩ := key (t - T0) (Nat.le_refl _)
  refine ⟨m2, ?_, a2, a3, fun T b1 b2 c hc => a4 T b1 (by omega) c hc⟩
  unfold JX5_copyLatest
  rw [e_max, calI_s, emx, show FU = 100000 - (t - T0) - 1 + 1 + (t - T0) from by rw [FU_eq]; omega, a1]
  show bJX5_copyLatest_9 _ _ _ _ _ (nI (T0 + (t - T0))) _ = _
  unfold bJX5_copyLatest_9
  rw [if_pos (nI_le (by omega) (by omega))]
