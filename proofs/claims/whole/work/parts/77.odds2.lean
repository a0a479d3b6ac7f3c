/-! odds of the reference -/
theorem uI_x {m : hM} {t n k a b c : Nat} {x : Int32} (h : ¬ (a = t ∧ b = n ∧ c = k)) : (uI m t n k x).1 a b c = m.1 a b c := if_neg h
section
variable {m : hM} {F B D P W t : Nat} {g : Int32} {v : Nat → Int32}
theorem m_symTold {nz : Int32} (h : VW B v t) (ht : t < 2 ^ 30) (hn : m.1 40 0 23 = nz) (hz : nz ≠ -1000000000) (h0 : v 20 = 0 → nz = 0) (hi : m.1 40 0 24 = 1) (hl : LL m F B D P W) : JX12_symbol (Nm m v) = some (some (.inl (Twr m 0 F B D P (phN v) nz (Tw m 0 W v))), Nm m (TM m F B D P (phN v) nz (m.1 40 0 22) (Tw m 0 W v))) := by
  obtain ⟨a1, a2, a3, a4, a5, a6, a7, ⟨r, a8, a8b⟩, a9⟩ := h
  have hp := ph_of a3
  have hb2 : B ≤ 3 := hl.1.2.2.2.2.2.2.2.1
  have en : JX12_noise (Nm m (Tw m 0 W v)) = some (some (.inl nz), Nm m (Tw m 0 W v)) := by
    rw [m_noiseT (by rw [hn]; exact hz), Tw_g (by decide) (by decide), hn]
    by_cases c : v 20 = 0
    · rw [if_pos c, h0 c]
    · rw [if_neg c]
  rw [m_symbol a9 (by omega) hp.1 hp.2 (nbv_b hl.2.2) (bw_01 a7) (gd_of hb2 a8 a8b) (bw_01 a5) en (fun _ _ => rfl) hl.1 hl.2.1]
  unfold nte JX12_note
  rw [Nm_o (by decide), hi, if_neg (by decide), calV_s]
  exact jretZ_b (Rwr_b _ _)
def Fo (d : Nat) (M m2 : hM) : Prop := (∀ a b k, a ≠ 53 → ¬ (a = 40 ∧ b = 0 ∧ (k = 23 ∨ k = 24)) → m2.1 a b k = M.1 a b k) ∧ (∀ b k, (b ≠ 0 ∨ k < 51 * d) → m2.1 53 b k = M.1 53 b k) ∧ m2.2 = M.2
theorem Fo_r (d : Nat) (M : hM) : Fo d M M := ⟨fun _ _ _ _ _ => rfl, fun _ _ _ => rfl, rfl⟩
theorem nz_ne {no i : Nat} (hn : no ≤ 4) (hi : i ≤ 2 * no) : nI i - nI no ≠ -1000000000 := fun e => by
  have z : (nI i - nI no).toInt = -1000000000 := by rw [e]; decide
  rw [pk_sub_toInt (by omega) (by omega)] at z
  omega
/-- one level of the reference's tries -/
def Lv (M : hM) (d : Nat) (v : Nat → Int32) (X : hM) : Prop := (∀ a b k, a ≠ 53 → ¬ (a = 40 ∧ b = 0 ∧ (k = 23 ∨ k = 24)) → X.1 a b k = M.1 a b k) ∧ (∀ k, k < 51 → X.1 53 0 (51 * d + k) = v k) ∧ (∀ b k, (b ≠ 0 ∨ k < 51 * d) → X.1 53 b k = M.1 53 b k) ∧ X.1 40 0 24 = 1 ∧ X.2 = M.2
theorem m_odds : ∀ l d q M v t, d + l ≤ 4 → l < q → LL M F B D P W → Lsm M m → M.1 50 0 = v → VW B v t → t + l < 100000 → M.1 40 0 22 = g → ∃ m2, JX12_clearFrom q (nI d) (nI l) M = some (some (.inl (oC m F B D P W g l v)), m2) ∧ Fo d M m2 := by
  intro l
  induction l with
  | zero =>
    intro d q M v t hd hq hl hm hv h ht hg
    obtain ⟨q, rfl⟩ : ∃ x, q = x + 1 := ⟨q - 1, by omega⟩
    refine ⟨M, ?_, Fo_r d M⟩
    show JX12_clearFromB _ (nI d) (nI 0) M = _
    unfold JX12_clearFromB
    rw [if_pos (by decide)]
    rfl
  | succ l ih =>
    intro d q M v t hd hq hl hm hv h ht hg
    obtain ⟨q, rfl⟩ : ∃ x, q = x + 1 := ⟨q - 1, by omega⟩
    have hF : F ≤ 3 := hl.1.2.2.2.2.2.2.1
    have hB : B ≤ 3 := hl.1.2.2.2.2.2.2.2.1
    have hD : D ≤ 2 := hl.1.2.2.2.2.2.2.2.2.1
    have no := no_of h
    have put := m_putAside (m := M) (d := d) (by omega)
    have lv0 : Lv M d v (rst (uI M 40 0 24 1) 53 0 (M.1 50 0) (51 * d) 51) := by
      refine ⟨fun a b k h1 h2 => by rw [rst_o (Or.inl h1), uI_x (by omega)], fun k hk => ?_, fun b k hk => ?_, by rw [rst_o (by decide), uI_s], rfl⟩
      · rw [rst_r, if_pos (by omega), Nat.add_sub_cancel_left, hv]
      · by_cases c : b = 0
        · subst c
          rw [rst_r, if_neg (by omega), uI_o (by decide)]
        · rw [rst_o (Or.inr c), uI_o (by decide)]
    generalize rst (uI M 40 0 24 1) 53 0 (M.1 50 0) (51 * d) 51 = X0 at put lv0
    have one : ∀ (i : Nat) (X : hM) (s : Int32), i ≤ 2 * noN v → Lv M d v X → ∃ X2, Lv M d v X2 ∧ ∀ K f, JX12_clearFromB_27 (JX12_clearFrom q) K (nI d) (nI (l + 1)) (nI (noN v)) (f + 1) s (nI i - nI (noN v)) X = JX12_clearFromB_27 (JX12_clearFrom q) K (nI d) (nI (l + 1)) (nI (noN v)) f (s + (if oW m F B D P W v i = 0 then oC m F B D P W g l (oR m F B D P W g v i) else 0)) (nI (i + 1) - nI (noN v)) X2 := by
      intro i X s hi hX
      generalize hm3 : uI X 40 0 23 (nI i - nI (noN v)) = m3
      have o3 : ∀ a b k, a ≠ 53 → ¬ (a = 40 ∧ b = 0 ∧ (k = 23 ∨ k = 24)) → m3.1 a b k = M.1 a b k := fun a b k h1 h2 => by rw [← hm3, uI_x (by omega)]; exact hX.1 a b k h1 h2
      have m50 : m3.1 50 0 = v := by rw [← hv]; funext j; exact o3 50 0 j (by decide) (by omega)
      have s3 : Nm m3 v = m3 := by rw [← m50, Nm_self]
      have l3 : LL m3 F B D P W := LL_w (fun a c z => o3 a 0 c (by omega) (by omega)) hl
      have hm3' : Lsm m3 m := fun a c z1 z2 => by rw [o3 a 0 c (by omega) (by omega)]; exact hm a c z1 z2
      have sy := m_symTold (m := m3) (v := v) (nz := nI i - nI (noN v)) h (by omega) (by rw [← hm3]; exact uI_s) (nz_ne no.2 hi) (fun z => by
        have : noN v = 0 := by
          rw [no.1] at z
          have := (nI_eq (a := noN v) (b := 0) (by omega) (by decide)).mp z
          exact this
        have i0 : i = 0 := by omega
        rw [this, i0]
        decide) (by rw [← hm3, uI_n (by decide)]; exact hX.2.2.2.1) l3
      rw [s3, o3 40 0 22 (by decide) (by omega), hg] at sy
      have ew : Twr m3 0 F B D P (phN v) (nI i - nI (noN v)) (Tw m3 0 W v) = oW m F B D P W v i := oW_m hm3' hF hB hD i
      have er : TM m3 F B D P (phN v) (nI i - nI (noN v)) g (Tw m3 0 W v) = oR m F B D P W g v i := oR_m hm3' hF hB hD i
      rw [ew, er] at sy
      -- what is brought back
      have back : ∀ m8, Fo (d + 1) (Nm m3 (oR m F B D P W g v i)) m8 → ∃ X2, Lv M d v X2 ∧ ∀ (K : hM → hR), (calV (JX12_bringBack (nI d) m8) fun m6 => stZ m6 40 0 24 1 fun m7 => K m7) = K X2 := by
        intro m8 h8
        have bb := m_bringBack (m := m8) (d := d) (by omega)
        have o8 : ∀ a b k, a ≠ 53 → a ≠ 50 → ¬ (a = 40 ∧ b = 0 ∧ (k = 23 ∨ k = 24)) → m8.1 a b k = M.1 a b k := fun a b k z1 z2 z3 => by rw [h8.1 a b k z1 z3, Nm_o z2]; exact o3 a b k z1 z3
        have k53 : ∀ b k, (b ≠ 0 ∨ k < 51 * (d + 1)) → m8.1 53 b k = X.1 53 b k := fun b k z => by rw [h8.2.1 b k z, Nm_o (by decide), ← hm3, uI_o (by decide)]
        refine ⟨uI (rst (uI m8 40 0 24 (if d = 0 then 0 else 1)) 50 0 (fun i => m8.1 53 0 (51 * d + i)) 0 51) 40 0 24 1, ⟨fun a b k h1 h2 => ?_, fun k hk => ?_, fun b k hk => ?_, uI_s, ?_⟩, fun K => by rw [bb, calV_s, stZ_1]⟩
        · rw [uI_x (by omega)]
          by_cases c5 : a = 50 ∧ b = 0
          · rw [c5.1, c5.2, rst_r, hv]
            by_cases ck : 0 ≤ k ∧ k < 0 + 51
            · rw [if_pos ck]
              show m8.1 53 0 (51 * d + (k - 0)) = _
              rw [Nat.sub_zero, k53 0 _ (Or.inr (by omega))]
              exact hX.2.1 k (by omega)
            · rw [if_neg ck, uI_o (by decide), h8.1 50 0 k (by decide) (by omega), Nm_r]
              exact oR_g hF hB (by omega) i
          · rw [rst_o (by omega), uI_x (by omega)]
            by_cases c6 : a = 50
            · have hb : b ≠ 0 := fun e => c5 ⟨c6, e⟩
              have e1 : (Nm m3 (oR m F B D P W g v i)).1 a b k = m3.1 a b k := if_neg c5
              rw [h8.1 a b k h1 h2, e1]
              exact o3 a b k h1 h2
            · exact o8 a b k h1 c6 h2
        · rw [uI_o (by decide), rst_o (by decide), uI_o (by decide), k53 0 _ (Or.inr (by omega))]
          exact hX.2.1 k hk
        · rw [uI_o (by decide), rst_o (Or.inl (by decide)), uI_o (by decide), k53 b k (by omega)]
          exact hX.2.2.1 b k hk
        · show m8.2 = _
          rw [h8.2.2]
          show m3.2 = _
          rw [← hm3]
          exact hX.2.2.2.2
      by_cases c : oW m F B D P W v i = 0
      · obtain ⟨m8, z1, z2⟩ := ih (d + 1) q (Nm m3 (oR m F B D P W g v i)) (oR m F B D P W g v i) (t + 1) (by omega) (by omega) (LL_Nm l3) (fun a c z1 z2 => by rw [Nm_o (by omega)]; exact hm3' a c z1 z2) Nm_50 (oR_vw h hF hB i) (by omega) (by rw [Nm_o (by decide), o3 40 0 22 (by decide) (by omega)]; exact hg)
        obtain ⟨X2, y1, y2⟩ := back m8 z2
        refine ⟨X2, y1, fun K f => ?_⟩
        show bJX12_clearFromB_27 _ _ _ _ _ _ _ _ _ = _
        unfold bJX12_clearFromB_27 JX12_clearFromB_60
        rw [if_neg (sw_neg no.2 hi), stI_s, hm3, sy, calI_s, if_pos c, ← nI_succ, nI_pred, z1, calI_s, lt_s9, if_pos c, y2 (fun m7 => JX12_clearFromB_27 (JX12_clearFrom q) K (nI d) (nI (l + 1)) (nI (noN v)) f (s + oC m F B D P W g l (oR m F B D P W g v i)) (nI i - nI (noN v) + 1) m7), sw_nx]
      · obtain ⟨X2, y1, y2⟩ := back (Nm m3 (oR m F B D P W g v i)) (Fo_r _ _)
        refine ⟨X2, y1, fun K f => ?_⟩
        show bJX12_clearFromB_27 _ _ _ _ _ _ _ _ _ = _
        unfold bJX12_clearFromB_27 JX12_clearFromB_60
        rw [if_neg (sw_neg no.2 hi), stI_s, hm3, sy, calI_s, if_neg c, if_neg c, Int32.add_zero, y2 (fun m7 => JX12_clearFromB_27 (JX12_clearFrom q) K (nI d) (nI (l + 1)) (nI (noN v)) f s (nI i - nI (noN v) + 1) m7), sw_nx]
    have all : ∀ i, i ≤ 2 * noN v + 1 → ∃ X, Lv M d v X ∧ ∀ K f, JX12_clearFromB_27 (JX12_clearFrom q) K (nI d) (nI (l + 1)) (nI (noN v)) (f + i) 0 (nI 0 - nI (noN v)) X0 = JX12_clearFromB_27 (JX12_clearFrom q) K (nI d) (nI (l + 1)) (nI (noN v)) f (sumN (fun i => if oW m F B D P W v i = 0 then oC m F B D P W g l (oR m F B D P W g v i) else 0) i) (nI i - nI (noN v)) X := by
      intro i
      induction i with
      | zero => intro _; exact ⟨X0, lv0, fun _ _ => rfl⟩
      | succ i ihi =>
        intro hi
        obtain ⟨X, x1, x2⟩ := ihi (by omega)
        obtain ⟨X2, y1, y2⟩ := one i X (sumN (fun i => if oW m F B D P W v i = 0 then oC m F B D P W g l (oR m F B D P W g v i) else 0) i) (by omega) x1
        refine ⟨X2, y1, fun K f => ?_⟩
        rw [show f + (i + 1) = f + 1 + i from by omega, x2, y2]
        rfl
    obtain ⟨X, x1, x2⟩ := all (2 * noN v + 1) (Nat.le_refl _)
    refine ⟨X, ?_, x1.1, x1.2.2.1, x1.2.2.2.2⟩
    show JX12_clearFromB _ (nI d) (nI (l + 1)) M = _
    unfold JX12_clearFromB
    have r20 : X0.1 50 0 20 = nI (noN v) := by
      rw [lv0.1 50 0 20 (by decide) (by omega), hv]
      exact no.1
    rw [if_neg (nI_ne0 (by omega) (by omega)), put, calV_s, rd (i := 20) 20 rfl (by decide), r20, show -(nI (noN v)) = nI 0 - nI (noN v) from by show _ = (0 : Int32) - nI (noN v); rw [Int32.zero_sub], show FU = 100000 - (2 * noN v + 1) - 1 + 1 + (2 * noN v + 1) from by rw [FU_eq]; have := no.2; omega, x2]
    show bJX12_clearFromB_27 _ _ _ _ _ _ _ (nI (2 * noN v + 1) - nI (noN v)) _ = _
    unfold bJX12_clearFromB_27
    rw [if_pos (sw_end no.2)]
    rfl
end
theorem k_odds (a : Int32) : Ok1 (JX11_odds a) (JX12_odds a) := Ok1_q fun m hm => by
  unfold JX11_odds JX12_odds
  by_cases c0 : m.1 0 0 12 = 0
  · exact ⟨-1, m, m, by rw [if_pos c0], by rw [← hm.1, if_pos c0], Same_r m⟩
  · obtain ⟨F, B, D, P, W, t, h⟩ := Inv_cx hm c0
    have c15 : ¬ m.1 40 0 15 = 0 := by rw [← hm.1]; exact c0
    have hF : F ≤ 3 := h.1.1.2.2.2.2.2.2.1
    have hB : B ≤ 3 := h.1.1.2.2.2.2.2.2.2.1
    have hD : D ≤ 2 := h.1.1.2.2.2.2.2.2.2.2.1
    have ht : t ≤ 9999 := h.2.2.2.1.2.2
    rw [if_neg c0, e_within, calI_s]
    rcases hw1 a 4 4 rfl (by decide) with ⟨N, hN, ea, e1⟩ | e1
    · subst ea
      have hN1 : 1 ≤ N := by
        apply Nat.le_of_not_lt
        intro z
        have : N = 0 := by omega
        rw [this] at e1
        exact absurd e1 (by decide)
      obtain ⟨l, rfl⟩ : ∃ l, N = l + 1 := ⟨N - 1, by omega⟩
      obtain ⟨w, w1, w2⟩ := c_copyOf h.2.2.2.1
      have Mv := vec_Sm (m := m) (n := 42) (w := w) (x := m.2 12 40 17)
      have Mx : (Sm m 42 w (m.2 12 40 17)).2 12 42 17 = m.2 12 40 17 := Sm_x
      have Ms : Ss 42 m (Sm m 42 w (m.2 12 40 17)) := Ss_Sm
      generalize Sm m 42 w (m.2 12 40 17) = M at w1 Mv Mx Ms
      obtain ⟨m1, a1, a2⟩ := c_odds (m := m) (g := m.1 5 0 5) hN l 0 8 M (m.1 50 0) t (by omega) (by omega) (Ss_Ln Ms h.1.1) (fun x y z1 z2 => Ms.1 x 0 y (by omega)) (by omega) (by rw [Mx]; exact RS_g w2 Mv.1 Mv.2) hF hB hD
      have sm : Ss 42 m m1 := Ss_t Ms a2 (Nat.le_refl _)
      have s1 : Same m m1 := ⟨⟨fun x y z q => sm.1 x y z (by unfold nsA at q; omega), fun n hn => sm.2 12 n 17 (by omega)⟩, fun x y z q => sm.1 x y z (by unfold nsC at q; omega), fun x y z q => sm.1 x y z (by unfold nsT at q; omega), fun x y z q => sm.1 x y z (by unfold nsR at q; omega), fun x y z q => sm.1 x y z (by unfold nsH at q; omega)⟩
      have h' := CX_same s1 h
      have r50 : m1.1 50 0 = m.1 50 0 := row_same s1.1 (by decide)
      obtain ⟨m2, b1, b2⟩ := m_odds (m := m) (g := m.1 5 0 5) (l + 1) 0 8 m1 (m.1 50 0) t (by omega) (by omega) h'.1 (fun x y z1 z2 => s1.1.1 x 0 y (n_L z1 z2)) r50 h.2.2.2.1.1.2.2.1 (by omega) (by rw [h'.2.2.1]; exact s1.1.1 5 0 5 (n_L (by decide) (by decide)))
      refine ⟨oC m F B D P W (m.1 5 0 5) (l + 1) (m.1 50 0), m1, uI (uI m2 40 0 23 (-1000000000)) 40 0 24 0, ?_, ?_, Same_t s1 ?_⟩
      · unfold JX0_rightRows JX0_rightBehind8
        rw [e1, if_neg (by decide), w1, calA_s (by decide)]
        show calI (calI (JX0_rightBehind 8 0 (nI 0) (nI (l + 1)) M) _) _ = _
        rw [a1, calI_s, calI_s]
      · unfold JX12_clearFrom8
        rw [if_neg (by rw [s1.2.2.2.2 40 0 15 (by unfold nsH; decide)]; exact c15), e_in, calI_s, e1, if_neg (by decide)]
        show calI (JX12_clearFrom 8 (nI 0) (nI (l + 1)) m1) _ = _
        rw [b1, calI_s, stI_s, stZ_0]
      · have e : ∀ x y z, x ≠ 53 → (uI (uI m2 40 0 23 (-1000000000)) 40 0 24 0).1 x y z = m1.1 x y z := fun x y z q1 => by
          by_cases c4 : x = 40 ∧ y = 0 ∧ z = 24
          · rw [c4.1, c4.2.1, c4.2.2, uI_s]
            exact h'.2.2.2.2.1.symm
          · rw [uI_x c4]
            by_cases c3 : x = 40 ∧ y = 0 ∧ z = 23
            · rw [c3.1, c3.2.1, c3.2.2, uI_s]
              exact h'.2.2.2.2.2.1.symm
            · rw [uI_x c3]
              exact b2.1 x y z q1 (by omega)
        exact ⟨⟨fun x y z q => e x y z (by unfold nsA at q; omega), fun n _ => by show m2.2 12 n 17 = _; rw [b2.2.2]⟩, fun x y z q => e x y z (by unfold nsC at q; omega), fun x y z q => e x y z (by unfold nsT at q; omega), fun x y z q => e x y z (by unfold nsR at q; omega), fun x y z q => e x y z (by unfold nsH at q; omega)⟩
    · exact ⟨-1, m, m, by rw [e1, if_pos rfl], by rw [if_neg c15, e_in, calI_s, e1, if_pos rfl], Same_r m⟩
