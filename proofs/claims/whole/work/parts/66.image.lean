/-! an image, and back -/
theorem m_copy59 {m : hM} {K : hM → hR} : JX12_image_11 K FU 0 m = K (rst m 59 0 (m.1 50 0) 0 232) := by
  refine Eq.trans ((congrArg (fun z => JX12_image_11 K FU 0 z) (rst_0 (m := m) (t := 59) (n := 0) (lo := 0) (u := m.1 50 0)).symm).trans (lpF (fun f (a : Int32 × hM) => JX12_image_11 K f a.1 a.2) (fun i => (nI i, rst m 59 0 (m.1 50 0) 0 i)) 232 (by omega) (by
    intro i f hi
    show bJX12_image_11 _ _ (nI i) _ = _
    unfold bJX12_image_11
    rw [if_neg (show ¬ (232 : Int32) ≤ nI i from nI_ge (a := i) (b := 232) hi (by decide)), ald_n (t := 50) (n := 0) i rfl (by decide) (show i < 232 from hi), rst_o (by decide), ast_n (t := 59) (n := 0) i rfl (by decide) (show i < 232 from hi)]
    have e := rst_s (m := m) (t := 59) (n := 0) (lo := 0) (N := i) (u := m.1 50 0)
    rw [Nat.zero_add] at e
    show JX12_image_11 _ f (nI i + 1) _ = _
    rw [e, ← nI_succ]))) ?_
  show bJX12_image_11 _ _ (nI 232) _ = _
  unfold bJX12_image_11
  rw [if_pos (by decide)]
theorem m_copy50 {m : hM} {K : hM → hR} : JX12_back_11 K FU 0 m = K (rst m 50 0 (m.1 59 0) 0 232) := by
  refine Eq.trans ((congrArg (fun z => JX12_back_11 K FU 0 z) (rst_0 (m := m) (t := 50) (n := 0) (lo := 0) (u := m.1 59 0)).symm).trans (lpF (fun f (a : Int32 × hM) => JX12_back_11 K f a.1 a.2) (fun i => (nI i, rst m 50 0 (m.1 59 0) 0 i)) 232 (by omega) (by
    intro i f hi
    show bJX12_back_11 _ _ (nI i) _ = _
    unfold bJX12_back_11
    rw [if_neg (show ¬ (232 : Int32) ≤ nI i from nI_ge (a := i) (b := 232) hi (by decide)), ald_n (t := 59) (n := 0) i rfl (by decide) (show i < 232 from hi), rst_o (by decide), ast_n (t := 50) (n := 0) i rfl (by decide) (show i < 232 from hi)]
    have e := rst_s (m := m) (t := 50) (n := 0) (lo := 0) (N := i) (u := m.1 59 0)
    rw [Nat.zero_add] at e
    show JX12_back_11 _ f (nI i + 1) _ = _
    rw [e, ← nI_succ]))) ?_
  show bJX12_back_11 _ _ (nI 232) _ = _
  unfold bJX12_back_11
  rw [if_pos (by decide)]
/-- a copied State with its copied log -/
theorem ST_cp {m m1 m2 : hM} {B n n1 t sz sz1 : Nat} {g : Int32} {v : Nat → Int32} {w : Nat → Int32} {nl nl1 : Nat} (h : ST m B g n1 nl1 sz1 v t) (e1 : Eq9 w (vec m n1)) (e2 : w 1088 = vec m n1 1088) (hM : Sm m n w (m.2 12 n1 17) = m1) (o : ∀ a b k, ¬ (21 ≤ a ∧ a ≤ 23 ∧ b = nl) → m2.1 a b k = m1.1 a b k) (x : m2.2 = m1.2) (hc : ∀ T, t - min t 60 ≤ T → T < t → ∀ c, c < 3 → m2.1 (21 + c) nl (T % sz) = m1.1 (21 + c) nl1 (T % sz1)) : ST m2 B g n nl sz v t := by
  refine ⟨?_, ⟨h.2.1.1, fun j hj c hc2 => ?_⟩, h.2.2⟩
  · have e := vec_Sm (m := m) (n := n) (w := w) (x := m.2 12 n1 17)
    have ex : (Sm m n w (m.2 12 n1 17)).2 12 n 17 = m.2 12 n1 17 := Sm_x
    rw [hM] at e ex
    have ev : vec m2 n = vec m1 n := by
      funext i
      unfold vec
      have := lc_k i
      exact o _ _ _ (by omega)
    rw [x, ex, ev]
    exact RS_g h.1 (fun i hi => (e.1 i hi).trans (e1 i hi)) (e.2.trans e2)
  · rw [hc _ (by omega) (by omega) c hc2, ← hM, Sm_o (by omega)]
    exact h.2.1.2 j hj c hc2
theorem k_image : Ok1 JX11_image JX12_image := by
  intro m hm
  unfold JX11_image JX12_image
  by_cases c : m.1 0 0 12 = 0
  · exact ⟨_, m, m, by rw [if_pos c], by rw [← hm.1, if_pos c], hm⟩
  · obtain ⟨F, B, D, P, W, t, hy⟩ := Inv_cy hm c
    have c15 : ¬ m.1 40 0 15 = 0 := by rw [← hm.1]; exact c
    obtain ⟨⟨q1, q2, q3, q4, q5, q6, q7, q8⟩, p1, p2⟩ := id hy
    have hv := VW_q q4.1.1 q4.1.2.2.1
    obtain ⟨w, e1, e2, e3, _⟩ := c_copy (m := m) (n := 41) (n1 := 40) (by decide) (bw_01 hv.2.2.2.2.1) (bw_01 hv.2.2.2.1) (bw_01 hv.2.2.2.2.2.2.1)
    generalize hM : Sm m 41 w (m.2 12 40 17) = m1 at e1
    have oM : ∀ a b k, ¬ (12 ≤ a ∧ a ≤ 19 ∧ b = 41) → m1.1 a b k = m.1 a b k := fun a b k h => by rw [← hM]; exact if_neg (by omega)
    have xM : ∀ a b k, ¬ (a = 12 ∧ b = 41 ∧ k = 17) → m1.2 a b k = m.2 a b k := fun a b k h => by rw [← hM]; exact if_neg h
    have e18 : m.1 12 40 6 = nI t := by
      rw [vec_at (by decide), show ix 12 6 = 18 from rfl, q4.1.1 18 (by decide)]
      exact q4.1.2.2.1.2.2.2.2.2.2.2.2
    obtain ⟨m2, a1, a2, a3, a4⟩ := c_latest (m := m1) (n := 1) (n1 := 0) (sz := 60) (sz1 := 2460) (t := t) (by decide) rfl rfl (by decide) (by decide) (by decide) (by decide) (by decide) q4.2.2
    have st41 : ST m2 B (m.1 5 0 5) 41 1 60 (m.1 50 0) t := ST_cp q4 e2 e3 hM a2 a3 a4
    have o2 : ∀ a b k, ¬ (12 ≤ a ∧ a ≤ 19 ∧ b = 41) → ¬ (21 ≤ a ∧ a ≤ 23 ∧ b = 1) → m2.1 a b k = m.1 a b k := fun a b k h1 h2 => by rw [a2 a b k h2, oM a b k h1]
    refine ⟨nI t, uI m2 0 0 13 1, uI (rst (uI m2 0 0 13 1) 59 0 ((uI m2 0 0 13 1).1 50 0) 0 232) 40 0 39 1, ?_, ?_, ?_⟩
    · rw [if_neg c, e1, calV_s, oM 12 40 6 (by omega), e18, a1, calV_s, stZ_1, uI_o (by decide), o2 12 40 6 (by omega) (by omega), e18]
    · have f15 : ¬ (uI m2 0 0 13 1).1 40 0 15 = 0 := by rw [uI_o (by decide), o2 40 0 15 (by omega) (by omega)]; exact c15
      rw [if_neg f15, m_copy59]
      show stZ _ 40 0 39 1 _ = _
      rw [stZ_1, rd (i := 18) 18 rfl (by decide), uI_o (by decide), rst_o (by decide), uI_o (by decide), o2 50 0 18 (by omega) (by omega)]
      have : m.1 50 0 18 = nI t := q4.1.2.2.1.2.2.2.2.2.2.2.2
      rw [this]
    · generalize hm4 : uI (rst (uI m2 0 0 13 1) 59 0 ((uI m2 0 0 13 1).1 50 0) 0 232) 40 0 39 1 = m4
      have o4 : ∀ a b k, a ≠ 59 → (a ≠ 40 ∨ k ≠ 39) → (a ≠ 0 ∨ k ≠ 13) → m4.1 a b k = m2.1 a b k := fun a b k h1 h2 h3 => by rw [← hm4, uI_n h2, rst_o (Or.inl h1), uI_n h3]
      have o : ∀ a b k, a ≠ 59 → (a ≠ 40 ∨ k ≠ 39) → (a ≠ 0 ∨ k ≠ 13) → ¬ (12 ≤ a ∧ a ≤ 19 ∧ b = 41) → ¬ (21 ≤ a ∧ a ≤ 23 ∧ b = 1) → m4.1 a b k = m.1 a b k := fun a b k h1 h2 h3 h4 h5 => by rw [o4 a b k h1 h2 h3, o2 a b k h4 h5]
      have x4 : m4.2 = m2.2 := by rw [← hm4]; rfl
      have e5 : m4.1 5 0 5 = m.1 5 0 5 := o 5 0 5 (by omega) (by omega) (by omega) (by omega) (by omega)
      have e50 : m4.1 50 0 = m.1 50 0 := by funext i; exact o 50 0 i (by omega) (by omega) (by omega) (by omega) (by omega)
      have eH : m4.1 0 0 12 = 1 := by rw [o 0 0 12 (by omega) (by omega) (by omega) (by omega) (by omega)]; exact q7
      have stO : ∀ n v t, n ≤ 40 → ST m B (m.1 5 0 5) n 0 2460 v t → ST m4 B (m.1 5 0 5) n 0 2460 v t := fun n v t hn z => ST_n (fun a k h1 h2 => o a n k (by omega) (by omega) (by omega) (by omega) (by omega)) (by rw [x4, a3]; exact xM 12 n 17 (by omega)) (fun a k h1 h2 => o a 0 k (by omega) (by omega) (by omega) (by omega) (by omega)) z
      have eL : ∀ a k, (5 ≤ a ∧ a ≤ 7) ∨ (45 ≤ a ∧ a ≤ 47) → m4.1 a 0 k = m.1 a 0 k := fun a k h => o a 0 k (by omega) (by omega) (by omega) (by omega) (by omega)
      obtain ⟨i1, i2, i3, i4, i5⟩ := hm
      refine ⟨?_, Or.inr ⟨eH, F, B, D, P, W, t, LL_w eL q1, LB_w eL q2, ?_, ?_, ?_, ?_⟩, ?_, ?_, ?_⟩
      · rw [eH, o 40 0 15 (by omega) (by omega) (by omega) (by omega) (by omega)]; exact q8.symm
      · rw [e5, o 40 0 22 (by omega) (by omega) (by omega) (by omega) (by omega)]; exact q3
      · rw [e5, e50]; exact stO 40 _ t (by decide) q4
      · rw [e5]
        obtain ⟨cc, s, tt, k1, k2, k3, k4, k5, k6, k7, k8⟩ := p1
        refine ⟨cc, s, tt, by rw [o 0 0 16 (by omega) (by omega) (by omega) (by omega) (by omega)]; exact k1, by rw [o 40 0 28 (by omega) (by omega) (by omega) (by omega) (by omega)]; exact k2, by rw [o 0 0 15 (by omega) (by omega) (by omega) (by omega) (by omega)]; exact k3, k4, k5, k6, fun j hj => ?_, k8⟩
        have ek : krow m4 j = krow m j := by funext i; exact o 52 0 _ (by omega) (by omega) (by omega) (by omega) (by omega)
        rw [ek]
        exact stO _ _ _ (by have : (s + j) % 40 < 40 := Nat.mod_lt _ (by decide); omega) (k7 j hj)
      · rw [e5]
        have h39 : m4.1 40 0 39 = 1 := by rw [← hm4]; exact uI_s
        have h13 : m4.1 0 0 13 = 1 := by rw [← hm4, uI_o (by decide), rst_o (by decide), uI_s]
        unfold IM
        rw [h39, h13]
        refine ⟨rfl, Or.inr rfl, fun _ => ⟨t, ?_⟩⟩
        refine ST_v (u := m.1 50 0) (fun i hi => ?_) (ST_n (m := m2) (fun a k h1 h2 => o4 a 41 k (by omega) (by omega) (by omega)) (by rw [x4]) (fun a k h1 h2 => o4 a 1 k (by omega) (by omega) (by omega)) st41)
        rw [← hm4, uI_o (by decide), rst_r, if_pos (by omega), uI_o (by decide), Nat.sub_zero]
        exact o2 50 0 i (by omega) (by omega)
      · exact IS_same (fun a b k z => o a b k (by unfold nsC at z; omega) (by unfold nsC at z; omega) (by unfold nsC at z; omega) (by unfold nsC at z; omega) (by unfold nsC at z; omega)) i3
      · exact IT_same (fun a b k z => o a b k (by unfold nsT at z; omega) (by unfold nsT at z; omega) (by unfold nsT at z; omega) (by unfold nsT at z; omega) (by unfold nsT at z; omega)) i4
      · exact IR_same (fun a b k z => o a b k (by unfold nsR at z; omega) (by unfold nsR at z; omega) (by unfold nsR at z; omega) (by unfold nsR at z; omega) (by unfold nsR at z; omega)) i5
theorem k_back : Ok1 JX11_back JX12_back := by
  intro m hm
  unfold JX11_back JX12_back
  rcases hm.2.1 with ⟨c0, hi⟩ | ⟨c1, hi⟩
  · exact ⟨-1, m, m, by rw [hi.2.2.2.2.2.1, if_pos rfl], by rw [hi.2.2.2.2.2.2.1, if_pos rfl], hm⟩
  · have c : ¬ m.1 0 0 12 = 0 := by rw [c1]; decide
    obtain ⟨F, B, D, P, W, t, hy⟩ := Inv_cy hm c
    obtain ⟨cc, kr, tt, hc, hr⟩ := CY_cp hy
    obtain ⟨im1, im2, im3⟩ := hy.2.2
    rcases im2 with z | z
    · exact ⟨-1, m, m, by rw [z, if_pos rfl], by rw [← im1, z, if_pos rfl], hm⟩
    · obtain ⟨t2, hs⟩ := im3 z
      have hv := VW_q hs.1.1 hs.1.2.2.1
      obtain ⟨w, e1, e2, e3, _⟩ := c_copy (m := m) (n := 40) (n1 := 41) (by decide) (bw_01 hv.2.2.2.2.1) (bw_01 hv.2.2.2.1) (bw_01 hv.2.2.2.2.2.2.1)
      have e18 : (Sm m 40 w (m.2 12 41 17)).1 12 40 6 = nI t2 := by
        rw [Sm_r (by decide), show ix 12 6 = 18 from rfl, e2 18 (by decide), hs.1.1 18 (by decide)]
        exact hs.1.2.2.1.2.2.2.2.2.2.2.2
      generalize hM : Sm m 40 w (m.2 12 41 17) = m1 at e1 e18
      obtain ⟨m2, a1, a2, a3, a4⟩ := c_latest (m := m1) (n := 0) (n1 := 1) (sz := 2460) (sz1 := 60) (t := t2) (by decide) rfl rfl (by decide) (by decide) (by decide) (by decide) (by decide) hs.2.2
      have st40 : ST m2 B (m.1 5 0 5) 40 0 2460 (m.1 59 0) t2 := ST_cp hs e2 e3 hM a2 a3 a4
      have hC2 : Ca m m2 := by
        refine Ca_t (b := m1) (by rw [← hM]; exact Ca_Sm (by decide)) ⟨fun a b k _ h2 _ _ => a2 a b k h2, by rw [a3], fun a b k _ => by rw [a3]⟩
      have hC : Ca m (uI m2 0 0 16 0) := Ca_t hC2 ⟨fun a b k _ _ _ h => uI_n (by omega), rfl, fun _ _ _ _ => rfl⟩
      have hr1 := Ca_RP hC hr
      generalize hm3 : uI m2 0 0 16 0 = m3 at *
      have o3 : ∀ a b k, (a ≠ 0 ∨ k ≠ 16) → m3.1 a b k = m2.1 a b k := fun a b k h => by rw [← hm3]; exact uI_n h
      have x3 : m3.2 = m2.2 := by rw [← hm3]; rfl
      obtain ⟨r1, r2, r3, r4, r5, r6, ⟨r7, r7b⟩, r8, r9, r10, r11⟩ := id hr1
      generalize hV : (fun i => if i < 232 then m.1 59 0 i else m.1 50 0 i) = V
      have eV : ∀ i, i < 232 → V i = m.1 59 0 i := fun i hi => by rw [← hV]; exact if_pos hi
      have sV : ST m2 B (m.1 5 0 5) 40 0 2460 V t2 := ST_v eV st40
      have g5 : m3.1 5 0 5 = m.1 5 0 5 := hC.1 5 0 5 (by omega) (by omega) (by omega) (by omega)
      have e59 : m3.1 59 0 = m.1 59 0 := by funext i; exact hC.1 59 0 i (by omega) (by omega) (by omega) (by omega)
      have row : (uI (rst m3 50 0 (m3.1 59 0) 0 232) 40 0 28 0).1 50 0 = V := by
        funext i
        rw [uI_o (by decide), rst_r, ← hV, e59]
        show _ = if i < 232 then m.1 59 0 i else m.1 50 0 i
        by_cases hi : i < 232
        · rw [if_pos (by omega), if_pos hi, Nat.sub_zero]
        · rw [if_neg (by omega), if_neg hi, r6]
      have oR : ∀ x y k, x ≠ 50 → (x ≠ 40 ∨ k ≠ 28) → (uI (rst m3 50 0 (m3.1 59 0) 0 232) 40 0 28 0).1 x y k = m3.1 x y k := fun x y k h1 h2 => by rw [uI_n h2, rst_o (Or.inl h1)]
      have sV3 : ST m3 B (m.1 5 0 5) 40 0 2460 V t2 := ST_w (fun a k h1 h2 => o3 a 40 k (by omega)) (by rw [x3]) (fun a b k h1 h2 => o3 a b k (by omega)) sV
      refine ⟨nI t2, m3, uI (rst m3 50 0 (m3.1 59 0) 0 232) 40 0 28 0, ?_, ?_, fin_inv hm hy hC (v := V) (t := t2) (c := 0) (kr := kr) (tt := tt) ⟨r1, LB_w (Ca_L hC) hc.2.1, by rw [hC.1 0 0 12 (by omega) (by omega) (by omega) (by omega)]; exact c1, by rw [g5]; exact sV3, ?_, ?_⟩ ⟨fun x y k h1 _ _ h4 => oR x y k h1 (by omega), fun _ _ _ _ => rfl⟩ ⟨LL_k (fun x y k h1 => oR x y k (by omega) (by omega)) r1, ?_, ?_, ?_, ?_, row, ⟨uI_s, fun j i hj _ => absurd hj (by omega)⟩, by decide, sV.1.2.2.1, sV.2.1.1, hs.2.2⟩⟩
      · rw [z, if_neg (by decide), e1, calV_s, e18, a1, calV_s, stI_s, hm3, o3 12 40 6 (by decide), a2 12 40 6 (by omega), e18]
      · have f39 : ¬ m3.1 40 0 39 = 0 := by rw [hC.1 40 0 39 (by omega) (by omega) (by omega) (by omega), ← im1, z]; decide
        rw [if_neg f39, m_copy50]
        show stI _ 40 0 28 0 _ = _
        rw [stI_s, rd (i := 18) 18 rfl (by decide), row]
        have : V 18 = nI t2 := sV.1.2.2.1.2.2.2.2.2.2.2.2
        rw [this]
      · obtain ⟨s, k1, k2, k3, k4, k5⟩ := hc.2.2.2.2.1
        refine ⟨s, by rw [← hm3]; exact uI_s, ?_, by decide, k4, fun j hj => absurd hj (by omega)⟩
        rw [o3 0 0 15 (by decide), a2 0 0 15 (by omega), ← hM, Sm_o (by decide)]
        exact k2
      · exact ⟨fun i j _ h => absurd h (by omega), fun j h => absurd h (by omega)⟩
      · rw [oR 40 0 22 (by decide) (by decide), oR 5 0 5 (by decide) (by decide)]; exact r2
      · rw [oR 40 0 24 (by decide) (by decide)]; exact r3
      · rw [oR 40 0 23 (by decide) (by decide)]; exact r4
      · rw [oR 40 0 15 (by decide) (by decide)]; exact r5
