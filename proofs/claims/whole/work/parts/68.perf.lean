/-! scripts are performed -/
def GSc (m : hM) (s N : Nat) (ks : Nat → Nat) (as bs : Nat → Int32) : Prop := m.1 8 s 3 = nI N ∧ ∀ i, i < N → m.1 9 s i = nI (ks i) ∧ m.1 10 s i = as i ∧ m.1 11 s i = bs i
def GSm (m : hM) (s N : Nat) (ks : Nat → Nat) (as bs : Nat → Int32) : Prop := m.1 49 0 s = nI N ∧ ∀ i, i < N → m.1 48 0 (3 * (12 * s + i)) = nI (ks i) ∧ m.1 48 0 (3 * (12 * s + i) + 1) = as i ∧ m.1 48 0 (3 * (12 * s + i) + 2) = bs i
def GSv (N : Nat) (ks : Nat → Nat) (as bs : Nat → Int32) : Prop := N ≤ 12 ∧ ∀ i, i < N → ks i ≤ 7 ∧ SV (nI (ks i)) (as i) (bs i)
theorem SC_gs {m : hM} {s : Nat} (h : SC m s) : ∃ N ks as bs, GSv N ks as bs ∧ GSc m s N ks as bs ∧ GSm m s N ks as bs := by
  obtain ⟨N, h0, h1, h2, h3⟩ := h
  have cl : ∀ i, i < N → m.1 9 s i = nI (m.1 9 s i).toNatClampNeg ∧ (m.1 9 s i).toNatClampNeg ≤ 7 := fun i hi => by
    obtain ⟨kk, a1, a2, _⟩ := SV_k (h3 i hi).2.2.2
    rw [a2, nI_clamp (by omega)]
    exact ⟨rfl, a1⟩
  refine ⟨N, fun i => (m.1 9 s i).toNatClampNeg, fun i => m.1 10 s i, fun i => m.1 11 s i, ⟨h0, fun i hi => ⟨(cl i hi).2, ?_⟩⟩, ⟨h1, fun i hi => ⟨(cl i hi).1, rfl, rfl⟩⟩, h2, fun i hi => ⟨?_, (h3 i hi).2.1.symm, (h3 i hi).2.2.1.symm⟩⟩
  · show SV (nI (m.1 9 s i).toNatClampNeg) (m.1 10 s i) (m.1 11 s i)
    rw [← (cl i hi).1]
    exact (h3 i hi).2.2.2
  · rw [← (h3 i hi).1]
    exact (cl i hi).1
theorem GSc_w {m m2 : hM} {s N : Nat} {ks : Nat → Nat} {as bs : Nat → Int32} (h : ∀ a k, 8 ≤ a → a ≤ 11 → m2.1 a s k = m.1 a s k) (q : GSc m s N ks as bs) : GSc m2 s N ks as bs := by
  refine ⟨by rw [h 8 3 (by decide) (by decide)]; exact q.1, fun i hi => ?_⟩
  rw [h 9 i (by decide) (by decide), h 10 i (by decide) (by decide), h 11 i (by decide) (by decide)]
  exact q.2 i hi
theorem GSm_w {m m2 : hM} {s N : Nat} {ks : Nat → Nat} {as bs : Nat → Int32} (h : ∀ a k, a = 48 ∨ a = 49 → m2.1 a 0 k = m.1 a 0 k) (q : GSm m s N ks as bs) : GSm m2 s N ks as bs := by
  refine ⟨by rw [h 49 s (by decide)]; exact q.1, fun i hi => ?_⟩
  rw [h 48 _ (by decide), h 48 _ (by decide), h 48 _ (by decide)]
  exact q.2 i hi
theorem c_canStep {m : hM} {n F B D P W t s N i : Nat} {v : Nat → Int32} {ks : Nat → Nat} {as bs : Nat → Int32} (h : SA m n F B D P W v t) (gv : GSv N ks as bs) (g : GSc m s N ks as bs) (hi : i < N) : ∃ m1, JX11_canStep n s (nI i) m = some (some (.inl (if rfG (m.1 6 0) F B D P (ks i) (as i) (bs i) v = -1 then 1 else 0)), m1) ∧ Ex m m1 := by
  obtain ⟨m1, e1, e2⟩ := c_refusal h (ks i) (gv.2 i hi).1 (as i) (bs i)
  have h12 : N ≤ 12 := gv.1
  refine ⟨m1, ?_, e2⟩
  obtain ⟨g1, g2, g3⟩ := g.2 i hi
  unfold JX11_canStep JX7_has
  rw [g.1, if_neg (nI_pos (by omega)), if_neg (nI_ge hi (by omega)), if_neg (show ¬ (12 : Int32) ≤ nI i from nI_ge (a := i) (b := 12) (by omega) (by decide)), jretZ_1, calI_s, if_neg (by decide), ald_n (t := 9) (n := s) i rfl (by decide) (show i < 12 by omega), ald_n (t := 10) (n := s) i rfl (by decide) (show i < 12 by omega), ald_n (t := 11) (n := s) i rfl (by decide) (show i < 12 by omega), g1, g2, g3, e1, calI_s]
  by_cases c : rfG (m.1 6 0) F B D P (ks i) (as i) (bs i) v = -1
  · rw [if_pos c, if_pos c, jretZ_1]
  · rw [if_neg c, if_neg c, jretZ_0]
theorem RP_u {m : hM} {F B D P W t c k : Nat} {x : Int32} {v : Nat → Int32} {kr : Nat → Nat → Int32} (hk : k = 31 ∨ k = 32) (q : RP m F B D P W v t c kr) : RP (uI m 40 0 k x) F B D P W v t c kr := by
  obtain ⟨q1, q2, q3, q4, q5, q6, ⟨q7, q7b⟩, q8⟩ := q
  have o : ∀ a b j, a ≠ 40 ∨ (j ≠ 31 ∧ j ≠ 32) → (uI m 40 0 k x).1 a b j = m.1 a b j := fun a b j z => uI_n (by omega)
  refine ⟨LL_k (fun a b j z => o a b j (by omega)) q1, ?_, ?_, ?_, ?_, ?_, ⟨?_, fun j i hj hi => ?_⟩, q8⟩
  · rw [o 40 0 22 (by decide), o 5 0 5 (by decide)]; exact q2
  · rw [o 40 0 24 (by decide)]; exact q3
  · rw [o 40 0 23 (by decide)]; exact q4
  · rw [o 40 0 15 (by decide)]; exact q5
  · rw [← q6]; funext i; exact o 50 0 i (Or.inl (by decide))
  · rw [o 40 0 28 (by decide)]; exact q7
  · rw [← q7b j i hj hi]; exact o 52 0 _ (Or.inl (by decide))
theorem Ra_u {m : hM} {k : Nat} {x : Int32} (hk : k = 31 ∨ k = 32) : Ra m (uI m 40 0 k x) := ⟨fun a b j _ _ _ h => uI_n (by omega), fun _ _ _ _ => rfl⟩
theorem rf_sv {p : Nat → Int32} {F B D P k t N : Nat} {b : Int32} {v : Nat → Int32} (hv : VW B v t) (ht : t ≤ 9999) (hN : N ≤ 60) (h : rfG p F B D P 0 (nI N) b v = -1) : t + N ≤ 9999 := by
  rw [rfG_0] at h
  by_cases c : hwi (nI N) 1 60 = 0
  · rw [if_pos c] at h; exact absurd h (by decide)
  · rw [if_neg c] at h
    by_cases c2 : v 18 + nI N ≤ 9999
    · exact (rf_t hv ht hN).mp c2
    · rw [if_neg c2] at h; exact absurd h (by decide)
/-- a step of the reference that is an act -/
theorem m_actR {m : hM} {F B D P W t c k j : Nat} {a b : Int32} {v : Nat → Int32} {kr : Nat → Nat → Int32} (q : RP m F B D P W v t c kr) (hj : j + 2 < 180) (h0 : m.1 48 0 j = nI k) (h1 : m.1 48 0 (j + 1) = a) (h2 : m.1 48 0 (j + 2) = b) (hv : AV F B k a b) (hf : rfG (m.1 6 0) F B D P k a b v = -1) : ∃ x m2, JX12_doStep (nI j) m = some (some (.inl x), m2) ∧ RP m2 F B D P W (gv m F B D P W k a b v) (gt k t a) c kr ∧ Ra m m2 ∧ m2.1 40 0 31 = m.1 40 0 31 := by
  have hF : F ≤ 3 := q.1.1.2.2.2.2.2.2.1
  have hB : B ≤ 3 := q.1.1.2.2.2.2.2.2.2.1
  have q9 := q.2.2.2.2.2.2.2.2.1
  have q10 := q.2.2.2.2.2.2.2.2.2.1
  have q11 := q.2.2.2.2.2.2.2.2.2.2
  have hN : ∀ N, k = 0 → N ≤ 60 → a = nI N → t + N ≤ 9999 := fun N e1 e2 e3 => by
    subst e1; subst e3
    exact rf_sv (k := 0) q9 q11 e2 hf
  obtain ⟨h, l, e⟩ := m_doStep (S := itN m F B D P W (m.1 5 0 5)) (Wf := fun N => wrN m F B D P W (m.1 5 0 5) v N) (RP_RT q) hj h0 h1 h2 hv (fun e1 N e2 e3 => (RP_syms q e2 (hN N e1 e2 e3)).1)
  refine ⟨_, _, e, RP_HL ?_, Ra_t Ra_Nm Ra_HL, by rw [HL_o (by decide), Nm_o (by decide)]⟩
  show RP (Nm m (gv m F B D P W k a b v)) F B D P W (gv m F B D P W k a b v) (gt k t a) c kr
  by_cases c0 : k = 0
  · subst c0
    obtain ⟨N, hN1, hN2, ea⟩ := bw1_n (hv.2.1 rfl)
    subst ea
    rw [gv_0 (by omega), gt_0 (by omega)]
    exact (RP_syms q hN2 (hN N rfl hN2 rfl)).2
  · have e1 : gt k t a = t := if_neg c0
    rw [e1]
    refine RP_Nm q ?_ ?_ q11
    · have hk : k ≤ 7 := hv.1
      have no : ∀ (i : Nat) (x y : Nat) (z : Prop), x ≠ y → (x = y → z) := fun _ x y z h e => absurd e h
      rcases (by omega : k = 1 ∨ k = 2 ∨ k = 3 ∨ k = 4 ∨ k = 5 ∨ k = 6 ∨ k = 7) with e | e | e | e | e | e | e <;> subst e
      · exact VW_s q9 (fun c => absurd c (by decide)) (fun _ => hv.2.2.1 rfl) (fun c => absurd c (by decide)) (fun c => absurd c (by decide)) (fun c => absurd c (by decide)) (by decide)
      · exact VW_s q9 (fun c => absurd c (by decide)) (fun c => absurd c (by decide)) (fun _ => hv.2.2.2.1 rfl) (fun c => absurd c (by decide)) (fun c => absurd c (by decide)) (by decide)
      · obtain ⟨⟨i, hi, ea⟩, hb⟩ := hv.2.2.2.2.1 rfl
        subst ea
        have cl : (nI i).toNatClampNeg = i := nI_clamp (by omega)
        show VW B (upd (upd v (nI i).toNatClampNeg b) (6 + (nI i).toNatClampNeg) 0) t
        rw [cl]
        have v1 := VW_s (k := i) (a := b) q9 (fun _ => hb) (fun c => absurd c (by omega)) (fun c => absurd c (by omega)) (fun c => absurd c (by omega)) (fun c => absurd c (by omega)) (by omega)
        exact VW_s (k := 6 + i) (a := 0) v1 (fun c => absurd c (by omega)) (fun c => absurd c (by omega)) (fun c => absurd c (by omega)) (fun c => absurd c (by omega)) (fun c => absurd c (by omega)) (by omega)
      · exact VW_s q9 (fun c => absurd c (by decide)) (fun c => absurd c (by decide)) (fun c => absurd c (by decide)) (fun c => absurd c (by decide)) (fun _ => ⟨by decide, by decide⟩) (by decide)
      · exact VW_s q9 (fun c => absurd c (by decide)) (fun c => absurd c (by decide)) (fun c => absurd c (by decide)) (fun _ => hv.2.2.2.2.2 rfl) (fun c => absurd c (by decide)) (by decide)
      · exact VW_s q9 (fun c => absurd c (by decide)) (fun c => absurd c (by decide)) (fun c => absurd c (by decide)) (fun c => absurd c (by decide)) (fun c => absurd c (by decide)) (by decide)
      · have hph := ph_of q9.2.2.1
        exact VW_s q9 (fun c => absurd c (by decide)) (fun _ => n01 (nbk_3 _ _ _ hph.2)) (fun c => absurd c (by decide)) (fun c => absurd c (by decide)) (fun c => absurd c (by decide)) (by decide)
    · unfold gv
      rw [gA_hi hF hB (by omega) hv (by decide)]
      exact q10
theorem gv_m {m m2 : hM} {F B D P W k : Nat} {a b : Int32} {v : Nat → Int32} (hm : Lsm m m2) (hF : F ≤ 3) (hB : B ≤ 3) (hD : D ≤ 2) : gv m F B D P W k a b v = gv m2 F B D P W k a b v := by
  unfold gv
  have e6 : m.1 6 0 = m2.1 6 0 := by funext i; exact hm 6 i (by decide) (by decide)
  rw [e6, hm 5 5 (by decide) (by decide), show itN m F B D P W (m2.1 5 0 5) = itN m2 F B D P W (m2.1 5 0 5) from by funext v N; rw [itN_m hm hF hB hD N]]
theorem l_perf {F B D P W s N : Nat} {ks : Nat → Nat} {as bs : Nat → Int32} (hs : s < 4) (gs : GSv N ks as bs) : ∀ r i, i + r = N → ∀ m v t c kr tt, CP m F B D P W v t c kr tt → GSc m s N ks as bs → ∃ d v2 t2 c2 kr2 tt2 m1, CP m1 F B D P W v2 t2 c2 kr2 tt2 ∧ Ca m m1 ∧ (∀ K f, r < f → JX11_perform_29 K s f (nI i) (nI i) m = K d m1) ∧ ∀ m', RP m' F B D P W v t c kr → Lsm m' m → GSm m' s N ks as bs → m'.1 40 0 31 = nI i → ∃ m2, RP m2 F B D P W v2 t2 c2 kr2 ∧ Ra m' m2 ∧ m2.1 40 0 31 = d ∧ ∀ K f, r < f → JX12_goSteps_10 K (nI s) 1 f m' = K m2 := by
  have h12 : N ≤ 12 := gs.1
  intro r
  induction r with
  | zero =>
    intro i hi m v t c kr tt hc g
    refine ⟨nI i, v, t, c, kr, tt, m, hc, Ca_r m, fun K f hf => ?_, fun m' q1 q2 q3 q4 => ⟨m', q1, Ra_r m', q4, fun K f hf => ?_⟩⟩
    · obtain ⟨f, rfl⟩ : ∃ x, f = x + 1 := ⟨f - 1, by omega⟩
      show bJX11_perform_29 _ _ _ _ _ _ = _
      unfold bJX11_perform_29
      rw [g.1, if_pos (nI_le (by omega) (by omega))]
    · obtain ⟨f, rfl⟩ : ∃ x, f = x + 1 := ⟨f - 1, by omega⟩
      show bJX12_goSteps_10 _ _ _ _ _ = _
      unfold bJX12_goSteps_10
      rw [ald_n (t := 49) (n := 0) s rfl (by decide) (show s < 5 by omega), q3.1, q4, if_pos (nI_le (by omega) (by omega))]
  | succ r ih =>
    intro i hi m v t c kr tt hc g
    have hiN : i < N := by omega
    have hF : F ≤ 3 := hc.1.1.2.2.2.2.2.2.1
    have hB : B ≤ 3 := hc.1.1.2.2.2.2.2.2.2.1
    have hD : D ≤ 2 := hc.1.1.2.2.2.2.2.2.2.2.1
    have sa : SA m 40 F B D P W v t := ⟨hc.1, hc.2.1, hc.2.2.1, hc.2.2.2.1.1.1, hc.2.2.2.1.1.2.2.1, by decide⟩
    obtain ⟨m1, e1, e2⟩ := c_canStep sa gs g hiN
    obtain ⟨hk7, sv⟩ := gs.2 i hiN
    have ij : (3 : Int32) * (12 * nI s + nI i) = nI (3 * (12 * s + i)) := by rw [show (12 : Int32) = nI 12 from rfl, show (3 : Int32) = nI 3 from rfl, pk_mul, nI_add, pk_mul]
    have p1 : m1.1 6 0 = m.1 6 0 := by funext j; exact e2.1 6 0 j (by omega)
    have refc : ∀ m', RP m' F B D P W v t c kr → Lsm m' m → GSm m' s N ks as bs → m'.1 40 0 31 = nI i → ∃ h l, JX12_canStep (nI (3 * (12 * s + i))) m' = some (some (.inl (if rfG (m.1 6 0) F B D P (ks i) (as i) (bs i) v = -1 then 1 else 0)), HL m' h l) := fun m' q1 q2 q3 q4 => by
      obtain ⟨g1, g2, g3⟩ := q3.2 i hiN
      have p2 : m'.1 6 0 = m.1 6 0 := by funext j; exact q2 6 j (by decide) (by decide)
      have z := m_canStep (RP_RT q1) (j := 3 * (12 * s + i)) (by omega) g1 g2 g3 sv hk7
      rw [p2] at z
      exact z
    by_cases cf : rfG (m.1 6 0) F B D P (ks i) (as i) (bs i) v = -1
    · have av : AV F B (ks i) (as i) (bs i) := by
        rcases rfG_v (m.1 6 0) F B D P (ks i) (as i) (bs i) v hk7 hF hB with ⟨j, hj, ej⟩ | ⟨_, av⟩
        · rw [ej] at cf; exact absurd cf (nI_m1 hj)
        · exact av
      obtain ⟨m2, b1, b2, b3⟩ := c_actG (CP_Ex e2 hc) av (by rw [p1]; exact cf)
      have cA : Ca m m2 := Ca_t (Ca_Ex e2) b3
      obtain ⟨d, v2, t2, c2, kr2, tt2, m3, d1, d2, d3, d4⟩ := ih (i + 1) (by omega) m2 _ _ _ _ _ b2 (GSc_w (fun a k h1 h2 => cA.1 a s k (by omega) (by omega) (by omega) (by omega)) g)
      refine ⟨d, v2, t2, c2, kr2, tt2, m3, d1, Ca_t cA d2, fun K f hf => ?_, fun m' q1 q2 q3 q4 => ?_⟩
      · obtain ⟨f, rfl⟩ : ∃ x, f = x + 1 := ⟨f - 1, by omega⟩
        show bJX11_perform_29 _ _ _ _ _ _ = _
        unfold bJX11_perform_29
        obtain ⟨g1, g2, g3⟩ := (GSc_w (m2 := m1) (fun a k h1 h2 => e2.1 a s k (by omega)) g).2 i hiN
        rw [g.1, if_neg (nI_ge hiN (by omega)), e1, calI_s, if_pos cf, if_neg (by decide), ald_n (t := 9) (n := s) i rfl (by decide) (show i < 12 by omega), ald_n (t := 10) (n := s) i rfl (by decide) (show i < 12 by omega), ald_n (t := 11) (n := s) i rfl (by decide) (show i < 12 by omega), g1, g2, g3, b1, calI_s, ← nI_succ]
        exact d3 K f (by omega)
      · obtain ⟨h, l, f1⟩ := refc m' q1 q2 q3 q4
        have qh := RP_HL (h := h) (l := l) q1
        obtain ⟨mk, k1, k2, k3⟩ := RP_keep qh
        have rk : Ra m' mk := Ra_t Ra_HL k3
        have gk : GSm mk s N ks as bs := GSm_w (fun a k z => by rw [k3.1 a 0 k (by omega) (by omega) (by omega) (by omega)]; exact HL_o (Or.inl (by omega))) q3
        obtain ⟨g1, g2, g3⟩ := gk.2 i hiN
        have hmk : Lsm mk m := fun x z h1 h2 => (Ra_Ls rk x z h1 h2).trans (q2 x z h1 h2)
        have p3 : mk.1 6 0 = m.1 6 0 := by funext j; exact hmk 6 j (by decide) (by decide)
        have k31 : mk.1 40 0 31 = nI i := by
          have z := (m_keep qh.2.2.2.2.2.2.2.1 qh.2.2.2.2.2.2.1.1)
          obtain ⟨mz, z1, z2, _⟩ := z
          rw [k1] at z1
          cases z1
          rw [z2.1 40 0 31 (by decide) (by decide), HL_o (by decide)]
          exact q4
        obtain ⟨x, mx, x1, x2, x3, x4⟩ := m_actR k2 (j := 3 * (12 * s + i)) (by omega) g1 g2 g3 av (by rw [p3]; exact cf)
        have ev : gv mk F B D P W (ks i) (as i) (bs i) v = gv m1 F B D P W (ks i) (as i) (bs i) v := gv_m (fun y z h1 h2 => (hmk y z h1 h2).trans (e2.1 y 0 z (by omega)).symm) hF hB hD
        rw [ev] at x2
        have qy := RP_u (k := 31) (x := nI (i + 1)) (Or.inl rfl) (RP_u (k := 32) (x := mk.1 40 0 32 + x) (Or.inr rfl) x2)
        have ry : Ra m' (uI (uI mx 40 0 32 (mk.1 40 0 32 + x)) 40 0 31 (nI (i + 1))) := Ra_t (Ra_t rk x3) (Ra_t (Ra_u (Or.inr rfl)) (Ra_u (Or.inl rfl)))
        obtain ⟨mz, y1, y2, y3, y4⟩ := d4 (uI (uI mx 40 0 32 (mk.1 40 0 32 + x)) 40 0 31 (nI (i + 1))) qy (fun y z h1 h2 => by
          rw [Ra_Ls ry y z h1 h2, q2 y z h1 h2]
          exact (Ca_Ls cA y z h1 h2).symm) (GSm_w (fun a k z => ry.1 a 0 k (by omega) (by omega) (by omega) (by omega)) q3) uI_s
        refine ⟨mz, y1, Ra_t ry y2, y3, fun K f hf => ?_⟩
        obtain ⟨f, rfl⟩ : ∃ x, f = x + 1 := ⟨f - 1, by omega⟩
        show bJX12_goSteps_10 _ _ _ _ _ = _
        unfold bJX12_goSteps_10 JX12_goSteps_49
        rw [ald_n (t := 49) (n := 0) s rfl (by decide) (show s < 5 by omega), q3.1, q4, if_neg (nI_ge hiN (by omega)), ij, f1, calI_s, if_pos cf, if_neg (by decide), if_neg (by decide), k1, calV_s, k31, ij, x1, calI_s, stI_s, stI_s, uI_n (by decide), x4, k31, ← nI_succ]
        exact y4 K f (by omega)
    · refine ⟨nI i, v, t, c, kr, tt, m1, CP_Ex e2 hc, Ca_Ex e2, fun K f hf => ?_, fun m' q1 q2 q3 q4 => ?_⟩
      · obtain ⟨f, rfl⟩ : ∃ x, f = x + 1 := ⟨f - 1, by omega⟩
        show bJX11_perform_29 _ _ _ _ _ _ = _
        unfold bJX11_perform_29
        rw [g.1, if_neg (nI_ge hiN (by omega)), e1, calI_s, if_neg cf, if_pos rfl]
      · obtain ⟨h, l, f1⟩ := refc m' q1 q2 q3 q4
        refine ⟨HL m' h l, RP_HL q1, Ra_HL, by rw [HL_o (by decide)]; exact q4, fun K f hf => ?_⟩
        obtain ⟨f, rfl⟩ : ∃ x, f = x + 1 := ⟨f - 1, by omega⟩
        show bJX12_goSteps_10 _ _ _ _ _ = _
        unfold bJX12_goSteps_10
        rw [ald_n (t := 49) (n := 0) s rfl (by decide) (show s < 5 by omega), q3.1, q4, if_neg (nI_ge hiN (by omega)), ij, f1, calI_s, if_neg cf, if_pos rfl]
theorem k_perform (a : Int32) : Ok1 (JX11_perform a) (JX12_perform a) := by
  intro m hm
  unfold JX11_perform JX12_perform JX12_isScript
  by_cases c : m.1 0 0 12 = 0
  · exact ⟨-1, m, m, by rw [if_pos c], by rw [← hm.1, if_pos c, jretZ_0, calI_s, if_pos rfl], hm⟩
  · obtain ⟨F, B, D, P, W, t, hy⟩ := Inv_cy hm c
    obtain ⟨cc, kr, tt, hc, hr⟩ := CY_cp hy
    have c15 : ¬ m.1 40 0 15 = 0 := by rw [← hm.1]; exact c
    obtain ⟨q, hq, q1, q2, q3⟩ := hm.2.2.1
    rw [if_neg c, o_isScr q1 hq, q1, e_within, calI_s, jretZ_b (hwi_b _ _ _), calI_s]
    rcases hw a (nI q - 1) q (by omega) rfl with ⟨s, hs, ea, e1⟩ | ⟨e1, _⟩
    · subst ea
      obtain ⟨N, ks, as, bs, gs, gc, gm⟩ := SC_gs (q3 s hs)
      have h12 : N ≤ 12 := gs.1
      obtain ⟨d, v2, t2, c2, kr2, tt2, m1, a1, a2, a3, a4⟩ := l_perf (by omega) gs N 0 (by omega) m _ _ _ _ _ hc gc
      have hr1 := Ca_RP a2 hr
      have qy := RP_u (k := 32) (x := 0) (Or.inr rfl) (RP_u (k := 31) (x := 0) (Or.inl rfl) hr1)
      have ry : Ra m1 (uI (uI m1 40 0 31 0) 40 0 32 0) := Ra_t (Ra_u (Or.inl rfl)) (Ra_u (Or.inr rfl))
      obtain ⟨m2, b1, b2, b3, b4⟩ := a4 (uI (uI m1 40 0 31 0) 40 0 32 0) qy (fun x z h1 h2 => by rw [Ra_Ls ry x z h1 h2]; exact Ca_Ls a2 x z h1 h2) (GSm_w (fun x k z => by rw [ry.1 x 0 k (by omega) (by omega) (by omega) (by omega), a2.1 x 0 k (by omega) (by omega) (by omega) (by omega)]) gm) (by rw [uI_n (by decide)]; exact uI_s)
      refine ⟨d, m1, m2, ?_, ?_, fin_inv hm hy a2 a1 (Ra_t ry b2) b1⟩
      · rw [e1, if_neg (by decide)]
        unfold aal
        rw [if_pos ⟨by decide, inb_nI (show s < sLen 38 0 from (show s < 4 by omega)) (sLen_le _ _)⟩, nI_clamp (by omega)]
        exact a3 _ FU (by rw [FU_eq]; omega)
      · rw [if_neg (by rw [a2.1 40 0 15 (by omega) (by omega) (by omega) (by omega)]; exact c15), a2.1 40 0 18 (by omega) (by omega) (by omega) (by omega), q2, e_in, calI_s, e1, if_neg (by decide), jretZ_1, calI_s, if_neg (by decide)]
        unfold JX12_goSteps
        rw [stI_s, stI_s, b4 _ FU (by rw [FU_eq]; omega), calV_s, b3]
    · exact ⟨-1, m, m, by rw [e1, if_pos rfl], by rw [if_neg c15, q2, e_in, calI_s, e1, if_pos rfl, jretZ_0, calI_s, if_pos rfl], hm⟩
