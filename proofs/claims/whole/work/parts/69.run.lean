/-! scripts are tried -/
theorem sub3 (a b c : Int32) : (b - a) + (c - b) = c - a := by
  rw [Int32.add_comm, Int32.sub_eq_add_neg b a, ← Int32.add_assoc, Int32.sub_add_cancel, ← Int32.sub_eq_add_neg]
/-- alike but for State 42 and the Eye -/
def Cr (m m2 : hM) : Prop := (∀ a b k, ¬ (12 ≤ a ∧ a ≤ 19 ∧ b = 42) → (a < 24 ∨ 27 < a) → m2.1 a b k = m.1 a b k) ∧ ∀ a b k, ¬ (a = 12 ∧ b = 42) → m2.2 a b k = m.2 a b k
theorem Cr_r (m : hM) : Cr m m := ⟨fun _ _ _ _ _ => rfl, fun _ _ _ _ => rfl⟩
theorem Cr_t {a b c : hM} (h : Cr a b) (h2 : Cr b c) : Cr a c := ⟨fun x y z q1 q2 => (h2.1 x y z q1 q2).trans (h.1 x y z q1 q2), fun x y z q => (h2.2 x y z q).trans (h.2 x y z q)⟩
theorem Cr_Ex {m m2 : hM} (h : Ex m m2) : Cr m m2 := ⟨fun a b k _ q => h.1 a b k q, fun a b k _ => by rw [h.2]⟩
theorem Cr_Sm {m : hM} {w : Nat → Int32} {x : Int64} : Cr m (Sm m 42 w x) := ⟨fun a b k q _ => if_neg (by omega), fun a b k q => if_neg (by omega)⟩
theorem Same_Cr {m m2 : hM} (h : Cr m m2) : Same m m2 := ⟨⟨fun a b c q => h.1 a b c (by unfold nsA at q; omega) (by unfold nsA at q; omega), fun n hn => h.2 12 n 17 (by omega)⟩, fun a b c q => h.1 a b c (by unfold nsC at q; omega) (by unfold nsC at q; omega), fun a b c q => h.1 a b c (by unfold nsT at q; omega) (by unfold nsT at q; omega), fun a b c q => h.1 a b c (by unfold nsR at q; omega) (by unfold nsR at q; omega), fun a b c q => h.1 a b c (by unfold nsH at q; omega) (by unfold nsH at q; omega)⟩
/-- alike but for the reference's living row and its marks -/
def Rt (m m2 : hM) : Prop := (∀ a b k, (a ≠ 50 ∨ b ≠ 0 ∨ 51 ≤ k) → ¬ (a = 40 ∧ (k = 25 ∨ k = 26 ∨ k = 31 ∨ k = 32)) → m2.1 a b k = m.1 a b k) ∧ m2.2 = m.2
theorem Rt_r (m : hM) : Rt m m := ⟨fun _ _ _ _ _ => rfl, rfl⟩
theorem Rt_t {a b c : hM} (h : Rt a b) (h2 : Rt b c) : Rt a c := ⟨fun x y z q1 q2 => (h2.1 x y z q1 q2).trans (h.1 x y z q1 q2), h2.2.trans h.2⟩
theorem Rt_HL {m : hM} {h l : Int32} : Rt m (HL m h l) := ⟨fun a b k _ q => HL_o (by omega), rfl⟩
theorem Rt_u {m : hM} {k : Nat} {x : Int32} (hk : k = 31 ∨ k = 32) : Rt m (uI m 40 0 k x) := ⟨fun a b j _ h => uI_n (by omega), rfl⟩
def RTt (m : hM) (F B D P W : Nat) (v : Nat → Int32) (t : Nat) : Prop := RT m F B D P W v t ∧ m.1 40 0 22 = m.1 5 0 5 ∧ m.1 40 0 24 = 1 ∧ m.1 40 0 23 = -1000000000
theorem RTt_w {m m2 : hM} {F B D P W t : Nat} {v : Nat → Int32} (h : ∀ a b k, ¬ (a = 40 ∧ (k = 25 ∨ k = 26 ∨ k = 31 ∨ k = 32)) → m2.1 a b k = m.1 a b k) (q : RTt m F B D P W v t) : RTt m2 F B D P W v t := by
  obtain ⟨⟨q1, q2, q3, q4, q5⟩, q6, q7, q8⟩ := q
  refine ⟨⟨LL_k (fun a b k z => h a b k (by omega)) q1, ?_, ?_, q4, q5⟩, ?_, ?_, ?_⟩
  · rw [h 40 0 15 (by omega)]; exact q2
  · rw [← q3]; funext i; exact h 50 0 i (by omega)
  · rw [h 40 0 22 (by omega), h 5 0 5 (by omega)]; exact q6
  · rw [h 40 0 24 (by omega)]; exact q7
  · rw [h 40 0 23 (by omega)]; exact q8
theorem RTt_Nm {m : hM} {F B D P W t t2 : Nat} {v v2 : Nat → Int32} (q : RTt m F B D P W v t) (h1 : VW B v2 t2) (h2 : t2 ≤ 9999) : RTt (Nm m v2) F B D P W v2 t2 := by
  obtain ⟨⟨q1, q2, q3, q4, q5⟩, q6, q7, q8⟩ := q
  refine ⟨⟨LL_Nm q1, ?_, Nm_50, h1, h2⟩, ?_, ?_, ?_⟩
  · rw [Nm_o (by decide)]; exact q2
  · rw [Nm_o (by decide), Nm_o (by decide)]; exact q6
  · rw [Nm_o (by decide)]; exact q7
  · rw [Nm_o (by decide)]; exact q8
def gw (m : hM) (F B D P W k : Nat) (a b : Int32) (v : Nat → Int32) : Nat → Int32 := gA (m.1 6 0) (itM m F B D P W (m.1 5 0 5)) F B D P k a b v
theorem itM_m {m m2 : hM} {F B D P W : Nat} {g : Int32} {v : Nat → Int32} (hm : Lsm m m2) (hF : F ≤ 3) (hB : B ≤ 3) (hD : D ≤ 2) : ∀ N, itM m F B D P W g v N = itM m2 F B D P W g v N := by
  intro N
  induction N with
  | zero =>
    show v = v
    rfl
  | succ N ih =>
    show stM m F B D P W g (itM m F B D P W g v N) = stM m2 F B D P W g (itM m2 F B D P W g v N)
    rw [ih, stM_m hm hF hB hD]
theorem gw_m {m m2 : hM} {F B D P W k : Nat} {a b : Int32} {v : Nat → Int32} (hm : Lsm m m2) (hF : F ≤ 3) (hB : B ≤ 3) (hD : D ≤ 2) : gw m F B D P W k a b v = gw m2 F B D P W k a b v := by
  unfold gw
  have e6 : m.1 6 0 = m2.1 6 0 := by funext i; exact hm 6 i (by decide) (by decide)
  rw [e6, hm 5 5 (by decide) (by decide), show itM m F B D P W (m2.1 5 0 5) = itM m2 F B D P W (m2.1 5 0 5) from by funext v N; rw [itM_m hm hF hB hD N]]
theorem gw_0 {m : hM} {F B D P W N : Nat} {b : Int32} {v : Nat → Int32} (hN : N < 1000) : gw m F B D P W 0 (nI N) b v = itM m F B D P W (m.1 5 0 5) v N := by
  show itM m F B D P W (m.1 5 0 5) v (nI N).toNatClampNeg = _
  rw [nI_clamp (by omega)]
theorem gA_25 {p : Nat → Int32} {S : (Nat → Int32) → Nat → Nat → Int32} {F B D P k : Nat} {a b : Int32} {v : Nat → Int32} (hF : F ≤ 3) (hB : B ≤ 3) (hk : 1 ≤ k) (hv : AV F B k a b) : gA p S F B D P k a b v 25 = v 25 := by
  unfold gA
  rw [if_neg (by omega)]
  by_cases c1 : k = 1
  · rw [if_pos c1, pk_un (by omega)]
  rw [if_neg c1]
  by_cases c2 : k = 2
  · rw [if_pos c2, pk_un (by omega)]
  rw [if_neg c2]
  by_cases c3 : k = 3
  · obtain ⟨⟨j, hj, e⟩, _⟩ := hv.2.2.2.2.1 c3
    rw [if_pos c3, e, nI_clamp (by omega), pk_un (by omega), pk_un (by omega)]
  rw [if_neg c3]
  by_cases c4 : k = 4
  · rw [if_pos c4, pk_un (by omega)]
  rw [if_neg c4]
  by_cases c5 : k = 5
  · rw [if_pos c5, pk_un (by omega)]
  rw [if_neg c5]
  by_cases c6 : k = 6
  · rw [if_pos c6, pk_un (by omega)]
  rw [if_neg c6, pk_un (by omega)]
/-- the class tries -/
def CT (m : hM) (F B D P W : Nat) (v : Nat → Int32) (t : Nat) : Prop := LL m F B D P W ∧ LB m P ∧ m.1 0 0 12 = 1 ∧ RS B (m.1 5 0 5) (vec m 42) (m.2 12 42 17) v t ∧ t ≤ 9999
theorem CT_Ex {m m2 : hM} {F B D P W t : Nat} {v : Nat → Int32} (h : Ex m m2) (q : CT m F B D P W v t) : CT m2 F B D P W v t := by
  obtain ⟨q1, q2, q3, q4, q5⟩ := q
  have hC := Ca_Ex h
  have ev : vec m2 42 = vec m 42 := by
    funext i
    unfold vec
    have := lc_k i
    exact h.1 _ _ _ (by omega)
  refine ⟨Ca_LL hC q1, LB_w (Ca_L hC) q2, by rw [h.1 0 0 12 (by decide)]; exact q3, ?_, q5⟩
  rw [h.1 5 0 5 (by decide), ev, h.2]
  exact q4
theorem c_tryG {m : hM} {F B D P W t k : Nat} {a b : Int32} {v : Nat → Int32} (h : CT m F B D P W v t) (hv : AV F B k a b) {s i NN : Nat} (h8 : m.1 8 s 3 = nI NN) (hi : i < NN) (hNN : NN ≤ 12) (g1 : m.1 9 s i = nI k) (g2 : m.1 10 s i = a) (g3 : m.1 11 s i = b) (hf : rfG (m.1 6 0) F B D P k a b v = -1) : ∃ m2, JX11_tryStep 42 s (nI i) m = some (none, m2) ∧ CT m2 F B D P W (gw m F B D P W k a b v) (gt k t a) ∧ Cr m m2 := by
  obtain ⟨q1, q2, q3, q4, q5⟩ := id h
  have sa : SA m 42 F B D P W v t := ⟨q1, q2, q3, q4.1, q4.2.2.1, by decide⟩
  have hs : JX7_has s (nI i) m = some (some (.inl 1), m) := by
    unfold JX7_has
    rw [h8, if_neg (nI_pos (by omega)), if_neg (nI_ge hi (by omega)), if_neg (show ¬ (12 : Int32) ≤ nI i from nI_ge (a := i) (b := 12) (by omega) (by decide)), jretZ_1]
  have fin : ∀ (m1 : hM) (w : Nat → Int32) (x : Int64) (v2 : Nat → Int32) (t2 : Nat), Ex m m1 → t2 ≤ 9999 → RS B (m.1 5 0 5) w x v2 t2 → CT (Sm m1 42 w x) F B D P W v2 t2 ∧ Cr m (Sm m1 42 w x) := by
    intro m1 w x v2 t2 e1 e2 e3
    have hC : Ca m (Sm m1 42 w x) := Ca_t (Ca_Ex e1) (Ca_Sm (by decide))
    refine ⟨⟨Ca_LL hC q1, LB_w (Ca_L hC) q2, by rw [hC.1 0 0 12 (by omega) (by omega) (by omega) (by omega)]; exact q3, ?_, e2⟩, Cr_t (Cr_Ex e1) Cr_Sm⟩
    have e := vec_Sm (m := m1) (n := 42) (w := w) (x := x)
    have ex : (Sm m1 42 w x).2 12 42 17 = x := Sm_x
    rw [hC.1 5 0 5 (by omega) (by omega) (by omega) (by omega), ex]
    exact RS_g e3 e.1 e.2
  by_cases c0 : k = 0
  · subst c0
    obtain ⟨N, hN1, hN2, ea⟩ := bw1_n (hv.2.1 rfl)
    subst ea
    have htN := rf_sv (k := 0) q4.2.2.1 q5 hN2 hf
    have e := c_wrongIn (n := 42) (N := N) q4 q1.1 (by omega) (by omega)
    rw [Sm_self] at e
    have rs := RS_it (m := m) (m2 := m) q4 (fun _ _ _ _ => rfl) q1.1 N (by omega)
    have z := fin m _ _ _ _ Ex_r htN rs
    rw [gw_0 (by omega), gt_0 (by omega)]
    exact ⟨_, by unfold JX11_tryStep; rw [hs, calI_s, if_neg (by decide), ald_n (t := 9) (n := s) i rfl (by decide) (show i < 12 by omega), g1, if_pos (show nI 0 = 0 from rfl), ald_n (t := 10) (n := s) i rfl (by decide) (show i < 12 by omega), g2, e, calI_s], z.1, z.2⟩
  · obtain ⟨m1, w1, b1, b2, b3⟩ := c_carry sa q4 k (by omega) hv
    have z := fin m1 w1 (m.2 12 42 17) _ t b2 q5 (b3 (itM m F B D P W (m.1 5 0 5)))
    have eg : gt k t a = t := if_neg c0
    rw [eg]
    exact ⟨_, by unfold JX11_tryStep; rw [hs, calI_s, if_neg (by decide), ald_n (t := 9) (n := s) i rfl (by decide) (show i < 12 by omega), g1, if_neg (nI_ne0 (by omega) (by have := hv.1; omega)), ald_n (t := 9) (n := s) i rfl (by decide) (show i < 12 by omega), g1, ald_n (t := 10) (n := s) i rfl (by decide) (show i < 12 by omega), ald_n (t := 11) (n := s) i rfl (by decide) (show i < 12 by omega), g2, g3, b1, calI_s], z.1, z.2⟩
/-- the reference tries -/
theorem m_tryR {m : hM} {F B D P W t k j : Nat} {a b : Int32} {v : Nat → Int32} (q : RTt m F B D P W v t) (hj : j + 2 < 180) (h0 : m.1 48 0 j = nI k) (h1 : m.1 48 0 (j + 1) = a) (h2 : m.1 48 0 (j + 2) = b) (hv : AV F B k a b) (hf : rfG (m.1 6 0) F B D P k a b v = -1) (hvw : VW B (gw m F B D P W k a b v) (gt k t a)) (ht2 : gt k t a ≤ 9999) : ∃ m2, JX12_doStep (nI j) m = some (some (.inl (gw m F B D P W k a b v 25 - v 25)), m2) ∧ RTt m2 F B D P W (gw m F B D P W k a b v) (gt k t a) ∧ Rt m m2 ∧ m2.1 40 0 31 = m.1 40 0 31 := by
  obtain ⟨⟨q1, q2, q3, q4, q5⟩, q6, q7, q8⟩ := id q
  have hF : F ≤ 3 := q1.1.2.2.2.2.2.2.1
  have hB : B ≤ 3 := q1.1.2.2.2.2.2.2.2.1
  have sf : Nm m v = m := by rw [← q3, Nm_self]
  obtain ⟨h, l, e⟩ := m_doStep (S := itM m F B D P W (m.1 5 0 5)) (Wf := fun N => wrS m F B D P W (m.1 5 0 5) v N) q.1 hj h0 h1 h2 hv (fun e1 N e2 e3 => by
    have z := m_symbolsT (m := m) (N := N) q4 q8 q7 q1 (by omega) (by omega)
    rw [sf, q6] at z
    exact z)
  have ex : (if k = 0 then wrS m F B D P W (m.1 5 0 5) v a.toNatClampNeg else 0) = gw m F B D P W k a b v 25 - v 25 := by
    by_cases c0 : k = 0
    · subst c0
      obtain ⟨N, hN1, hN2, ea⟩ := bw1_n (hv.2.1 rfl)
      subst ea
      rw [gw_0 (by omega), if_pos rfl, nI_clamp (by omega), it_25 hF hB, Int32.add_comm, Int32.add_sub_cancel]
    · unfold gw
      rw [if_neg c0, gA_25 hF hB (by omega) hv, Int32.sub_self]
  refine ⟨_, by rw [← ex]; exact e, ?_, ?_, by rw [HL_o (by decide), Nm_o (by decide)]⟩
  · exact RTt_w (m := Nm m (gw m F B D P W k a b v)) (fun x y z hn => HL_o (by omega)) (RTt_Nm q hvw ht2)
  · refine Rt_t (b := Nm m (gw m F B D P W k a b v)) ⟨fun x y z h1 _ => ?_, rfl⟩ Rt_HL
    by_cases c5 : x = 50 ∧ y = 0
    · rw [c5.1, c5.2, Nm_r, q3]
      have hz : 51 ≤ z := by omega
      by_cases c0 : k = 0
      · subst c0
        obtain ⟨N, hN1, hN2, ea⟩ := bw1_n (hv.2.1 rfl)
        subst ea
        rw [gw_0 (by omega)]
        exact itM_g hF hB hz N
      · unfold gw
        exact gA_hi hF hB (by omega) hv (by omega)
    · exact if_neg c5
theorem l_run {F B D P W s N : Nat} {ks : Nat → Nat} {as bs : Nat → Int32} {a2 w0 : Int32} (hs : s < 4) (gs : GSv N ks as bs) : ∀ r i, i + r = N → ∀ m v t, CT m F B D P W v t → GSc m s N ks as bs → ∃ d, ∃ v2 : Nat → Int32, ∃ m1, m1.1 18 42 3 = v2 25 ∧ Cr m m1 ∧ (∀ K f, r < f → JX11_run_63 K a2 s 42 w0 f (nI i) (nI i) m = K d m1) ∧ ∀ m', RTt m' F B D P W v t → Lsm m' m → GSm m' s N ks as bs → m'.1 40 0 31 = nI i → ∃ m2, Rt m' m2 ∧ m2.1 40 0 31 = d ∧ m2.1 40 0 32 = m'.1 40 0 32 + (v2 25 - v 25) ∧ ∀ K f, r < f → JX12_goSteps_10 K (nI s) 0 f m' = K m2 := by
  have h12 : N ≤ 12 := gs.1
  have at25 : ∀ m v t, CT m F B D P W v t → m.1 18 42 3 = v 25 := fun m v t h => by
    rw [vec_at (by decide), show ix 18 3 = 25 from rfl]
    exact h.2.2.2.1.1 25 (by decide)
  intro r
  induction r with
  | zero =>
    intro i hi m v t hc g
    refine ⟨nI i, v, m, at25 m v t hc, Cr_r m, fun K f hf => ?_, fun m' q1 q2 q3 q4 => ⟨m', Rt_r m', q4, by rw [Int32.sub_self, Int32.add_zero], fun K f hf => ?_⟩⟩
    · obtain ⟨f, rfl⟩ : ∃ x, f = x + 1 := ⟨f - 1, by omega⟩
      show bJX11_run_63 _ _ _ _ _ _ _ _ _ = _
      unfold bJX11_run_63
      rw [g.1, if_pos (nI_le (by omega) (by omega))]
    · obtain ⟨f, rfl⟩ : ∃ x, f = x + 1 := ⟨f - 1, by omega⟩
      show bJX12_goSteps_10 _ _ _ _ _ = _
      unfold bJX12_goSteps_10
      rw [ald_n (t := 49) (n := 0) s rfl (by decide) (show s < 5 by omega), q3.1, q4, if_pos (nI_le (by omega) (by omega))]
  | succ r ih =>
    intro i hi m v t hc g
    have hiN : i < N := by omega
    have hF : F ≤ 3 := hc.1.1.2.2.2.2.2.2.1
    have hB : B ≤ 3 := hc.1.1.2.2.2.2.2.2.2.1
    have hD : D ≤ 2 := hc.1.1.2.2.2.2.2.2.2.2.1
    have sa : SA m 42 F B D P W v t := ⟨hc.1, hc.2.1, hc.2.2.1, hc.2.2.2.1.1, hc.2.2.2.1.2.2.1, by decide⟩
    obtain ⟨m1, e1, e2⟩ := c_canStep sa gs g hiN
    obtain ⟨hk7, sv⟩ := gs.2 i hiN
    have ij : (3 : Int32) * (12 * nI s + nI i) = nI (3 * (12 * s + i)) := by rw [show (12 : Int32) = nI 12 from rfl, show (3 : Int32) = nI 3 from rfl, pk_mul, nI_add, pk_mul]
    have p1 : m1.1 6 0 = m.1 6 0 := by funext j; exact e2.1 6 0 j (by omega)
    have refc : ∀ m', RTt m' F B D P W v t → Lsm m' m → GSm m' s N ks as bs → m'.1 40 0 31 = nI i → ∃ h l, JX12_canStep (nI (3 * (12 * s + i))) m' = some (some (.inl (if rfG (m.1 6 0) F B D P (ks i) (as i) (bs i) v = -1 then 1 else 0)), HL m' h l) := fun m' q1 q2 q3 q4 => by
      obtain ⟨g1, g2, g3⟩ := q3.2 i hiN
      have p2 : m'.1 6 0 = m.1 6 0 := by funext j; exact q2 6 j (by decide) (by decide)
      have z := m_canStep q1.1 (j := 3 * (12 * s + i)) (by omega) g1 g2 g3 sv hk7
      rw [p2] at z
      exact z
    by_cases cf : rfG (m.1 6 0) F B D P (ks i) (as i) (bs i) v = -1
    · have av : AV F B (ks i) (as i) (bs i) := by
        rcases rfG_v (m.1 6 0) F B D P (ks i) (as i) (bs i) v hk7 hF hB with ⟨j, hj, ej⟩ | ⟨_, av⟩
        · rw [ej] at cf; exact absurd cf (nI_m1 hj)
        · exact av
      have gg : GSc m1 s N ks as bs := GSc_w (m2 := m1) (fun a k h1 h2 => e2.1 a s k (by omega)) g
      obtain ⟨m2, b1, b2, b3⟩ := c_tryG (CT_Ex e2 hc) av gg.1 hiN h12 (gg.2 i hiN).1 (gg.2 i hiN).2.1 (gg.2 i hiN).2.2 (by rw [p1]; exact cf)
      have cA : Cr m m2 := Cr_t (Cr_Ex e2) b3
      have cL : Lsm m2 m := fun x z h1 h2 => cA.1 x 0 z (by omega) (by omega)
      obtain ⟨d, v2, m3, d1, d2, d3, d4⟩ := ih (i + 1) (by omega) m2 _ _ b2 (GSc_w (fun a k h1 h2 => cA.1 a s k (by omega) (by omega)) g)
      refine ⟨d, v2, m3, d1, Cr_t cA d2, fun K f hf => ?_, fun m' q1 q2 q3 q4 => ?_⟩
      · obtain ⟨f, rfl⟩ : ∃ x, f = x + 1 := ⟨f - 1, by omega⟩
        show bJX11_run_63 _ _ _ _ _ _ _ _ _ = _
        unfold bJX11_run_63
        rw [g.1, if_neg (nI_ge hiN (by omega)), e1, calI_s, if_pos cf, if_neg (by decide), b1, calV_s, ← nI_succ]
        exact d3 K f (by omega)
      · obtain ⟨h, l, f1⟩ := refc m' q1 q2 q3 q4
        have qh : RTt (HL m' h l) F B D P W v t := RTt_w (m := m') (fun x y z hn => HL_o (by omega)) q1
        have gk : GSm (HL m' h l) s N ks as bs := GSm_w (m := m') (fun a k z => HL_o (Or.inl (by omega))) q3
        obtain ⟨g1, g2, g3⟩ := gk.2 i hiN
        have hmk : Lsm (HL m' h l) m := fun x z h1 h2 => by rw [HL_o (Or.inl (by omega))]; exact q2 x z h1 h2
        have p3 : (HL m' h l).1 6 0 = m.1 6 0 := by funext j; exact hmk 6 j (by decide) (by decide)
        have ev : gw (HL m' h l) F B D P W (ks i) (as i) (bs i) v = gw m1 F B D P W (ks i) (as i) (bs i) v := gw_m (fun y z h1 h2 => (hmk y z h1 h2).trans (e2.1 y 0 z (by omega)).symm) hF hB hD
        obtain ⟨mx, x1, x2, x3, x4⟩ := m_tryR qh (j := 3 * (12 * s + i)) (by omega) g1 g2 g3 av (by rw [p3]; exact cf) (by rw [ev]; exact b2.2.2.2.1.2.2.1) b2.2.2.2.2
        rw [ev] at x1 x2
        have h31 : (HL m' h l).1 40 0 31 = nI i := by rw [HL_o (by decide)]; exact q4
        have h32 : (HL m' h l).1 40 0 32 = m'.1 40 0 32 := HL_o (by decide)
        generalize gw m1 F B D P W (ks i) (as i) (bs i) v = vv at *
        have ry : Rt m' (uI (uI mx 40 0 32 (m'.1 40 0 32 + (vv 25 - v 25))) 40 0 31 (nI (i + 1))) := Rt_t (Rt_t Rt_HL x3) (Rt_t (Rt_u (Or.inr rfl)) (Rt_u (Or.inl rfl)))
        have qy : RTt (uI (uI mx 40 0 32 (m'.1 40 0 32 + (vv 25 - v 25))) 40 0 31 (nI (i + 1))) F B D P W vv (gt (ks i) t (as i)) := RTt_w (m := mx) (fun a b k hn => by rw [uI_n (by omega), uI_n (by omega)]) x2
        obtain ⟨mz, y1, y2, y3, y4⟩ := d4 _ qy (fun y z h1 h2 => by
          rw [ry.1 y 0 z (by omega) (by omega), q2 y z h1 h2]
          exact (cL y z h1 h2).symm) (GSm_w (m := m') (fun a k z => ry.1 a 0 k (by omega) (by omega)) q3) uI_s
        refine ⟨mz, Rt_t ry y1, y2, ?_, fun K f hf => ?_⟩
        · rw [y3, uI_n (by decide), uI_s, Int32.add_assoc]
          congr 1
          exact sub3 _ _ _
        · obtain ⟨f, rfl⟩ : ∃ x, f = x + 1 := ⟨f - 1, by omega⟩
          show bJX12_goSteps_10 _ _ _ _ _ = _
          unfold bJX12_goSteps_10 JX12_goSteps_49
          rw [ald_n (t := 49) (n := 0) s rfl (by decide) (show s < 5 by omega), q3.1, q4, if_neg (nI_ge hiN (by omega)), ij, f1, calI_s, if_pos cf, if_neg (by decide), if_pos rfl, h31, ij, x1, calI_s, stI_s, stI_s, uI_n (by decide), x4, h31, h32, ← nI_succ]
          exact y4 K f (by omega)
    · refine ⟨nI i, v, m1, ?_, Cr_Ex e2, fun K f hf => ?_, fun m' q1 q2 q3 q4 => ?_⟩
      · rw [e2.1 18 42 3 (by decide)]; exact at25 m v t hc
      · obtain ⟨f, rfl⟩ : ∃ x, f = x + 1 := ⟨f - 1, by omega⟩
        show bJX11_run_63 _ _ _ _ _ _ _ _ _ = _
        unfold bJX11_run_63
        rw [g.1, if_neg (nI_ge hiN (by omega)), e1, calI_s, if_neg cf, if_pos rfl]
      · obtain ⟨h, l, f1⟩ := refc m' q1 q2 q3 q4
        refine ⟨HL m' h l, Rt_HL, by rw [HL_o (by decide)]; exact q4, by rw [HL_o (by decide), Int32.sub_self, Int32.add_zero], fun K f hf => ?_⟩
        obtain ⟨f, rfl⟩ : ∃ x, f = x + 1 := ⟨f - 1, by omega⟩
        show bJX12_goSteps_10 _ _ _ _ _ = _
        unfold bJX12_goSteps_10
        rw [ald_n (t := 49) (n := 0) s rfl (by decide) (show s < 5 by omega), q3.1, q4, if_neg (nI_ge hiN (by omega)), ij, f1, calI_s, if_neg cf, if_pos rfl]
/-- brought back, whatever was tried -/
theorem m_backG {m M : hM} (h24 : m.1 40 0 24 = 0) (hM : Rt (mAs m) M) : ∃ m2, JX12_bringBack 0 M = some (none, m2) ∧ Same m m2 ∧ m2.1 40 0 31 = M.1 40 0 31 ∧ m2.1 40 0 32 = M.1 40 0 32 := by
  refine ⟨_, m_bringBack (d := 0) (by decide), ?_, ?_, ?_⟩
  · have e : ∀ a b c, a ≠ 53 → ¬ (a = 40 ∧ (c = 25 ∨ c = 26 ∨ c = 31 ∨ c = 32)) → (rst (uI M 40 0 24 (if 0 = 0 then 0 else 1)) 50 0 (fun i => M.1 53 0 (51 * 0 + i)) 0 51).1 a b c = m.1 a b c := by
      intro a b c h hn
      by_cases h1 : a = 50 ∧ b = 0
      · rw [h1.1, h1.2, rst_r]
        by_cases h2 : 0 ≤ c ∧ c < 0 + 51
        · rw [if_pos h2]
          show M.1 53 0 (51 * 0 + (c - 0)) = _
          rw [hM.1 53 0 _ (Or.inl (by decide)) (by omega)]
          unfold mAs
          rw [rst_r, if_pos (by omega), show 51 * 0 + (c - 0) - 0 = c from by omega]
        · rw [if_neg h2, uI_n (Or.inl (by decide)), hM.1 50 0 c (Or.inr (Or.inr (by omega))) (by omega), mAs_o (by decide) (Or.inl (by decide))]
      · rw [rst_o (by omega)]
        by_cases h2 : a = 40 ∧ b = 0 ∧ c = 24
        · rw [h2.1, h2.2.1, h2.2.2, uI_s, if_pos rfl, h24]
        · have e1 : (uI M 40 0 24 (if 0 = 0 then 0 else 1)).1 a b c = M.1 a b c := if_neg h2
          rw [e1, hM.1 a b c (by omega) hn]
          unfold mAs
          rw [rst_o (Or.inl h)]
          exact if_neg h2
    exact ⟨⟨fun a b c h => e a b c (by unfold nsA at h; omega) (by unfold nsA at h; omega), fun n _ => by show M.2 12 n 17 = _; rw [hM.2]; rfl⟩, fun a b c h => e a b c (by unfold nsC at h; omega) (by unfold nsC at h; omega), fun a b c h => e a b c (by unfold nsT at h; omega) (by unfold nsT at h; omega), fun a b c h => e a b c (by unfold nsR at h; omega) (by unfold nsR at h; omega), fun a b c h => e a b c (by unfold nsH at h; omega) (by unfold nsH at h; omega)⟩
  · rw [rst_o (by decide), uI_n (by decide)]
  · rw [rst_o (by decide), uI_n (by decide)]
theorem k_run (a b : Int32) : Ok1 (JX11_run a b) (JX12_run a b) := by
  intro m hm
  unfold JX11_run JX12_run JX12_isScript
  by_cases c : m.1 0 0 12 = 0
  · exact ⟨_, m, m, by rw [if_pos c], by rw [← hm.1, if_pos c, jretZ_0, calI_s, if_pos rfl], hm⟩
  · obtain ⟨F, B, D, P, W, t, hx⟩ := Inv_cx hm c
    have c15 : ¬ m.1 40 0 15 = 0 := by rw [← hm.1]; exact c
    obtain ⟨q, hq, q1, q2, q3⟩ := hm.2.2.1
    rw [if_neg c, o_isScr q1 hq, q1, e_within, calI_s, jretZ_b (hwi_b _ _ _), calI_s]
    rcases hw a (nI q - 1) q (by omega) rfl with ⟨s, hs, ea, e1⟩ | ⟨e1, _⟩
    · subst ea
      rw [e1, if_neg (by decide), e_within, calI_s]
      rcases hwi_b b 0 1 with e2 | e2
      · exact ⟨_, m, m, by rw [e2, if_pos rfl], by rw [if_neg c15, q2, e_in, calI_s, e1, if_neg (by decide), jretZ_1, calI_s, if_neg (by decide), e_in, calI_s, e2, if_pos rfl], hm⟩
      · obtain ⟨N, ks, as, bs, gs, gc, gm⟩ := SC_gs (q3 s hs)
        have h12 : N ≤ 12 := gs.1
        obtain ⟨w, w1, w2⟩ := c_copyOf hx.2.2.2.1
        have cr0 : Cr m (Sm m 42 w (m.2 12 40 17)) := Cr_Sm
        have v25 : (Sm m 42 w (m.2 12 40 17)).1 18 42 3 = m.1 50 0 25 := by
          rw [Sm_r (by decide), show ix 18 3 = 25 from rfl]
          exact w2.1 25 (by decide)
        have ct : CT (Sm m 42 w (m.2 12 40 17)) F B D P W (m.1 50 0) t := by
          have hC : Ca m (Sm m 42 w (m.2 12 40 17)) := Ca_Sm (by decide)
          refine ⟨Ca_LL hC hx.1, LB_w (Ca_L hC) hx.2.1, by rw [hC.1 0 0 12 (by omega) (by omega) (by omega) (by omega)]; exact hx.2.2.2.2.2.2.1, ?_, hx.2.2.2.1.2.2⟩
          have e := vec_Sm (m := m) (n := 42) (w := w) (x := m.2 12 40 17)
          have ex : (Sm m 42 w (m.2 12 40 17)).2 12 42 17 = m.2 12 40 17 := Sm_x
          rw [hC.1 5 0 5 (by omega) (by omega) (by omega) (by omega), ex]
          exact RS_g w2 e.1 e.2
        generalize hM : Sm m 42 w (m.2 12 40 17) = m0 at *
        obtain ⟨d, v2, m1, a1, a2, a3, a4⟩ := l_run (a2 := b) (w0 := m.1 50 0 25) (by omega) gs N 0 (by omega) m0 _ _ ct (GSc_w (fun x k h1 h2 => cr0.1 x s k (by omega) (by omega)) gc)
        have cr := Cr_t cr0 a2
        have s1 := Same_Cr cr
        have hx1 := CX_same s1 hx
        have e50 : m1.1 50 0 = m.1 50 0 := row_same s1.1 (by decide)
        generalize hy : uI (uI (Nm (mAs m1) (m1.1 50 0)) 40 0 31 0) 40 0 32 0 = my
        have nself : Nm (mAs m1) (m1.1 50 0) = mAs m1 := by
          have z : m1.1 50 0 = (mAs m1).1 50 0 := by funext i; rw [mAs_o (by decide) (Or.inl (by decide))]
          rw [z, Nm_self]
        have oy : ∀ x y k, x ≠ 53 → ¬ (x = 40 ∧ (k = 24 ∨ k = 31 ∨ k = 32)) → my.1 x y k = m1.1 x y k := fun x y k h1 h2 => by rw [← hy, nself, uI_n (by omega), uI_n (by omega), mAs_o h1 (by omega)]
        have y24 : my.1 40 0 24 = 1 := by rw [← hy, nself, uI_n (by decide), uI_n (by decide)]; exact mAs_24
        have y31 : my.1 40 0 31 = 0 := by rw [← hy, uI_n (by decide)]; exact uI_s
        have y32 : my.1 40 0 32 = 0 := by rw [← hy]; exact uI_s
        have ryt : Rt (mAs m1) my := by rw [← hy, nself]; exact Rt_t (Rt_u (Or.inl rfl)) (Rt_u (Or.inr rfl))
        have rt : RTt my F B D P W (m.1 50 0) t := by
          refine ⟨⟨LL_k (fun x y k z => oy x y k (by omega) (by omega)) hx1.1, ?_, ?_, hx.2.2.2.1.1.2.2.1, hx.2.2.2.1.2.2⟩, ?_, y24, ?_⟩
          · rw [oy 40 0 15 (by omega) (by omega)]; exact hx1.2.2.2.2.2.2.2
          · rw [← e50]; funext i; exact oy 50 0 i (by omega) (by omega)
          · rw [oy 40 0 22 (by omega) (by omega), oy 5 0 5 (by omega) (by omega)]; exact hx1.2.2.1
          · rw [oy 40 0 23 (by omega) (by omega)]; exact hx1.2.2.2.2.2.1
        obtain ⟨m2, b1, b2, b3, b4⟩ := a4 my rt (fun x z h1 h2 => by rw [oy x 0 z (by omega) (by omega), a2.1 x 0 z (by omega) (by omega)]) (GSm_w (fun x k z => by rw [oy x 0 k (by omega) (by omega), cr.1 x 0 k (by omega) (by omega)]) gm) y31
        obtain ⟨m3, d1, d2, d3, d4⟩ := m_backG (m := m1) (M := m2) hx1.2.2.2.2.1 (Rt_t ryt b1)
        have n8 : m1.1 8 s 3 = nI N := by rw [cr.1 8 s 3 (by omega) (by omega)]; exact gc.1
        have n49 : m3.1 49 0 s = nI N := by rw [d2.2.1 49 0 s (n_49 (by omega)), cr.1 49 0 s (by omega) (by omega)]; exact gm.1
        have r32 : m3.1 40 0 32 = v2 25 - m.1 50 0 25 := by rw [d4, b3, y32, Int32.zero_add]
        have r31 : m3.1 40 0 31 = d := by rw [d3, b2]
        refine ⟨if b = 1 then v2 25 - m.1 50 0 25 else if d = nI N then -1 else d, m1, m3, ?_, ?_, Inv_same (Same_t s1 d2) hm⟩
        · rw [e2, if_neg (by decide)]
          unfold aal
          rw [if_pos ⟨by decide, inb_nI (show s < sLen 38 0 from (show s < 4 by omega)) (sLen_le _ _)⟩, nI_clamp (by omega)]
          show calA 12 (JX0_copyOf 40 m) _ = _
          rw [w1, calA_s (by decide), lt_s9, v25]
          show JX11_run_63 _ b s 42 (m.1 50 0 25) FU (nI 0) (nI 0) m0 = _
          rw [a3 _ FU (by rw [FU_eq]; omega)]
          unfold JX11_run_102
          rw [a1, n8]
          by_cases c3 : b = 1
          · rw [if_pos c3, if_pos c3]
          · rw [if_neg c3, if_neg c3]
            by_cases c4 : d = nI N
            · rw [if_pos c4, if_pos c4]
            · rw [if_neg c4, if_neg c4]
        · rw [if_neg (by rw [cr.1 40 0 15 (by omega) (by omega)]; exact c15), cr.1 40 0 18 (by omega) (by omega), q2, e_in, calI_s, e1, if_neg (by decide), jretZ_1, calI_s, if_neg (by decide), e_in, calI_s, e2, if_neg (by decide), m_put, calV_s]
          unfold JX12_goSteps
          rw [stI_s, stI_s, hy, b4 _ FU (by rw [FU_eq]; omega), calV_s, d1, calV_s, r32, ald_n (t := 49) (n := 0) s rfl (by decide) (show s < 5 by omega), n49, r31]
          by_cases c3 : b = 1
          · rw [if_pos c3, if_pos c3]
          · rw [if_neg c3, if_neg c3]
            by_cases c4 : d = nI N
            · rw [if_pos c4, if_pos c4]
            · rw [if_neg c4, if_neg c4]
    · exact ⟨_, m, m, by rw [e1, if_pos rfl], by rw [if_neg c15, q2, e_in, calI_s, e1, if_pos rfl, jretZ_0, calI_s, if_pos rfl], hm⟩
