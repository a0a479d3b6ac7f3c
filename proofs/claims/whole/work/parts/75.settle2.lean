/-! the class's path -/
/-- alike but for State 42 and the path -/
def Cq (m m2 : hM) : Prop := (∀ a b k, ¬ (12 ≤ a ∧ a ≤ 19 ∧ b = 42) → a ≠ 36 → m2.1 a b k = m.1 a b k) ∧ ∀ a b k, ¬ (a = 12 ∧ b = 42) → m2.2 a b k = m.2 a b k
theorem Cq_r (m : hM) : Cq m m := ⟨fun _ _ _ _ _ => rfl, fun _ _ _ _ => rfl⟩
theorem Cq_t {a b c : hM} (h : Cq a b) (h2 : Cq b c) : Cq a c := ⟨fun x y z q1 q2 => (h2.1 x y z q1 q2).trans (h.1 x y z q1 q2), fun x y z q => (h2.2 x y z q).trans (h.2 x y z q)⟩
theorem Cq_Sm {m : hM} {w : Nat → Int32} {x : Int64} : Cq m (Sm m 42 w x) := ⟨fun a b k q _ => if_neg (by omega), fun a b k q => if_neg (by omega)⟩
theorem Cq_p {m : hM} {f : Nat → Int32} : Cq m (uR m 36 0 f) := ⟨fun a b k _ q => if_neg (fun e => q e.1), fun _ _ _ _ => rfl⟩
theorem Same_Cq {m m2 : hM} (h : Cq m m2) : Same m m2 := ⟨⟨fun a b c q => h.1 a b c (by unfold nsA at q; omega) (by unfold nsA at q; omega), fun n hn => h.2 12 n 17 (by omega)⟩, fun a b c q => h.1 a b c (by unfold nsC at q; omega) (by unfold nsC at q; omega), fun a b c q => h.1 a b c (by unfold nsT at q; omega) (by unfold nsT at q; omega), fun a b c q => h.1 a b c (by unfold nsR at q; omega) (by unfold nsR at q; omega), fun a b c q => h.1 a b c (by unfold nsH at q; omega) (by unfold nsH at q; omega)⟩
theorem Ln_Cq {m m2 : hM} {F B D P W : Nat} (h : Cq m m2) (hl : Ln m 0 F B D P W) : Ln m2 0 F B D P W := Ln_w (fun c => h.1 5 0 c (by omega) (by omega)) hl
/-- the State that tries is at row k, and its path is known up to k -/
def PT (m : hM) (F B D P W : Nat) (g : Int32) (v : Nat → Int32) (m2 : hM) (t k : Nat) : Prop := Cq m m2 ∧ RS B g (vec m2 42) (m2.2 12 42 17) (itM m F B D P W g v k) (t + k) ∧ ∀ q, q ≤ k → ∀ i, i < 6 → m2.1 36 0 (6 * q + i) = itM m F B D P W g v q i
section
variable {m M : hM} {F B D P W t k : Nat} {g : Int32} {v : Nat → Int32}
theorem c_keepTaps {u : Nat → Int32} (hk : k ≤ 232) (hu : ∀ i, i < 6 → M.1 13 42 i = u i) : ∃ m2, JX0_keepTaps 42 (nI k) M = some (none, m2) ∧ Cq M m2 ∧ vec m2 42 = vec M 42 ∧ m2.2 = M.2 ∧ (∀ i, i < 6 → m2.1 36 0 (6 * k + i) = u i) ∧ ∀ j, (j < 6 * k ∨ 6 * k + 6 ≤ j) → m2.1 36 0 j = M.1 36 0 j := by
  refine ⟨uR M 36 0 (va_cpy (M.1 13 42) (M.1 36 0) 0 (6 * k) 6), ?_, Cq_p, ?_, rfl, fun i hi => ?_, fun j hj => ?_⟩
  · unfold JX0_keepTaps
    have w : hwi (nI k) 0 232 = 1 := by
      rcases hw (nI k) 232 233 (by decide) (by decide) with ⟨_, _, _, e⟩ | ⟨_, e⟩
      · exact e
      · exact absurd rfl (e k (by omega))
    have e6 : nI k * 6 = nI (6 * k) := by rw [show (6 : Int32) = nI 6 from rfl, pk_mul, Nat.mul_comm]
    rw [e_within, calI_s, w, if_neg (by decide), e6]
    unfold acp
    rw [if_pos ⟨⟨by decide, by decide⟩, by decide, nI_pos (by omega), by decide, by decide, by rw [nI_clamp (by omega)]; show 6 * k + 6 ≤ 1398; omega⟩, nI_clamp (by omega)]
    rfl
  · funext i
    unfold vec
    have := lc_k i
    exact if_neg (by omega)
  · rw [uR_r, pk_cpy_in (by omega) (by omega), Nat.add_sub_cancel_left, Nat.zero_add]
    exact hu i hi
  · rw [uR_r, pk_cpy_out (by omega)]
theorem PT_step (h : PT m F B D P W g v M t k) (hl : LL m F B D P W) (hk : k < 232) (ht : t ≤ 9999) : ∃ m1 m2, JX8_pass 42 0 M = some (none, m1) ∧ JX0_keepTaps 42 (nI (k + 1)) m1 = some (none, m2) ∧ PT m F B D P W g v m2 t (k + 1) := by
  obtain ⟨h1, h2, h3⟩ := h
  have hlM := Ln_Cq h1 hl.1
  have e := c_step (n := 42) (m := M) h2 hlM
  rw [Sm_self] at e
  have hm : Lsm M m := fun a c x y => h1.1 a 0 c (by omega) (by omega)
  have rs := RS_step (m := M) (m2 := m) h2 hm hlM (by omega)
  generalize stC M F B D P W (vec M 42, M.2 12 42 17) = s at e rs
  have ev := vec_Sm (m := M) (n := 42) (w := s.1) (x := s.2)
  have ex : (Sm M 42 s.1 s.2).2 12 42 17 = s.2 := Sm_x
  have hu : ∀ i, i < 6 → (Sm M 42 s.1 s.2).1 13 42 i = itM m F B D P W g v (k + 1) i := fun i hi => by
    rw [Sm_r (by decide), ix13 i hi]
    exact rs.1 i (by omega)
  obtain ⟨m2, a1, a2, a3, a4, a5, a6⟩ := c_keepTaps (k := k + 1) (by omega) hu
  refine ⟨_, m2, e, a1, Cq_t h1 (Cq_t Cq_Sm a2), ?_, fun q hq i hi => ?_⟩
  · rw [a3, a4, ex]
    exact RS_g rs ev.1 ev.2
  · by_cases c : q = k + 1
    · subst c; exact a5 i hi
    · rw [a6 _ (by omega), Sm_o (by decide)]
      exact h3 q (by omega) i hi
theorem PT_fill {n : Nat} {b last : Int32} (hl : LL m F B D P W) (hn : n ≤ 200) (ht : t ≤ 9999) : ∀ r k M, k + r = n + 32 → PT m F B D P W g v M t k → ∃ m2, PT m F B D P W g v m2 t (n + 32) ∧ ∀ K f, r < f → JX0_settledIn_42 K 0 b last 42 (nI n) f (nI k) M = K (nI (n + 32)) m2 := by
  intro r
  induction r with
  | zero =>
    intro k M hk h
    have ek : k = n + 32 := by omega
    subst ek
    refine ⟨M, h, fun K f hf => ?_⟩
    obtain ⟨f, rfl⟩ : ∃ x, f = x + 1 := ⟨f - 1, by omega⟩
    show bJX0_settledIn_42 _ _ _ _ _ _ _ _ _ = _
    unfold bJX0_settledIn_42
    rw [if_pos (show nI n + 32 ≤ nI (n + 32) from by rw [show (32 : Int32) = nI 32 from rfl, nI_add]; exact nI_le (Nat.le_refl _) (by omega))]
  | succ r ih =>
    intro k M hk h
    obtain ⟨m1, m2, a1, a2, a3⟩ := PT_step h hl (by omega) ht
    obtain ⟨m3, b1, b2⟩ := ih (k + 1) m2 (by omega) a3
    refine ⟨m3, b1, fun K f hf => ?_⟩
    obtain ⟨f, rfl⟩ : ∃ x, f = x + 1 := ⟨f - 1, by omega⟩
    show bJX0_settledIn_42 _ _ _ _ _ _ _ _ _ = _
    unfold bJX0_settledIn_42
    rw [if_neg (show ¬ nI n + 32 ≤ nI k from by rw [show (32 : Int32) = nI 32 from rfl, nI_add]; exact nI_ge (by omega) (by omega)), a1, calV_s, ← nI_succ, a2, calV_s]
    exact b2 K f (by omega)
theorem L_lt {L n : Nat} (hL : L < 1000) (hn : n < 1000) : (nI L - 1 < nI n) ↔ L ≤ n := by
  have e : (nI L - 1).toInt = (L : Int) - 1 := by rw [j_sub (by rw [nI_toInt (by omega), show (1 : Int32).toInt = 1 from by decide]; omega) (by rw [nI_toInt (by omega), show (1 : Int32).toInt = 1 from by decide]; omega), nI_toInt (by omega), show (1 : Int32).toInt = 1 from by decide]
  rw [Int32.lt_iff_toInt_lt, e, nI_toInt (by omega)]
  omega
theorem c_search {b : Int32} {L : Nat} (hl : LL m F B D P W) (hL : L ≤ 201) (ht : t ≤ 9999) : ∀ r n k M, n + r = L → (∀ j, j < n → ¬ KP (itM m F B D P W g v) b 6 j) → k ≤ n + 32 → PT m F B D P W g v M t k → ∃ x m2, SR (KP (itM m F B D P W g v) b 6) L x ∧ Cq m m2 ∧ ∀ f, r < f → JX0_settledIn_27 (fun v8 m10 => some (some (.inl v8), m10)) (fun m11 => some (some (.inl (-1)), m11)) 0 b (nI L - 1) 42 f (nI k) (nI n) M = some (some (.inl x), m2) := by
  intro r
  induction r with
  | zero =>
    intro n k M hn hno hk h
    refine ⟨-1, M, Or.inr ⟨fun j hj => hno j (by omega), rfl⟩, h.1, fun f hf => ?_⟩
    obtain ⟨f, rfl⟩ : ∃ x, f = x + 1 := ⟨f - 1, by omega⟩
    show bJX0_settledIn_27 _ _ _ _ _ _ _ _ _ _ = _
    unfold bJX0_settledIn_27
    rw [if_pos ((L_lt (by omega) (by omega)).mpr (by omega))]
  | succ r ih =>
    intro n k M hn hno hk h
    obtain ⟨m2, a1, a2⟩ := PT_fill (n := n) (b := b) (last := nI L - 1) hl (by omega) ht (n + 32 - k) k M (by omega) h
    have c1 : ¬ nI L - 1 < nI n := fun z => by have := (L_lt (by omega) (by omega)).mp z; omega
    have c2 : ¬ (200 : Int32) < nI n := nI_nlt (a := 200) (by omega) (by decide)
    rcases c_stays (b := b) (n := n) (by omega) a1.2.2 with ⟨k1, k2⟩ | ⟨k1, k2⟩
    · refine ⟨nI n, m2, Or.inl ⟨n, by omega, k1, hno, rfl⟩, a1.1, fun f hf => ?_⟩
      obtain ⟨f, rfl⟩ : ∃ x, f = x + 1 := ⟨f - 1, by omega⟩
      show bJX0_settledIn_27 _ _ _ _ _ _ _ _ _ _ = _
      unfold bJX0_settledIn_27
      rw [if_neg c1, if_neg c2, a2 _ FU (by rw [FU_eq]; omega)]
      show calI (JX0_staysWithin (nI n) b m2) _ = _
      rw [k2, calI_s, if_neg (by decide)]
    · obtain ⟨x, m3, b1, b2, b3⟩ := ih (n + 1) (n + 32) m2 (by omega) (fun j hj => by
        by_cases e : j = n
        · rw [e]; exact k1
        · exact hno j (by omega)) (by omega) a1
      refine ⟨x, m3, b1, b2, fun f hf => ?_⟩
      obtain ⟨f, rfl⟩ : ∃ x, f = x + 1 := ⟨f - 1, by omega⟩
      show bJX0_settledIn_27 _ _ _ _ _ _ _ _ _ _ = _
      unfold bJX0_settledIn_27
      rw [if_neg c1, if_neg c2, a2 _ FU (by rw [FU_eq]; omega)]
      show calI (JX0_staysWithin (nI n) b m2) _ = _
      rw [k2, calI_s, if_pos rfl, ← nI_succ]
      exact b3 f (by omega)
theorem c_settle {b : Int32} {L : Nat} (h : CX m F B D P W t) (hL : L ≤ 201) (g : Int32) : ∃ x m2, JX0_settledIn 0 40 b g (nI L - 1) m = some (some (.inl x), m2) ∧ SR (KP (itM m F B D P W g (m.1 50 0)) b 6) L x ∧ Cq m m2 := by
  obtain ⟨w, e1, e2⟩ := c_copyOf h.2.2.2.1
  have e3 : RS B g (upd w 1088 g) (m.2 12 40 17) (m.1 50 0) t := ⟨fun k hk => by rw [pk_un (by omega)]; exact e2.1 k hk, e2.2.1, e2.2.2.1, pk_us, e2.2.2.2.2⟩
  have ev := vec_Sm (m := m) (n := 42) (w := upd w 1088 g) (x := m.2 12 40 17)
  have ex : (Sm m 42 (upd w 1088 g) (m.2 12 40 17)).2 12 42 17 = m.2 12 40 17 := Sm_x
  have hu : ∀ i, i < 6 → (Sm m 42 (upd w 1088 g) (m.2 12 40 17)).1 13 42 i = m.1 50 0 i := fun i hi => by
    rw [Sm_r (by decide), ix13 i hi]
    exact e3.1 i (by omega)
  obtain ⟨m2, a1, a2, a3, a4, a5, a6⟩ := c_keepTaps (k := 0) (by omega) hu
  have pt : PT m F B D P W g (m.1 50 0) m2 t 0 := by
    refine ⟨Cq_t Cq_Sm a2, ?_, fun q hq i hi => ?_⟩
    · rw [a3, a4, ex]
      exact RS_g e3 ev.1 ev.2
    · have : q = 0 := by omega
      subst this
      exact a5 i hi
  obtain ⟨x, m3, b1, b2, b3⟩ := c_search (b := b) h.1 hL h.2.2.2.1.2.2 L 0 0 m2 (by omega) (fun j hj => absurd hj (by omega)) (by omega) pt
  refine ⟨x, m3, ?_, b1, b2⟩
  unfold JX0_settledIn
  rw [e1, calA_s (by decide), stI_s, Sm_u (by decide), show ix 12 11 = 1088 from rfl]
  show calV (JX0_keepTaps 42 (nI 0) _) _ = _
  rw [a1, calV_s]
  exact b3 FU (by rw [FU_eq]; omega)
end
/-! the reference's path -/
def Ru (m m2 : hM) : Prop := (∀ a b k, (a ≠ 50 ∨ b ≠ 0 ∨ 51 ≤ k) → (a < 54 ∨ 58 < a) → m2.1 a b k = m.1 a b k) ∧ m2.2 = m.2
theorem m_backH {m M : hM} (h24 : m.1 40 0 24 = 0) (hM : Ru (mAs m) M) : ∃ m2, JX12_bringBack 0 M = some (none, m2) ∧ Same m m2 ∧ ∀ k, m2.1 58 0 k = M.1 58 0 k := by
  refine ⟨_, m_bringBack (d := 0) (by decide), ?_, fun k => by rw [rst_o (by decide), uI_n (Or.inl (by decide))]⟩
  have e : ∀ a b c, (a < 53 ∨ 58 < a) → (rst (uI M 40 0 24 (if 0 = 0 then 0 else 1)) 50 0 (fun i => M.1 53 0 (51 * 0 + i)) 0 51).1 a b c = m.1 a b c := by
    intro a b c h
    by_cases h1 : a = 50 ∧ b = 0
    · rw [h1.1, h1.2, rst_r]
      by_cases h2 : 0 ≤ c ∧ c < 0 + 51
      · rw [if_pos h2]
        show M.1 53 0 (51 * 0 + (c - 0)) = _
        rw [hM.1 53 0 _ (Or.inl (by decide)) (by omega)]
        unfold mAs
        rw [rst_r, if_pos (by omega), show 51 * 0 + (c - 0) - 0 = c from by omega]
      · rw [if_neg h2, uI_n (Or.inl (by decide)), hM.1 50 0 c (Or.inr (Or.inr (by omega))) (by omega), mAs_o (by decide) (Or.inl (by decide))]
    · rw [rst_o (by omega)]
      by_cases h2 : a = 40 ∧ b = 0 ∧ c = 24
      · rw [h2.1, h2.2.1, h2.2.2, uI_s, if_pos rfl, h24]
      · have e1 : (uI M 40 0 24 (if 0 = 0 then 0 else 1)).1 a b c = M.1 a b c := if_neg h2
        rw [e1, hM.1 a b c (by omega) (by omega)]
        unfold mAs
        rw [rst_o (Or.inl (by omega))]
        exact if_neg h2
  exact ⟨⟨fun a b c h => e a b c (by unfold nsA at h; omega), fun n _ => by show M.2 12 n 17 = _; rw [hM.2]; rfl⟩, fun a b c h => e a b c (by unfold nsC at h; omega), fun a b c h => e a b c (by unfold nsT at h; omega), fun a b c h => e a b c (by unfold nsR at h; omega), fun a b c h => e a b c (by unfold nsH at h; omega)⟩
/-- what the reference's tries rest on, by any gear -/
def CG (m : hM) (F B D P W t : Nat) (g : Int32) : Prop := LL m F B D P W ∧ VW B (m.1 50 0) t ∧ t ≤ 9999 ∧ m.1 40 0 24 = 0 ∧ m.1 40 0 23 = -1000000000 ∧ m.1 40 0 15 = 1 ∧ m.1 40 0 22 = g
theorem m_settle {m : hM} {F B D P W t : Nat} {g b : Int32} (h : CG m F B D P W t g) : ∃ x m2, JX12_settledBy b m = some (some (.inl x), m2) ∧ SR (KP (itM m F B D P W g (m.1 50 0)) b (F + B)) 201 x ∧ Same m m2 := by
  obtain ⟨h1, h2, h3, h4, h5, h6, h7⟩ := h
  have hF : F ≤ 3 := h1.1.2.2.2.2.2.2.1
  have hB : B ≤ 3 := h1.1.2.2.2.2.2.2.2.1
  have hD : D ≤ 2 := h1.1.2.2.2.2.2.2.2.2.1
  generalize hv : m.1 50 0 = v at *
  -- rows of the path
  have inner : ∀ (k : Nat) (M : hM) (u : Nat → Int32), k ≤ 232 → M.1 40 0 15 = 1 → LL M F B D P W → ∃ m2, (∀ K f, F + B < f → JX12_settledBy_16 K b (nI k) f 0 (Nm M u) = K (Nm m2 u)) ∧ (∀ a c d, a ≠ 58 → m2.1 a c d = M.1 a c d) ∧ m2.2 = M.2 ∧ (∀ i, i < F + B → m2.1 58 0 (6 * k + i) = u i) ∧ ∀ j, (j < 6 * k ∨ 6 * k + 6 ≤ j) → m2.1 58 0 j = M.1 58 0 j := by
    intro k M u hk c15 hlM
    have key : ∀ i, i ≤ F + B → ∃ m2, (∀ K f, JX12_settledBy_16 K b (nI k) (f + i) 0 (Nm M u) = JX12_settledBy_16 K b (nI k) f (nI i) (Nm m2 u)) ∧ (∀ a c d, a ≠ 58 → m2.1 a c d = M.1 a c d) ∧ m2.2 = M.2 ∧ (∀ j, j < i → m2.1 58 0 (6 * k + j) = u j) ∧ ∀ j, (j < 6 * k ∨ 6 * k + 6 ≤ j) → m2.1 58 0 j = M.1 58 0 j := by
      intro i
      induction i with
      | zero => intro _; exact ⟨M, fun _ _ => rfl, fun _ _ _ _ => rfl, rfl, fun j hj => absurd hj (by omega), fun _ _ => rfl⟩
      | succ i ih =>
        intro hi
        obtain ⟨m2, a1, a2, a3, a4, a5⟩ := ih (by omega)
        refine ⟨uI m2 58 0 (6 * k + i) (u i), fun K f => ?_, fun a c d q => by rw [uI_o q]; exact a2 a c d q, a3, fun j hj => ?_, fun j hj => ?_⟩
        · rw [show f + (i + 1) = f + 1 + i from by omega, a1]
          show bJX12_settledBy_16 _ _ _ _ (nI i) _ = _
          unfold bJX12_settledBy_16
          have ll2 : LL (Nm m2 u) F B D P W := LL_Nm (LL_w (fun a c q => a2 a 0 c (by omega)) hlM)
          have e6 : (6 : Int32) * nI k + nI i = nI (6 * k + i) := by rw [show (6 : Int32) = nI 6 from rfl, pk_mul, nI_add]
          rw [m_taps (by rw [Nm_o (by decide), a2 40 0 15 (by decide), c15]; decide) ll2, calI_s, if_neg (nI_ge (by omega) (by omega)), z0n, Nald i rfl (by omega), e6, ast_n (t := 58) (n := 0) (6 * k + i) rfl (by decide) (show 6 * k + i < 1398 by omega), Nm_uo (by decide), ← nI_succ]
        · by_cases c : j = i
          · subst c; exact uI_s
          · rw [uI_n (Or.inr (by omega))]; exact a4 j (by omega)
        · rw [uI_n (Or.inr (by omega))]; exact a5 j hj
    obtain ⟨m2, a1, a2, a3, a4, a5⟩ := key (F + B) (Nat.le_refl _)
    refine ⟨m2, fun K f hf => ?_, a2, a3, a4, a5⟩
    rw [show f = f - (F + B) - 1 + 1 + (F + B) from by omega, a1]
    show bJX12_settledBy_16 _ _ _ _ (nI (F + B)) _ = _
    unfold bJX12_settledBy_16
    have ll2 : LL (Nm m2 u) F B D P W := LL_Nm (LL_w (fun a c q => a2 a 0 c (by omega)) hlM)
    rw [m_taps (by rw [Nm_o (by decide), a2 40 0 15 (by decide), c15]; decide) ll2, calI_s, if_pos (nI_le (Nat.le_refl _) (by omega))]
  have rows : ∀ k, k ≤ 233 → ∃ mk, (∀ K f, JX12_settledBy_7 K b (f + k) 0 (Nm (mAs m) v) = JX12_settledBy_7 K b f (nI k) (Nm mk (itM m F B D P W g v k))) ∧ (∀ a c d, a ≠ 58 → mk.1 a c d = (mAs m).1 a c d) ∧ mk.2 = (mAs m).2 ∧ ∀ q, q < k → ∀ i, i < F + B → mk.1 58 0 (6 * q + i) = itM m F B D P W g v q i := by
    intro k
    induction k with
    | zero => intro _; exact ⟨mAs m, fun _ _ => rfl, fun _ _ _ _ => rfl, rfl, fun q hq => absurd hq (by omega)⟩
    | succ k ih =>
      intro hk
      obtain ⟨mk, a1, a2, a3, a4⟩ := ih (by omega)
      have o : ∀ a c d, a ≠ 58 → a ≠ 53 → (a ≠ 40 ∨ d ≠ 24) → mk.1 a c d = m.1 a c d := fun a c d q1 q2 q3 => by rw [a2 a c d q1, mAs_o q2 q3]
      obtain ⟨m2, b1, b2, b3, b4, b5⟩ := inner k mk (itM m F B D P W g v k) (by omega) (by rw [o 40 0 15 (by decide) (by decide) (by decide)]; exact h6) (LL_w (fun a c q => o a 0 c (by omega) (by omega) (by omega)) h1)
      have o2 : ∀ a c d, a ≠ 58 → a ≠ 53 → (a ≠ 40 ∨ d ≠ 24) → m2.1 a c d = m.1 a c d := fun a c d q1 q2 q3 => by rw [b2 a c d q1, o a c d q1 q2 q3]
      have ll2 : LL m2 F B D P W := LL_w (fun a c q => o2 a 0 c (by omega) (by omega) (by omega)) h1
      have sT := m_stepT (m := m2) (v := itM m F B D P W g v k) (VW_it h2 hF hB k) (by omega) (by rw [o2 40 0 23 (by decide) (by decide) (by decide)]; exact h5) (by rw [b2 40 0 24 (by decide), a2 40 0 24 (by decide)]; exact mAs_24) ll2
      rw [o2 40 0 22 (by decide) (by decide) (by decide), h7, stM_m (m2 := m) (fun a c q1 q2 => o2 a 0 c (by omega) (by omega) (by omega)) hF hB hD] at sT
      refine ⟨m2, fun K f => ?_, fun a c d q => by rw [b2 a c d q]; exact a2 a c d q, b3.trans a3, fun q hq i hi => ?_⟩
      · rw [show f + (k + 1) = f + 1 + k from by omega, a1]
        show bJX12_settledBy_7 _ _ _ (nI k) _ = _
        unfold bJX12_settledBy_7
        rw [if_neg (show ¬ (233 : Int32) ≤ nI k from nI_ge (b := 233) (by omega) (by decide)), b1 _ FU (by rw [FU_eq]; omega)]
        show calI (JX12_symbol _) _ = _
        rw [sT, calI_s, ← nI_succ]
        rfl
      · by_cases c : q = k
        · subst c; exact b4 i hi
        · rw [b5 _ (by omega)]; exact a4 q (by omega) i hi
  obtain ⟨mk, a1, a2, a3, a4⟩ := rows 233 (Nat.le_refl _)
  have ru : Ru (mAs m) (Nm mk (itM m F B D P W g v 233)) := by
    refine ⟨fun a c d q1 q2 => ?_, a3⟩
    by_cases c5 : a = 50 ∧ c = 0
    · rw [c5.1, c5.2, Nm_r, itM_g hF hB (by omega), mAs_o (by decide) (Or.inl (by decide)), hv]
    · have e1 : (Nm mk (itM m F B D P W g v 233)).1 a c d = mk.1 a c d := if_neg c5
      rw [e1]
      exact a2 a c d (by omega)
  obtain ⟨m3, d1, d2, d3⟩ := m_backH h4 ru
  have tp : JX12_taps m3 = some (some (.inl (nI (F + B))), m3) := m_taps (by rw [d2.2.2.2.2 40 0 15 (by unfold nsH; decide), h6]; decide) (LL_same d2.1 h1)
  obtain ⟨x, s1, s2⟩ := m_search (b := b) (u := itM m F B D P W g v) (T := F + B) (by omega) tp (fun k hk i hi => by rw [d3, Nm_o (by decide)]; exact a4 k (by omega) i hi)
  refine ⟨x, m3, ?_, s2, d2⟩
  unfold JX12_settledBy
  rw [m_put, calV_s, hv, show FU = 99766 + 1 + 233 from rfl, a1]
  show bJX12_settledBy_7 _ _ _ (nI 233) _ = _
  unfold bJX12_settledBy_7
  rw [if_pos (by decide)]
  show calV (JX12_bringBack 0 _) _ = _
  rw [d1, calV_s]
  exact s1
theorem KP_T {m m2 : hM} {F B D P W bb k : Nat} {g : Int32} {v : Nat → Int32} (hm : Lsm m m2) (hF : F ≤ 3) (hB : B ≤ 3) (hD : D ≤ 2) (hb : bb < 1000) : KP (itM m F B D P W g v) (nI bb) 6 k ↔ KP (itM m2 F B D P W g v) (nI bb) (F + B) k := by
  constructor
  · intro h d hd i hi
    rw [← itM_m hm hF hB hD, ← itM_m hm hF hB hD]
    exact h d hd i (by omega)
  · intro h d hd i hi
    by_cases c : i < F + B
    · rw [itM_m hm hF hB hD, itM_m hm hF hB hD]
      exact h d hd i c
    · rw [itM_hi (by omega) hi hF hB, itM_hi (by omega) hi hF hB, Int32.sub_self]
      show (0 : Int32) ≤ nI bb
      exact nI_pos' (by omega)
theorem CX_CG {m : hM} {F B D P W t : Nat} (h : CX m F B D P W t) : CG m F B D P W t (m.1 5 0 5) := ⟨h.1, h.2.2.2.1.1.2.2.1, h.2.2.2.1.2.2, h.2.2.2.2.1, h.2.2.2.2.2.1, h.2.2.2.2.2.2.2, h.2.2.1⟩
theorem k_settled (a : Int32) : Ok1 (JX11_settled a) (JX12_settled a) := Ok1_q fun m hm => by
  unfold JX11_settled JX12_settled
  by_cases c0 : m.1 0 0 12 = 0
  · exact ⟨-1, m, m, by rw [if_pos c0], by rw [← hm.1, if_pos c0], Same_r m⟩
  · obtain ⟨F, B, D, P, W, t, h⟩ := Inv_cx hm c0
    have c15 : ¬ m.1 40 0 15 = 0 := by rw [← hm.1]; exact c0
    rw [if_neg c0, e_within, calI_s]
    rcases hw a 20 21 (by decide) (by decide) with ⟨bb, hbb, ea, e1⟩ | ⟨e1, _⟩
    · subst ea
      have g11 : m.1 12 40 11 = m.1 5 0 5 := by
        rw [vec_at (by decide), show ix 12 11 = 1088 from rfl]
        exact h.2.2.2.1.1.2.2.2.1
      obtain ⟨x, m1, a1, a2, a3⟩ := c_settle (b := nI bb) (L := 201) h (by decide) (m.1 5 0 5)
      have s1 := Same_Cq a3
      have h' := CX_same s1 h
      obtain ⟨y, m2, b1, b2, b3⟩ := m_settle (b := nI bb) (CX_CG h')
      rw [s1.1.1 5 0 5 (n_L (by decide) (by decide)), row_same s1.1 (a := 50) (b := 0) (by decide)] at b2
      have exy : x = y := SR_u (by decide) (fun n _ => KP_T (fun p q r1 r2 => (s1.1.1 p 0 q (n_L r1 r2)).symm) h.1.1.2.2.2.2.2.2.1 h.1.1.2.2.2.2.2.2.2.1 h.1.1.2.2.2.2.2.2.2.2.1 (by omega)) a2 b2
      refine ⟨x, m1, m2, ?_, ?_, Same_t s1 b3⟩
      · unfold JX0_settledNow
        rw [e1, if_neg (by decide), g11]
        show calI (calI (JX0_settledIn 0 40 (nI bb) (m.1 5 0 5) (nI 201 - 1) m) _) _ = _
        rw [a1, calI_s, calI_s]
      · rw [if_neg (by rw [s1.2.2.2.2 40 0 15 (by unfold nsH; decide)]; exact c15), e_in, calI_s, e1, if_neg (by decide), b1, calI_s, exy]
    · exact ⟨-1, m, m, by rw [e1, if_pos rfl], by rw [if_neg c15, e_in, calI_s, e1, if_pos rfl], Same_r m⟩
/-! by which gear they settle soonest -/
def SameX (m m2 : hM) : Prop := Same m (uI m2 40 0 22 (m.1 40 0 22))
theorem Same_uI {a b : hM} {x : Int32} (h : Same a b) : Same (uI a 40 0 22 x) (uI b 40 0 22 x) := by
  have e : ∀ (p : Nat → Nat → Nat → Prop), (∀ x y z, p x y z → b.1 x y z = a.1 x y z) → ∀ x' y z, p x' y z → (uI b 40 0 22 x).1 x' y z = (uI a 40 0 22 x).1 x' y z := fun p hp x' y z hq => by
    show (if x' = 40 ∧ y = 0 ∧ z = 22 then x else b.1 x' y z) = (if x' = 40 ∧ y = 0 ∧ z = 22 then x else a.1 x' y z)
    by_cases c : x' = 40 ∧ y = 0 ∧ z = 22
    · rw [if_pos c, if_pos c]
    · rw [if_neg c, if_neg c, hp x' y z hq]
  exact ⟨⟨e nsA h.1.1, h.1.2⟩, e nsC h.2.1, e nsT h.2.2.1, e nsR h.2.2.2.1, e nsH h.2.2.2.2⟩
/-- what both know so far -/
def QR (best : Int32) (L : Nat) (least : Int32) : Prop := L ≤ 201 ∧ ((best = -1 ∧ L = 201) ∨ (best ≠ -1 ∧ least = nI L))
theorem SR_L {Q : Nat → Prop} {L : Nat} {x y : Int32} (hL : L ≤ 201) (h : SR Q L x) (h2 : SR Q 201 y) : (x = -1 ∧ (y = -1 ∨ ∃ n, n < 201 ∧ L ≤ n ∧ y = nI n)) ∨ (∃ n, n < L ∧ x = nI n ∧ y = nI n) := by
  rcases h with ⟨n, a1, a2, a3, a4⟩ | ⟨a1, a2⟩ <;> rcases h2 with ⟨k, b1, b2, b3, b4⟩ | ⟨b1, b2⟩
  · have : n = k := by
      rcases Nat.lt_trichotomy n k with z | z | z
      · exact absurd a2 (b3 n z)
      · exact z
      · exact absurd b2 (a3 k z)
    exact Or.inr ⟨n, a1, a4, by rw [b4, this]⟩
  · exact absurd a2 (b1 n (by omega))
  · refine Or.inl ⟨a2, Or.inr ⟨k, b1, ?_, b4⟩⟩
    apply Nat.le_of_not_lt
    intro z
    exact a1 k z b2
  · exact Or.inl ⟨a2, Or.inl b2⟩
theorem SR_c {Q Q2 : Nat → Prop} {L : Nat} {r : Int32} (hq : ∀ n, Q n ↔ Q2 n) (h : SR Q L r) : SR Q2 L r := by
  rcases h with ⟨n, a1, a2, a3, a4⟩ | ⟨a1, a2⟩
  · exact Or.inl ⟨n, a1, (hq n).mp a2, fun k hk z => a3 k hk ((hq k).mpr z), a4⟩
  · exact Or.inr ⟨fun n hn z => a1 n hn ((hq n).mpr z), a2⟩
theorem nI_m1' {n : Nat} (h : n < 1000) : ¬ nI n = -1 := fun e => by
  have z : (nI n).toInt = -1 := by rw [e]; decide
  rw [nI_toInt (by omega)] at z
  omega
theorem l_quick {m : hM} {F B D P W t bb : Nat} (h : CX m F B D P W t) (hbb : bb < 21) : ∀ i, i ≤ 9 → ∃ best L least mi, QR best L least ∧ Cq m mi ∧ (∀ K f, JX0_quickestGear_11 K 0 40 (nI bb) (f + i) (-1) (nI 201 - 1) (nI 1) m = JX0_quickestGear_11 K 0 40 (nI bb) f best (nI L - 1) (nI (i + 1)) mi) ∧ ∀ m', Same m m' → ∃ mj, SameX m mj ∧ ∀ K f, JX12_quickest_26 K (nI bb) (f + i) (-1) 0 (nI 1) m' = JX12_quickest_26 K (nI bb) f best least (nI (i + 1)) mj := by
  have hF : F ≤ 3 := h.1.1.2.2.2.2.2.2.1
  have hB : B ≤ 3 := h.1.1.2.2.2.2.2.2.2.1
  have hD : D ≤ 2 := h.1.1.2.2.2.2.2.2.2.2.1
  intro i
  induction i with
  | zero =>
    intro _
    refine ⟨-1, 201, 0, m, ⟨by decide, Or.inl ⟨rfl, rfl⟩⟩, Cq_r m, fun _ _ => rfl, fun m' q => ⟨m', ?_, fun _ _ => rfl⟩⟩
    unfold SameX
    have e : uI m' 40 0 22 (m.1 40 0 22) = m' := by
      rw [← q.1.1 40 0 22 (by unfold nsA; decide)]
      apply Prod.ext
      · funext a b c
        show (if a = 40 ∧ b = 0 ∧ c = 22 then m'.1 40 0 22 else m'.1 a b c) = m'.1 a b c
        by_cases z : a = 40 ∧ b = 0 ∧ c = 22
        · rw [if_pos z, z.1, z.2.1, z.2.2]
        · rw [if_neg z]
      · rfl
    rw [e]
    exact q
  | succ i ih =>
    intro hi
    obtain ⟨best, L, least, mi, q0, a1, a2, a3⟩ := ih (by omega)
    have hmi := CX_same (Same_Cq a1) h
    have hL : L ≤ 201 := q0.1
    obtain ⟨x, mk, b1, b2, b3⟩ := c_settle (b := nI bb) (L := L) hmi hL (nI (i + 1))
    have r50 : mi.1 50 0 = m.1 50 0 := by funext j; exact a1.1 50 0 j (by omega) (by omega)
    rw [r50] at b2
    have b2' := SR_c (Q2 := KP (itM m F B D P W (nI (i + 1)) (m.1 50 0)) (nI bb) (F + B)) (fun n => KP_T (fun p q r1 r2 => a1.1 p 0 q (by omega) (by omega)) hF hB hD (by omega)) b2
    -- what the reference finds
    have ref : ∀ m', SameX m m' → ∃ y ml, JX12_settledBy (nI bb) (uI m' 40 0 22 (nI (i + 1))) = some (some (.inl y), ml) ∧ SR (KP (itM m F B D P W (nI (i + 1)) (m.1 50 0)) (nI bb) (F + B)) 201 y ∧ SameX m ml := by
      intro m' hs
      have o : ∀ a b c, (a ≠ 40 ∨ c ≠ 22) → (uI m' 40 0 22 (nI (i + 1))).1 a b c = (uI m' 40 0 22 (m.1 40 0 22)).1 a b c := fun a b c q => by rw [uI_n q, uI_n q]
      have hx := CX_same hs h
      have e50 : (uI m' 40 0 22 (nI (i + 1))).1 50 0 = m.1 50 0 := by
        rw [← row_same hs.1 (a := 50) (b := 0) (by decide)]
        funext j
        exact o 50 0 j (Or.inl (by decide))
      have cg : CG (uI m' 40 0 22 (nI (i + 1))) F B D P W t (nI (i + 1)) := by
        refine ⟨LL_w (fun a c q => o a 0 c (by omega)) hx.1, by rw [e50]; exact h.2.2.2.1.1.2.2.1, h.2.2.2.1.2.2, ?_, ?_, ?_, uI_s⟩
        · rw [o 40 0 24 (by decide)]; exact hx.2.2.2.2.1
        · rw [o 40 0 23 (by decide)]; exact hx.2.2.2.2.2.1
        · rw [o 40 0 15 (by decide)]; exact hx.2.2.2.2.2.2.2
      obtain ⟨y, ml, c1, c2, c3⟩ := m_settle (b := nI bb) cg
      rw [e50] at c2
      refine ⟨y, ml, c1, ?_, ?_⟩
      · have eL : ∀ a c, 5 ≤ a → a ≤ 7 → (uI m' 40 0 22 (nI (i + 1))).1 a 0 c = m.1 a 0 c := fun a c q1 q2 => by rw [o a 0 c (by omega)]; exact hs.1.1 a 0 c (n_L q1 q2)
        have : ∀ n, itM (uI m' 40 0 22 (nI (i + 1))) F B D P W (nI (i + 1)) (m.1 50 0) n = itM m F B D P W (nI (i + 1)) (m.1 50 0) n := itM_m eL hF hB hD
        have e2 : itM (uI m' 40 0 22 (nI (i + 1))) F B D P W (nI (i + 1)) (m.1 50 0) = itM m F B D P W (nI (i + 1)) (m.1 50 0) := by funext n; exact this n
        rw [e2] at c2
        exact c2
      · have z := Same_uI (x := m.1 40 0 22) c3
        rw [uI_2] at z
        exact Same_t hs z
    have cstep : ∀ K f, JX0_quickestGear_11 K 0 40 (nI bb) (f + 1) best (nI L - 1) (nI (i + 1)) mi = if x = -1 then JX0_quickestGear_11 K 0 40 (nI bb) f best (nI L - 1) (nI (i + 1 + 1)) mk else JX0_quickestGear_11 K 0 40 (nI bb) f (nI (i + 1)) (x - 1) (nI (i + 1 + 1)) mk := fun K f => by
      show bJX0_quickestGear_11 _ _ _ _ _ _ _ _ _ = _
      unfold bJX0_quickestGear_11 JX0_quickestGear_47
      rw [if_neg (show ¬ (9 : Int32) < nI (i + 1) from nI_nlt (a := 9) (by omega) (by decide)), b1, calI_s, lt_s9, ← nI_succ]
    have rstep : ∀ m' y ml, JX12_settledBy (nI bb) (uI m' 40 0 22 (nI (i + 1))) = some (some (.inl y), ml) → ∀ K f, JX12_quickest_26 K (nI bb) (f + 1) best least (nI (i + 1)) m' = if y = -1 then JX12_quickest_26 K (nI bb) f best least (nI (i + 1 + 1)) ml else if best = -1 then JX12_quickest_26 K (nI bb) f (nI (i + 1)) y (nI (i + 1 + 1)) ml else if least ≤ y then JX12_quickest_26 K (nI bb) f best least (nI (i + 1 + 1)) ml else JX12_quickest_26 K (nI bb) f (nI (i + 1)) y (nI (i + 1 + 1)) ml := fun m' y ml e K f => by
      show bJX12_quickest_26 _ _ _ _ _ _ _ = _
      unfold bJX12_quickest_26 JX12_quickest_63 JX12_quickest_69
      rw [if_neg (show ¬ (10 : Int32) ≤ nI (i + 1) from nI_ge (b := 10) (by omega) (by decide)), stI_s, e, calI_s, ← nI_succ]
    by_cases cx : x = -1
    · refine ⟨best, L, least, mk, q0, Cq_t a1 b3, fun K f => ?_, fun m' q => ?_⟩
      · rw [show f + (i + 1) = f + 1 + i from by omega, a2, cstep, if_pos cx]
      · obtain ⟨mj, s1, e1⟩ := a3 m' q
        obtain ⟨y, ml, c1, c2, c3⟩ := ref mj s1
        refine ⟨ml, c3, fun K f => ?_⟩
        rw [show f + (i + 1) = f + 1 + i from by omega, e1, rstep mj y ml c1]
        rcases SR_L hL b2' c2 with ⟨_, z | ⟨n, z1, z2, z3⟩⟩ | ⟨n, _, z, _⟩
        · rw [if_pos z]
        · have y1 : ¬ y = -1 := by rw [z3]; exact nI_m1' (by omega)
          rw [if_neg y1]
          rcases q0.2 with ⟨_, w⟩ | ⟨w1, w2⟩
          · omega
          · rw [if_neg w1, if_pos (by rw [w2, z3]; exact nI_le z2 (by omega))]
        · rw [z] at cx
          exact absurd cx (nI_m1' (by omega))
    · have hx : ∃ n, n < L ∧ x = nI n := by
        rcases b2' with ⟨n, y1, _, _, y4⟩ | ⟨_, y⟩
        · exact ⟨n, y1, y4⟩
        · exact absurd y cx
      obtain ⟨n, hnL, exn⟩ := hx
      refine ⟨nI (i + 1), n, nI n, mk, ⟨by omega, Or.inr ⟨nI_m1' (by omega), rfl⟩⟩, Cq_t a1 b3, fun K f => ?_, fun m' q => ?_⟩
      · rw [show f + (i + 1) = f + 1 + i from by omega, a2, cstep, if_neg cx, exn]
      · obtain ⟨mj, s1, e1⟩ := a3 m' q
        obtain ⟨y, ml, c1, c2, c3⟩ := ref mj s1
        refine ⟨ml, c3, fun K f => ?_⟩
        rw [show f + (i + 1) = f + 1 + i from by omega, e1, rstep mj y ml c1]
        rcases SR_L hL b2' c2 with ⟨z, _⟩ | ⟨k, z0, z1, z2⟩
        · exact absurd z cx
        · have : n = k := (nI_eq (by omega) (by omega)).mp (exn.symm.trans z1)
          subst this
          have y1 : ¬ y = -1 := by rw [z2]; exact nI_m1' (by omega)
          rw [if_neg y1, z2]
          rcases q0.2 with ⟨w, _⟩ | ⟨w1, w2⟩
          · rw [if_pos w]
          · rw [if_neg w1, if_neg (by rw [w2]; exact nI_ge (by omega) (by omega))]
theorem k_quickest (a : Int32) : Ok1 (JX11_quickest a) (JX12_quickest a) := Ok1_q fun m hm => by
  unfold JX11_quickest JX12_quickest
  by_cases c0 : m.1 0 0 12 = 0
  · exact ⟨-1, m, m, by rw [if_pos c0], by rw [← hm.1, if_pos c0], Same_r m⟩
  · obtain ⟨F, B, D, P, W, t, h⟩ := Inv_cx hm c0
    have c15 : ¬ m.1 40 0 15 = 0 := by rw [← hm.1]; exact c0
    rw [if_neg c0, e_within, calI_s]
    rcases hw a 20 21 (by decide) (by decide) with ⟨bb, hbb, ea, e1⟩ | ⟨e1, _⟩
    · subst ea
      obtain ⟨best, L, least, mi, q0, a1, a2, a3⟩ := l_quick h hbb 9 (Nat.le_refl _)
      have s1 := Same_Cq a1
      obtain ⟨mj, s2, a4⟩ := a3 mi s1
      have r45 : mj.1 45 0 5 = m.1 40 0 22 := by
        have z := s2.1.1 45 0 5 (n_M (by decide) (by decide))
        rw [uI_o (by decide)] at z
        rw [z, h.1.2.1.1 5 (by decide)]
        exact h.2.2.1.symm
      refine ⟨best, mi, uI mj 40 0 22 (m.1 40 0 22), ?_, ?_, s2⟩
      · unfold JX0_quickestGear
        rw [e1, if_neg (by decide), show FU = 99990 + 1 + 9 from rfl]
        show calI (JX0_quickestGear_11 _ 0 40 (nI bb) (99990 + 1 + 9) (-1) (nI 201 - 1) (nI 1) m) _ = _
        rw [a2]
        show calI (bJX0_quickestGear_11 _ _ _ _ _ _ _ (nI 10) _) _ = _
        unfold bJX0_quickestGear_11
        rw [if_pos (by decide), calI_s]
      · rw [if_neg (by rw [s1.2.2.2.2 40 0 15 (by unfold nsH; decide)]; exact c15), e_in, calI_s, e1, if_neg (by decide), show FU = 99990 + 1 + 9 from rfl]
        show JX12_quickest_26 _ (nI bb) (99990 + 1 + 9) (-1) 0 (nI 1) mi = _
        rw [a4]
        show bJX12_quickest_26 _ _ _ _ _ (nI 10) _ = _
        unfold bJX12_quickest_26
        rw [if_pos (by decide)]
        show ald mj 45 0 5 _ = _
        rw [ald_n (i := 5) (t := 45) (n := 0) 5 rfl (by decide) (by decide), stI_s, r45]
    · exact ⟨-1, m, m, by rw [e1, if_pos rfl], by rw [if_neg c15, e_in, calI_s, e1, if_pos rfl], Same_r m⟩
