/-! the reference keeps its row -/
theorem m_keep52 {m : hM} {c : Nat} (hc : c < 40) (h : m.1 40 0 28 = nI c) : JX12_keep_52 m = some (none, uI (rst m 52 0 (m.1 50 0) (232 * c) 232) 40 0 28 (nI (c + 1))) := by
  unfold JX12_keep_52
  refine Eq.trans ((congrArg (fun z => JX12_keep_54 (fun m3 => stI m3 40 0 28 ((m3.1 40 0 28) + 1) fun m4 => some (none, m4)) FU 0 z) (rst_0 (m := m) (t := 52) (n := 0) (lo := 232 * c) (u := m.1 50 0)).symm).trans (lpF (fun f (a : Int32 × hM) => JX12_keep_54 (fun m3 => stI m3 40 0 28 ((m3.1 40 0 28) + 1) fun m4 => some (none, m4)) f a.1 a.2) (fun i => (nI i, rst m 52 0 (m.1 50 0) (232 * c) i)) 232 (by omega) (by
    intro i f hi
    show bJX12_keep_54 _ _ (nI i) _ = _
    unfold bJX12_keep_54
    rw [if_neg (show ¬ (232 : Int32) ≤ nI i from nI_ge (a := i) (b := 232) hi (by decide)), ald_n (t := 50) (n := 0) i rfl (by decide) (show i < 232 from hi), rst_o (by decide), rst_o (by decide), h, show (232 : Int32) * nI c + nI i = nI (232 * c + i) from by rw [show (232 : Int32) = nI 232 from rfl, pk_mul, nI_add], ast_n (t := 52) (n := 0) (232 * c + i) rfl (by decide) (show 232 * c + i < 9280 by omega), rst_s]
    show JX12_keep_54 _ f (nI i + 1) _ = JX12_keep_54 _ f _ _
    rw [← nI_succ]))) ?_
  show bJX12_keep_54 _ _ (nI 232) _ = _
  unfold bJX12_keep_54
  rw [if_pos (by decide)]
  show stI (rst m 52 0 (m.1 50 0) (232 * c) 232) 40 0 28 ((rst m 52 0 (m.1 50 0) (232 * c) 232).1 40 0 28 + 1) _ = _
  rw [stI_s, rst_o (by decide), h, ← nI_succ]
theorem m_keep13 {m : hM} {K : hM → hR} : JX12_keep_13 K FU 232 m = K (rst m 52 0 (fun k => m.1 52 0 (232 + k)) 0 9048) := by
  refine Eq.trans ((congrArg (fun z => JX12_keep_13 K FU 232 z) (rst_0 (m := m) (t := 52) (n := 0) (lo := 0) (u := fun k => m.1 52 0 (232 + k))).symm).trans (lpF (fun f (a : Int32 × hM) => JX12_keep_13 K f a.1 a.2) (fun i => (nI (232 + i), rst m 52 0 (fun k => m.1 52 0 (232 + k)) 0 i)) 9048 (by omega) (by
    intro i f hi
    show bJX12_keep_13 _ _ (nI (232 + i)) _ = _
    unfold bJX12_keep_13
    rw [if_neg (show ¬ (9280 : Int32) ≤ nI (232 + i) from nI_ge (a := 232 + i) (b := 9280) (by omega) (by decide)), ald_n (t := 52) (n := 0) (232 + i) rfl (by decide) (show 232 + i < 9280 by omega), rst_r, if_neg (by omega), show nI (232 + i) - 232 = nI i from by rw [show (232 : Int32) = nI 232 from rfl, pk_sub (by omega), Nat.add_sub_cancel_left], ast_n (t := 52) (n := 0) i rfl (by decide) (show i < 9280 by omega)]
    have e := rst_s (m := m) (t := 52) (n := 0) (lo := 0) (N := i) (u := fun k => m.1 52 0 (232 + k))
    rw [Nat.zero_add] at e
    rw [e]
    show JX12_keep_13 _ f (nI (232 + i) + 1) _ = JX12_keep_13 _ f _ _
    rw [← nI_succ]
    rfl))) ?_
  show bJX12_keep_13 _ _ (nI (232 + 9048)) _ = _
  unfold bJX12_keep_13
  rw [if_pos (by decide)]
/-- where memory is alike but for the kept rows and their count -/
def Kp (m m2 : hM) : Prop := (∀ a b c, a ≠ 52 → (a ≠ 40 ∨ c ≠ 28) → m2.1 a b c = m.1 a b c) ∧ m2.2 = m.2
theorem m_keep {m : hM} {c : Nat} (hc : c ≤ 40) (h : m.1 40 0 28 = nI c) : ∃ m2, JX12_keep m = some (none, m2) ∧ Kp m m2 ∧ ((c < 40 ∧ m2.1 40 0 28 = nI (c + 1) ∧ (∀ j i, j < c → i < 232 → krow m2 j i = krow m j i) ∧ ∀ i, i < 232 → krow m2 c i = m.1 50 0 i) ∨ (c = 40 ∧ m2.1 40 0 28 = nI 40 ∧ (∀ j i, j < 39 → i < 232 → krow m2 j i = krow m (j + 1) i) ∧ ∀ i, i < 232 → krow m2 39 i = m.1 50 0 i)) := by
  unfold JX12_keep
  by_cases q : c = 40
  · subst q
    rw [h, if_pos (by decide), m_keep13]
    generalize hm7 : rst m 52 0 (fun k => m.1 52 0 (232 + k)) 0 9048 = m7
    have e7 : m7.1 40 0 28 = nI 40 := by rw [← hm7, rst_o (by decide)]; exact h
    have e8 : (uI m7 40 0 28 (nI 39)).1 40 0 28 = nI 39 := uI_s
    refine ⟨_, by rw [stI_s, e7, show nI 40 - 1 = nI 39 from nI_pred 39]; exact m_keep52 (c := 39) (by decide) e8, ⟨fun a b k h1 h2 => ?_, ?_⟩, Or.inr ⟨rfl, uI_s, fun j i hj hi => ?_, fun i hi => ?_⟩⟩
    · rw [uI_n h2, rst_o (Or.inl h1), uI_n h2, ← hm7, rst_o (Or.inl h1)]
    · rw [← hm7]
      rfl
    · show (uI (rst (uI m7 40 0 28 (nI 39)) 52 0 _ (232 * 39) 232) 40 0 28 (nI (39 + 1))).1 52 0 (232 * j + i) = m.1 52 0 (232 * (j + 1) + i)
      rw [uI_n (Or.inl (by decide)), rst_r, if_neg (by omega), uI_n (Or.inl (by decide)), ← hm7, rst_r, if_pos (by omega)]
      show m.1 52 0 (232 + (232 * j + i - 0)) = _
      rw [show 232 + (232 * j + i - 0) = 232 * (j + 1) + i from by omega]
    · show (uI (rst (uI m7 40 0 28 (nI 39)) 52 0 ((uI m7 40 0 28 (nI 39)).1 50 0) (232 * 39) 232) 40 0 28 (nI (39 + 1))).1 52 0 (232 * 39 + i) = _
      rw [uI_n (Or.inl (by decide)), rst_r, if_pos (by omega), uI_n (Or.inl (by decide)), ← hm7, rst_o (by decide), Nat.add_sub_cancel_left]
  · have hc2 : c < 40 := by omega
    rw [h, if_neg (show ¬ nI c = 40 from fun e => q ((nI_eq (by omega) (by decide)).mp (show nI c = nI 40 from e)))]
    refine ⟨_, m_keep52 hc2 h, ⟨fun a b k h1 h2 => ?_, rfl⟩, Or.inl ⟨hc2, uI_s, fun j i hj hi => ?_, fun i hi => ?_⟩⟩
    · rw [uI_n h2, rst_o (Or.inl h1)]
    · show (uI (rst m 52 0 (m.1 50 0) (232 * c) 232) 40 0 28 (nI (c + 1))).1 52 0 (232 * j + i) = m.1 52 0 (232 * j + i)
      rw [uI_n (Or.inl (by decide)), rst_r, if_neg (by omega)]
    · show (uI (rst m 52 0 (m.1 50 0) (232 * c) 232) 40 0 28 (nI (c + 1))).1 52 0 (232 * c + i) = m.1 50 0 i
      rw [uI_n (Or.inl (by decide)), rst_r, if_pos (by omega), Nat.add_sub_cancel_left]
/-! rows of a kept state -/
theorem VW_v {B t : Nat} {u v : Nat → Int32} (h : ∀ i, i < 232 → v i = u i) (q : VW B u t) : VW B v t := VW_q (fun k hk => h k (by omega)) q
theorem ST_v {m : hM} {B n nl sz t : Nat} {g : Int32} {u v : Nat → Int32} (h : ∀ i, i < 232 → v i = u i) (q : ST m B g n nl sz u t) : ST m B g n nl sz v t := by
  obtain ⟨⟨a1, a2, a3, a4, a5⟩, ⟨b1, b2⟩, c1⟩ := q
  refine ⟨⟨fun k hk => (a1 k hk).trans (h k (by omega)).symm, ?_, VW_v h a3, a4, a5⟩, ⟨by rw [h 51 (by decide)]; exact b1, fun j hj c hc => ?_⟩, c1⟩
  · rw [h 49 (by decide), h 50 (by decide)]; exact a2
  · rw [h _ (by omega)]; exact b2 j hj c hc
/-- the class has remembered, the reference has not kept yet -/
def PCm (m : hM) (B : Nat) (g : Int32) (t : Nat) : Prop := ∃ c s, ∃ tt : Nat → Nat, m.1 40 0 28 = nI c ∧ c ≤ 40 ∧ s < 40 ∧ tt c = t ∧ (∀ j, j < c → (c = 40 → 1 ≤ j) → ST m B g ((s + j) % 40) 0 2460 (krow m j) (tt j)) ∧ (∀ j, j < c → tt j ≤ tt (j + 1) ∧ tt (j + 1) ≤ tt j + 60) ∧ ST m B g ((s + c) % 40) 0 2460 (m.1 50 0) t ∧ ((c < 40 ∧ m.1 0 0 16 = nI (c + 1) ∧ m.1 0 0 15 = nI s) ∨ (c = 40 ∧ m.1 0 0 16 = nI 40 ∧ m.1 0 0 15 = nI ((s + 1) % 40)))
/-- both have -/
def PK (m : hM) (B : Nat) (g : Int32) (t : Nat) : Prop := ∃ c s, ∃ tt : Nat → Nat, m.1 0 0 16 = nI (c + 1) ∧ m.1 40 0 28 = nI (c + 1) ∧ m.1 0 0 15 = nI s ∧ c + 1 ≤ 40 ∧ s < 40 ∧ tt c = t ∧ (∀ j, j < c + 1 → ST m B g ((s + j) % 40) 0 2460 (krow m j) (tt j)) ∧ ∀ j, j < c → tt j ≤ tt (j + 1) ∧ tt (j + 1) ≤ tt j + 60
theorem PK_PC {m : hM} {B t t2 : Nat} {g : Int32} (h : PK m B g t) (h1 : t ≤ t2) (h2 : t2 ≤ t + 60) : PC m B g t2 := by
  obtain ⟨c, s, tt, a1, a2, a3, a4, a5, a6, a7, a8⟩ := h
  refine ⟨c + 1, s, fun j => if j = c + 1 then t2 else tt j, a1, a2, a3, a4, a5, if_pos rfl, fun j hj => ?_, fun j hj => ?_⟩
  · show ST m B g ((s + j) % 40) 0 2460 (krow m j) (if j = c + 1 then t2 else tt j)
    rw [if_neg (by omega)]
    exact a7 j hj
  · show (if j = c + 1 then t2 else tt j) ≤ (if j + 1 = c + 1 then t2 else tt (j + 1)) ∧ (if j + 1 = c + 1 then t2 else tt (j + 1)) ≤ (if j = c + 1 then t2 else tt j) + 60
    rw [if_neg (show ¬ j = c + 1 by omega)]
    by_cases e : j = c
    · rw [if_pos (by omega), e, a6]
      exact ⟨h1, h2⟩
    · rw [if_neg (by omega)]
      exact a8 j (by omega)
theorem Kp_ST {m m2 : hM} {B n nl sz t : Nat} {g : Int32} {v : Nat → Int32} (h : Kp m m2) (q : ST m B g n nl sz v t) : ST m2 B g n nl sz v t := by
  obtain ⟨q1, q2, q3⟩ := q
  have e : vec m2 n = vec m n := by
    funext i
    unfold vec
    have := lc_k i
    exact h.1 _ _ _ (by omega) (by omega)
  refine ⟨?_, ⟨q2.1, fun j hj c hc => ?_⟩, q3⟩
  · rw [e, h.2]
    exact q1
  · rw [h.1 (21 + c) _ _ (by omega) (by omega)]
    exact q2.2 j hj c hc
theorem k_keep {m : hM} {B t : Nat} {g : Int32} (h : PCm m B g t) : ∃ m2, JX12_keep m = some (none, m2) ∧ Kp m m2 ∧ PK m2 B g t := by
  obtain ⟨c, s, tt, a1, a2, a3, a4, a5, a6, a7, a8⟩ := h
  obtain ⟨m2, b1, b2, b3⟩ := m_keep a2 a1
  refine ⟨m2, b1, b2, ?_⟩
  rcases b3 with ⟨c1, c2, c3, c4⟩ | ⟨c1, c2, c3, c4⟩
  · rcases a8 with ⟨_, d1, d2⟩ | ⟨d0, _⟩
    · refine ⟨c, s, tt, by rw [b2.1 0 0 16 (by decide) (by decide)]; exact d1, c2, by rw [b2.1 0 0 15 (by decide) (by decide)]; exact d2, by omega, a3, a4, fun j hj => ?_, a6⟩
      by_cases e : j = c
      · subst e
        rw [a4]
        exact ST_v (fun i hi => c4 i hi) (Kp_ST b2 a7)
      · exact ST_v (fun i hi => c3 j i (by omega) hi) (Kp_ST b2 (a5 j (by omega) (by omega)))
    · omega
  · rcases a8 with ⟨d0, _⟩ | ⟨_, d1, d2⟩
    · omega
    · subst c1
      refine ⟨39, (s + 1) % 40, fun j => tt (j + 1), by rw [b2.1 0 0 16 (by decide) (by decide)]; exact d1, c2, by rw [b2.1 0 0 15 (by decide) (by decide)]; exact d2, by omega, by omega, a4, fun j hj => ?_, fun j hj => a6 (j + 1) (by omega)⟩
      have ei : ((s + 1) % 40 + j) % 40 = (s + (j + 1)) % 40 := by omega
      rw [ei]
      show ST m2 B g ((s + (j + 1)) % 40) 0 2460 (krow m2 j) (tt (j + 1))
      by_cases e : j = 39
      · subst e
        have : tt (39 + 1) = t := a4
        rw [this]
        exact ST_v (fun i hi => c4 i hi) (Kp_ST b2 a7)
      · exact ST_v (fun i hi => c3 j i (by omega) hi) (Kp_ST b2 (a5 (j + 1) (by omega) (by omega)))
