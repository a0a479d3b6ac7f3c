/-! an act, when it changes the state alone -/
def CY (m : hM) (F B D P W t : Nat) : Prop := CX m F B D P W t ∧ PC m B (m.1 5 0 5) t ∧ IM m B (m.1 5 0 5)
theorem Inv_cy {m : hM} (h : Inv m) (c : ¬ m.1 0 0 12 = 0) : ∃ F B D P W t, CY m F B D P W t := by
  obtain ⟨F, B, D, P, W, t, q1, q2, q3, q4, q5, q6⟩ := Inv_1 h c
  have e : m.1 0 0 12 = 1 := by
    rcases h.2.1 with q | q
    · exact absurd q.1 c
    · exact q.1
  exact ⟨F, B, D, P, W, t, ⟨q1, q2, q3, q4, h.2.2.2.2.2.2.1, h.2.2.2.2.2.2.2, e, by rw [← h.1]; exact e⟩, q5, q6⟩
theorem LL_w {m m2 : hM} {F B D P W : Nat} (h : ∀ a c, (5 ≤ a ∧ a ≤ 7) ∨ (45 ≤ a ∧ a ≤ 47) → m2.1 a 0 c = m.1 a 0 c) (q : LL m F B D P W) : LL m2 F B D P W := by
  obtain ⟨⟨a0, a1, a2, a3, a4, a5⟩, ⟨b1, b2, b3⟩, c1⟩ := q
  refine ⟨⟨?_, ?_, ?_, ?_, ?_, a5⟩, ⟨fun j hj => ?_, fun j hj => ?_, fun j hj => ?_⟩, fun j hj => ?_⟩
  · rw [h _ _ (by decide)]; exact a0
  · rw [h _ _ (by decide)]; exact a1
  · rw [h _ _ (by decide)]; exact a2
  · rw [h _ _ (by decide)]; exact a3
  · rw [h _ _ (by decide)]; exact a4
  · rw [h 45 _ (by decide), h 5 _ (by decide)]; exact b1 j hj
  · rw [h 46 _ (by decide), h 6 _ (by decide)]; exact b2 j hj
  · rw [h 47 _ (by decide), h 7 _ (by decide)]; exact b3 j hj
  · rw [h 7 _ (by decide)]; exact c1 j hj
theorem LB_w {m m2 : hM} {P : Nat} (h : ∀ a c, (5 ≤ a ∧ a ≤ 7) ∨ (45 ≤ a ∧ a ≤ 47) → m2.1 a 0 c = m.1 a 0 c) (q : LB m P) : LB m2 P := by
  refine ⟨q.1, fun j hj => ?_, ?_⟩
  · rw [h 6 j (by decide)]; exact q.2.1 j hj
  · rw [h 5 5 (by decide)]; exact q.2.2
theorem IM_w {m m2 : hM} {B : Nat} {g : Int32} (h1 : m2.1 0 0 13 = m.1 0 0 13) (h2 : m2.1 40 0 39 = m.1 40 0 39) (h3 : m2.1 59 0 = m.1 59 0) (h4 : ∀ a c, 12 ≤ a → a ≤ 19 → m2.1 a 41 c = m.1 a 41 c) (h5 : m2.2 12 41 17 = m.2 12 41 17) (h6 : ∀ a b c, 21 ≤ a → a ≤ 23 → m2.1 a b c = m.1 a b c) (q : IM m B g) : IM m2 B g := by
  unfold IM
  rw [h1, h2, h3]
  refine ⟨q.1, q.2.1, fun e => ?_⟩
  obtain ⟨t, ht⟩ := q.2.2 e
  exact ⟨t, ST_w h4 h5 h6 ht⟩
theorem PCm_w {m m2 : hM} {B t : Nat} {g : Int32} (h0 : ∀ a b c, (a < 12 ∨ 19 < a ∨ b < 40) → m2.1 a b c = m.1 a b c) (hx : ∀ n, n < 40 → m2.2 12 n 17 = m.2 12 n 17) (h : PCm m B g t) : PCm m2 B g t := by
  obtain ⟨c, s, tt, a1, a2, a3, a4, a5, a6, a7, a8⟩ := h
  have er : m2.1 50 0 = m.1 50 0 := by funext i; exact h0 50 0 i (by omega)
  have st : ∀ n v t, n < 40 → ST m B g n 0 2460 v t → ST m2 B g n 0 2460 v t := fun n v t hn q => ST_w (fun a k h1 h2 => h0 a n k (by omega)) (hx n hn) (fun a b k h1 h2 => h0 a b k (by omega)) q
  refine ⟨c, s, tt, by rw [h0 40 0 28 (by omega)]; exact a1, a2, a3, a4, fun j hj hj2 => ?_, a6, ?_, ?_⟩
  · have ek : krow m2 j = krow m j := by
      funext i
      exact h0 52 0 _ (by omega)
    rw [ek]
    exact st _ _ _ (Nat.mod_lt _ (by decide)) (a5 j hj hj2)
  · rw [er]
    exact st _ _ _ (Nat.mod_lt _ (by decide)) a7
  · rw [h0 0 0 16 (by omega), h0 0 0 15 (by omega)]
    exact a8
theorem PK_w {m m2 : hM} {B t : Nat} {g : Int32} (h0 : ∀ a b c, a ≠ 50 → m2.1 a b c = m.1 a b c) (hx : m2.2 = m.2) (h : PK m B g t) : PK m2 B g t := by
  obtain ⟨c, s, tt, a1, a2, a3, a4, a5, a6, a7, a8⟩ := h
  refine ⟨c, s, tt, by rw [h0 0 0 16 (by decide)]; exact a1, by rw [h0 40 0 28 (by decide)]; exact a2, by rw [h0 0 0 15 (by decide)]; exact a3, a4, a5, a6, fun j hj => ?_, a8⟩
  have ek : krow m2 j = krow m j := by
    funext i
    exact h0 52 0 _ (by decide)
  rw [ek]
  exact ST_w (fun a k h1 h2 => h0 a _ k (by omega)) (by rw [hx]) (fun a b k h1 h2 => h0 a b k (by omega)) (a7 j hj)
theorem act1 {m : hM} {F B D P W t : Nat} (hI : Inv m) (h : CY m F B D P W t) : ∃ m1, JX11_remember m = some (none, m1) ∧ Rb m m1 ∧ m1 = Sm m1 40 (vec m 40) (m.2 12 40 17) ∧ ∀ w x v, RS B (m.1 5 0 5) w x v t → (∀ k, 51 ≤ k → v k = m.1 50 0 k) → ∃ m2, JX12_keep (Sm m1 40 w x) = some (none, m2) ∧ m2.1 50 0 = m.1 50 0 ∧ (∀ a b c, a ≠ 52 → (a ≠ 40 ∨ c ≠ 28) → m2.1 a b c = (Sm m1 40 w x).1 a b c) ∧ Inv (Nm m2 v) := by
  obtain ⟨⟨q1, q2, q3, q4, q5, q6, q7, q8⟩, p1, p2⟩ := h
  obtain ⟨m1, r1, r2, r3⟩ := c_remember p1 q4
  have ev : vec m1 40 = vec m 40 := by
    funext i
    unfold vec
    have z := lc_k i
    exact r2.1 _ _ _ (by omega) (by omega)
  refine ⟨m1, r1, r2, by rw [← ev, ← r2.2 40 (by decide), Sm_self], fun w x v hr hv => ?_⟩
  have oB : ∀ a b c, (a < 12 ∨ 19 < a ∨ b < 40) → (Sm m1 40 w x).1 a b c = m1.1 a b c := fun a b c z => if_neg (by omega)
  have xB : ∀ n, n ≠ 40 → (Sm m1 40 w x).2 12 n 17 = m1.2 12 n 17 := fun n z => if_neg (fun e => z e.2.1)
  obtain ⟨m2, k1, k2, k3⟩ := k_keep (PCm_w oB (fun n hn => xB n (by omega)) r3)
  have e50 : m2.1 50 0 = m.1 50 0 := by
    funext i
    rw [k2.1 50 0 i (by decide) (Or.inl (by decide)), oB 50 0 i (by omega), r2.1 50 0 i (by omega) (by omega)]
  refine ⟨m2, k1, e50, k2.1, ?_⟩
  have o : ∀ a b c, a ≠ 50 → a ≠ 52 → (a ≠ 0 ∨ (c ≠ 15 ∧ c ≠ 16)) → (a ≠ 40 ∨ c ≠ 28) → (a < 12 ∨ 19 < a ∨ 41 ≤ b) → (Nm m2 v).1 a b c = m.1 a b c := fun a b c z1 z2 z3 z4 z5 => by
    rw [Nm_o z1, k2.1 a b c z2 z4]
    have e : (Sm m1 40 w x).1 a b c = m1.1 a b c := if_neg (by omega)
    rw [e, r2.1 a b c z3 (by omega)]
  have e5 : (Nm m2 v).1 5 0 5 = m.1 5 0 5 := o 5 0 5 (by decide) (by decide) (by decide) (by decide) (by decide)
  have eL : ∀ a c, (5 ≤ a ∧ a ≤ 7) ∨ (45 ≤ a ∧ a ≤ 47) → (Nm m2 v).1 a 0 c = m.1 a 0 c := fun a c z => o a 0 c (by omega) (by omega) (by omega) (by omega) (by omega)
  have eJ : ∀ a b c, 21 ≤ a → a ≤ 23 → (Nm m2 v).1 a b c = m.1 a b c := fun a b c z z2 => o a b c (by omega) (by omega) (by omega) (by omega) (by omega)
  obtain ⟨i1, i2, i3, i4, i5⟩ := hI
  have eH : (Nm m2 v).1 0 0 12 = 1 := by rw [o 0 0 12 (by decide) (by decide) (by decide) (by decide) (by decide)]; exact q7
  refine ⟨?_, Or.inr ⟨eH, F, B, D, P, W, t, LL_w eL q1, LB_w eL q2, ?_, ?_, ?_, ?_⟩, ?_, ?_, ?_⟩
  · rw [eH, o 40 0 15 (by decide) (by decide) (by decide) (by decide) (by decide)]; exact q8.symm
  · rw [e5, o 40 0 22 (by decide) (by decide) (by decide) (by decide) (by decide)]; exact q3
  · rw [e5]
    have er : (Nm m2 v).1 50 0 = v := by funext i; exact Nm_r
    rw [er]
    refine ⟨?_, ⟨by rw [hv 51 (by decide)]; exact q4.2.1.1, fun j hj c hc => ?_⟩, q4.2.2⟩
    · have e1 : Eq9 (vec (Nm m2 v) 40) w := fun i hi => by
        have ei : ∀ i, i < 49 → ix (lc i).1 (lc i).2 = i := by decide +kernel
        have z := lc_k i
        unfold vec
        rw [Nm_o (by omega), k2.1 _ _ _ (by omega) (by omega), Sm_r z, ei i hi]
      have e2 : vec (Nm m2 v) 40 1088 = w 1088 := by
        unfold vec
        show (Nm m2 v).1 12 40 11 = w 1088
        rw [Nm_o (by decide), k2.1 _ _ _ (by decide) (by decide), Sm_r (by decide)]
        rfl
      have e3 : (Nm m2 v).2 12 40 17 = x := by
        show m2.2 12 40 17 = x
        rw [k2.2]
        exact Sm_x
      rw [e3]
      exact RS_g hr e1 e2
    · rw [hv _ (by omega), eJ (21 + c) _ _ (by omega) (by omega)]
      exact q4.2.1.2 j hj c hc
  · rw [e5]
    exact PK_PC (PK_w (m := m2) (fun a b c z => Nm_o z) rfl k3) (Nat.le_refl t) (by omega)
  · rw [e5]
    apply IM_w _ _ _ _ _ _ p2
    · exact o 0 0 13 (by decide) (by decide) (by decide) (by decide) (by decide)
    · exact o 40 0 39 (by decide) (by decide) (by decide) (by decide) (by decide)
    · funext i; exact o 59 0 i (by decide) (by decide) (by omega) (by omega) (by omega)
    · exact fun a c z z2 => o a 41 c (by omega) (by omega) (by omega) (by omega) (by omega)
    · show m2.2 12 41 17 = _
      rw [k2.2, xB 41 (by decide), r2.2 41 (by decide)]
    · exact eJ
  · exact IS_same (fun a b c z => o a b c (by unfold nsC at z; omega) (by unfold nsC at z; omega) (by unfold nsC at z; omega) (by unfold nsC at z; omega) (by unfold nsC at z; omega)) i3
  · exact IT_same (fun a b c z => o a b c (by unfold nsT at z; omega) (by unfold nsT at z; omega) (by unfold nsT at z; omega) (by unfold nsT at z; omega) (by unfold nsT at z; omega)) i4
  · exact IR_same (fun a b c z => o a b c (by unfold nsR at z; omega) (by unfold nsR at z; omega) (by unfold nsR at z; omega) (by unfold nsR at z; omega) (by unfold nsR at z; omega)) i5
