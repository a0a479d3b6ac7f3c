/-! class and reference between acts -/
def CP (m : hM) (F B D P W : Nat) (v : Nat → Int32) (t c : Nat) (kr : Nat → Nat → Int32) (tt : Nat → Nat) : Prop := LL m F B D P W ∧ LB m P ∧ m.1 0 0 12 = 1 ∧ ST m B (m.1 5 0 5) 40 0 2460 v t ∧ KC m B (m.1 5 0 5) c kr tt ∧ KT c tt t 60
def RP (m : hM) (F B D P W : Nat) (v : Nat → Int32) (t c : Nat) (kr : Nat → Nat → Int32) : Prop := LL m F B D P W ∧ m.1 40 0 22 = m.1 5 0 5 ∧ m.1 40 0 24 = 0 ∧ m.1 40 0 23 = -1000000000 ∧ m.1 40 0 15 = 1 ∧ m.1 50 0 = v ∧ KM m c kr ∧ c ≤ 40 ∧ VW B v t ∧ v 51 = nI (min t 60) ∧ t ≤ 9999
/-- what acts leave alone, reference -/
def Ra (m m2 : hM) : Prop := (∀ a b k, a ≠ 50 → a ≠ 52 → (a < 53 ∨ 58 < a) → ¬ (a = 40 ∧ (k = 25 ∨ k = 26 ∨ k = 28 ∨ k = 31 ∨ k = 32)) → m2.1 a b k = m.1 a b k) ∧ ∀ a b k, a ≠ 40 → m2.2 a b k = m.2 a b k
theorem Ra_r (m : hM) : Ra m m := ⟨fun _ _ _ _ _ _ _ => rfl, fun _ _ _ _ => rfl⟩
theorem Ra_t {a b c : hM} (h : Ra a b) (h2 : Ra b c) : Ra a c := ⟨fun x y z q1 q2 q3 q4 => (h2.1 x y z q1 q2 q3 q4).trans (h.1 x y z q1 q2 q3 q4), fun x y z q => (h2.2 x y z q).trans (h.2 x y z q)⟩
theorem Ra_Nm {m : hM} {v : Nat → Int32} : Ra m (Nm m v) := ⟨fun a b k q _ _ _ => Nm_o q, fun _ _ _ _ => rfl⟩
theorem Ra_HL {m : hM} {h l : Int32} : Ra m (HL m h l) := ⟨fun a b k _ _ _ q => HL_o (by omega), fun _ _ _ _ => rfl⟩
theorem Ra_Kp {m m2 : hM} (h : Kp m m2) : Ra m m2 := ⟨fun a b k _ q1 _ q2 => h.1 a b k q1 (by omega), fun a b k _ => by rw [h.2]⟩
theorem LL_k {m m2 : hM} {F B D P W : Nat} (h : ∀ a b k, (5 ≤ a ∧ a ≤ 7) ∨ (45 ≤ a ∧ a ≤ 47) → m2.1 a b k = m.1 a b k) (q : LL m F B D P W) : LL m2 F B D P W := LL_w (fun a c z => h a 0 c z) q
section
variable {m m2 : hM} {F B D P W t c : Nat} {v : Nat → Int32} {kr : Nat → Nat → Int32} {tt : Nat → Nat}
theorem RP_w (h : ∀ a b k, 40 ≤ a ∨ (5 ≤ a ∧ a ≤ 7) → m2.1 a b k = m.1 a b k) (q : RP m F B D P W v t c kr) : RP m2 F B D P W v t c kr := by
  obtain ⟨q1, q2, q3, q4, q5, q6, ⟨q7, q7b⟩, q8⟩ := q
  refine ⟨LL_k (fun a b k z => h a b k (by omega)) q1, ?_, ?_, ?_, ?_, ?_, ⟨?_, fun j i hj hi => ?_⟩, q8⟩
  · rw [h 40 0 22 (by decide), h 5 0 5 (by decide)]; exact q2
  · rw [h 40 0 24 (by decide)]; exact q3
  · rw [h 40 0 23 (by decide)]; exact q4
  · rw [h 40 0 15 (by decide)]; exact q5
  · rw [← q6]; funext i; exact h 50 0 i (by omega)
  · rw [h 40 0 28 (by decide)]; exact q7
  · rw [← q7b j i hj hi]; exact h 52 0 _ (by omega)
theorem Ex_RP (h : Ex m m2) (q : RP m F B D P W v t c kr) : RP m2 F B D P W v t c kr := RP_w (fun a b k z => h.1 a b k (by omega)) q
theorem Ca_RP (h : Ca m m2) (q : RP m F B D P W v t c kr) : RP m2 F B D P W v t c kr := RP_w (fun a b k z => h.1 a b k (by omega) (by omega) (by omega) (by omega)) q
theorem RP_HL {h l : Int32} (q : RP m F B D P W v t c kr) : RP (HL m h l) F B D P W v t c kr := by
  obtain ⟨q1, q2, q3, q4, q5, q6, ⟨q7, q7b⟩, q8⟩ := q
  have o : ∀ a b k, a ≠ 40 ∨ (k ≠ 25 ∧ k ≠ 26) → (HL m h l).1 a b k = m.1 a b k := fun a b k z => HL_o z
  refine ⟨LL_HL q1, ?_, ?_, ?_, ?_, ?_, ⟨?_, fun j i hj hi => ?_⟩, q8⟩
  · rw [o 40 0 22 (by decide), o 5 0 5 (by decide)]; exact q2
  · rw [o 40 0 24 (by decide)]; exact q3
  · rw [o 40 0 23 (by decide)]; exact q4
  · rw [o 40 0 15 (by decide)]; exact q5
  · rw [← q6]; funext i; exact o 50 0 i (Or.inl (by decide))
  · rw [o 40 0 28 (by decide)]; exact q7
  · rw [← q7b j i hj hi]; exact o 52 0 _ (Or.inl (by decide))
theorem RP_Nm {v2 : Nat → Int32} {t2 : Nat} (q : RP m F B D P W v t c kr) (h1 : VW B v2 t2) (h2 : v2 51 = nI (min t2 60)) (h3 : t2 ≤ 9999) : RP (Nm m v2) F B D P W v2 t2 c kr := by
  obtain ⟨q1, q2, q3, q4, q5, q6, ⟨q7, q7b⟩, q8, _⟩ := q
  have o : ∀ a b k, a ≠ 50 → (Nm m v2).1 a b k = m.1 a b k := fun a b k z => Nm_o z
  refine ⟨LL_Nm q1, ?_, ?_, ?_, ?_, Nm_50, ⟨?_, fun j i hj hi => ?_⟩, q8, h1, h2, h3⟩
  · rw [o 40 0 22 (by decide), o 5 0 5 (by decide)]; exact q2
  · rw [o 40 0 24 (by decide)]; exact q3
  · rw [o 40 0 23 (by decide)]; exact q4
  · rw [o 40 0 15 (by decide)]; exact q5
  · rw [o 40 0 28 (by decide)]; exact q7
  · rw [← q7b j i hj hi]; exact o 52 0 _ (by decide)
theorem RP_self (q : RP m F B D P W v t c kr) : Nm m v = m := by
  rw [← q.2.2.2.2.2.1, Nm_self]
theorem RP_keep (q : RP m F B D P W v t c kr) : ∃ m1, JX12_keep m = some (none, m1) ∧ RP m1 F B D P W v t (pc c) (pk c kr v) ∧ Ra m m1 := by
  obtain ⟨q1, q2, q3, q4, q5, q6, q7, q8, q9, q10, q11⟩ := q
  obtain ⟨m1, a1, a2, a3⟩ := m_keepG q8 q7
  have o := a2.1
  rw [q6] at a3
  refine ⟨m1, a1, ⟨LL_k (fun a b k z => o a b k (by omega) (by omega)) q1, ?_, ?_, ?_, ?_, ?_, a3, ?_, q9, q10, q11⟩, Ra_Kp a2⟩
  · rw [o 40 0 22 (by decide) (by decide), o 5 0 5 (by decide) (by decide)]; exact q2
  · rw [o 40 0 24 (by decide) (by decide)]; exact q3
  · rw [o 40 0 23 (by decide) (by decide)]; exact q4
  · rw [o 40 0 15 (by decide) (by decide)]; exact q5
  · rw [← q6]; funext i; exact o 50 0 i (by decide) (Or.inl (by decide))
  · unfold pc; split <;> omega
theorem KT_of {tt : Nat → Nat} (h : ∀ j, j < c → tt j ≤ tt (j + 1) ∧ tt (j + 1) ≤ tt j + 60) : KT c tt (tt c) 60 := by
  have e : ∀ d i, i + d ≤ c → tt i ≤ tt (i + d) ∧ tt (i + d) ≤ tt i + 60 * d := by
    intro d
    induction d with
    | zero => intro i _; exact ⟨Nat.le_refl _, Nat.le_add_right _ _⟩
    | succ d ih =>
      intro i hi
      have a := ih i (by omega)
      have b := h (i + d) (by omega)
      rw [show i + (d + 1) = i + d + 1 from by omega]
      omega
  refine ⟨fun i j h1 h2 => ?_, fun j hj => ?_⟩
  · have a := e (j - i) i (by omega)
    rw [show i + (j - i) = j from by omega] at a
    exact a
  · have a := e (c - j) j (by omega)
    rw [show j + (c - j) = c from by omega] at a
    refine ⟨a.1, ?_⟩
    have := a.2
    omega
/-- what a call begins with -/
theorem CY_cp (h : CY m F B D P W t) : ∃ c kr tt, CP m F B D P W (m.1 50 0) t c kr tt ∧ RP m F B D P W (m.1 50 0) t c kr := by
  obtain ⟨⟨q1, q2, q3, q4, q5, q6, q7, q8⟩, ⟨c, s, tt, p1, p2, p3, p4, p5, p6, p7, p8⟩, _⟩ := h
  refine ⟨c, krow m, tt, ⟨q1, q2, q7, q4, ⟨s, p1, p3, p4, p5, p7⟩, ?_⟩, q1, q3, q5, q6, q8, rfl, ⟨p2, fun _ _ _ _ => rfl⟩, p4, q4.1.2.2.1, q4.2.1.1, q4.2.2⟩
  have := KT_of p8
  rw [p6] at this
  exact this
end
theorem ST_n {m m2 : hM} {B n nl sz t : Nat} {g : Int32} {v : Nat → Int32} (h1 : ∀ a c, 12 ≤ a → a ≤ 19 → m2.1 a n c = m.1 a n c) (h2 : m2.2 12 n 17 = m.2 12 n 17) (h3 : ∀ a c, 21 ≤ a → a ≤ 23 → m2.1 a nl c = m.1 a nl c) (q : ST m B g n nl sz v t) : ST m2 B g n nl sz v t := by
  obtain ⟨q1, q2, q3⟩ := q
  have e : vec m2 n = vec m n := by
    funext i
    unfold vec
    have := lc_k i
    exact h1 _ _ this.1 this.2
  refine ⟨?_, ⟨q2.1, fun j hj c hc => ?_⟩, q3⟩
  · rw [e, h2]
    exact q1
  · rw [h3 (21 + c) _ (by omega) (by omega)]
    exact q2.2 j hj c hc
/-- what a call ends with -/
theorem fin_inv {m0 m1 m2 : hM} {F B D P W t0 t c : Nat} {v : Nat → Int32} {kr : Nat → Nat → Int32} {tt : Nat → Nat} (hI : Inv m0) (h0 : CY m0 F B D P W t0) (hC : Ca m0 m1) (hc : CP m1 F B D P W v t c kr tt) (hR : Ra m1 m2) (hr : RP m2 F B D P W v t c kr) : Inv m2 := by
  obtain ⟨⟨q1, q2, q3, q4, q5, q6, q7, q8⟩, p1, p2⟩ := h0
  obtain ⟨c1, c2, c3, c4, ⟨s, k1, k2, k3, k4, k5⟩, c6⟩ := hc
  obtain ⟨r1, r2, r3, r4, r5, r6, ⟨r7, r7b⟩, r8, r9, r10, r11⟩ := hr
  obtain ⟨i1, i2, i3, i4, i5⟩ := hI
  have o1 : ∀ a b k, ¬ (12 ≤ a ∧ a ≤ 19 ∧ b ≠ 41) → ¬ (21 ≤ a ∧ a ≤ 23 ∧ b = 0) → (a < 24 ∨ 27 < a) → ¬ (a = 0 ∧ (k = 15 ∨ k = 16)) → a ≠ 50 → a ≠ 52 → (a < 53 ∨ 58 < a) → ¬ (a = 40 ∧ (k = 25 ∨ k = 26 ∨ k = 28 ∨ k = 31 ∨ k = 32)) → m2.1 a b k = m0.1 a b k := fun a b k z1 z2 z3 z4 z5 z6 z7 z8 => (hR.1 a b k z5 z6 z7 z8).trans (hC.1 a b k z1 z2 z3 z4)
  have oR : ∀ a b k, a < 40 → m2.1 a b k = m1.1 a b k := fun a b k z => hR.1 a b k (by omega) (by omega) (by omega) (by omega)
  have xR : ∀ b k, m2.2 12 b k = m1.2 12 b k := fun b k => hR.2 12 b k (by decide)
  have e5 : m2.1 5 0 5 = m1.1 5 0 5 := oR 5 0 5 (by decide)
  have g0 : m1.1 5 0 5 = m0.1 5 0 5 := hC.1 5 0 5 (by omega) (by omega) (by omega) (by omega)
  have eH : m2.1 0 0 12 = 1 := by rw [oR 0 0 12 (by decide)]; exact c3
  have st : ∀ n v t, ST m1 B (m1.1 5 0 5) n 0 2460 v t → ST m2 B (m2.1 5 0 5) n 0 2460 v t := fun n v t z => by
    rw [e5]
    exact ST_w (fun a c _ _ => oR a n c (by omega)) (xR n 17) (fun a b c _ _ => oR a b c (by omega)) z
  refine ⟨by rw [eH]; exact r5.symm, Or.inr ⟨eH, F, B, D, P, W, t, r1, ?_, r2, ?_, ?_, ?_⟩, ?_, ?_, ?_⟩
  · refine ⟨q2.1, fun j hj => ?_, ?_⟩
    · rw [o1 6 0 j (by omega) (by omega) (by omega) (by omega) (by omega) (by omega) (by omega) (by omega)]; exact q2.2.1 j hj
    · rw [e5, g0]; exact q2.2.2
  · rw [r6]; exact st 40 v t c4
  · refine ⟨c, s, fun j => if j < c then tt j else t, by rw [oR 0 0 16 (by decide)]; exact k1, r7, by rw [oR 0 0 15 (by decide)]; exact k2, k3, k4, if_neg (by omega), fun j hj => ?_, fun j hj => ?_⟩
    · show ST m2 B (m2.1 5 0 5) ((s + j) % 40) 0 2460 (krow m2 j) (if j < c then tt j else t)
      rw [if_pos hj]
      exact ST_v (fun i hi => r7b j i hj hi) (st _ _ _ (k5 j hj))
    · show (if j < c then tt j else t) ≤ (if j + 1 < c then tt (j + 1) else t) ∧ (if j + 1 < c then tt (j + 1) else t) ≤ (if j < c then tt j else t) + 60
      rw [if_pos hj]
      by_cases e : j + 1 < c
      · rw [if_pos e]
        have := c6.1 j (j + 1) (by omega) e
        omega
      · rw [if_neg e]
        have := c6.2 j hj
        omega
  · rw [e5, g0]
    unfold IM
    have e59 : m2.1 59 0 = m0.1 59 0 := by funext i; exact o1 59 0 i (by omega) (by omega) (by omega) (by omega) (by omega) (by omega) (by omega) (by omega)
    rw [o1 0 0 13 (by omega) (by omega) (by omega) (by omega) (by omega) (by omega) (by omega) (by omega), o1 40 0 39 (by omega) (by omega) (by omega) (by omega) (by omega) (by omega) (by omega) (by omega), e59]
    refine ⟨p2.1, p2.2.1, fun e => ?_⟩
    obtain ⟨t3, ht3⟩ := p2.2.2 e
    exact ⟨t3, ST_n (fun a c _ _ => o1 a 41 c (by omega) (by omega) (by omega) (by omega) (by omega) (by omega) (by omega) (by omega)) ((xR 41 17).trans hC.2.1) (fun a c _ _ => o1 a 1 c (by omega) (by omega) (by omega) (by omega) (by omega) (by omega) (by omega) (by omega)) ht3⟩
  · exact IS_same (fun a b k z => o1 a b k (by unfold nsC at z; omega) (by unfold nsC at z; omega) (by unfold nsC at z; omega) (by unfold nsC at z; omega) (by unfold nsC at z; omega) (by unfold nsC at z; omega) (by unfold nsC at z; omega) (by unfold nsC at z; omega)) i3
  · exact IT_same (fun a b k z => o1 a b k (by unfold nsT at z; omega) (by unfold nsT at z; omega) (by unfold nsT at z; omega) (by unfold nsT at z; omega) (by unfold nsT at z; omega) (by unfold nsT at z; omega) (by unfold nsT at z; omega) (by unfold nsT at z; omega)) i4
  · exact IR_same (fun a b k z => o1 a b k (by unfold nsR at z; omega) (by unfold nsR at z; omega) (by unfold nsR at z; omega) (by unfold nsR at z; omega) (by unfold nsR at z; omega) (by unfold nsR at z; omega) (by unfold nsR at z; omega) (by unfold nsR at z; omega)) i5
/-! an act of the class, whole -/
theorem gA_hi {p : Nat → Int32} {S : (Nat → Int32) → Nat → Nat → Int32} {F B D P k i : Nat} {a b : Int32} {v : Nat → Int32} (hF : F ≤ 3) (hB : B ≤ 3) (hk : 1 ≤ k) (hv : AV F B k a b) (hi : 49 ≤ i) : gA p S F B D P k a b v i = v i := by
  unfold gA
  rw [if_neg (by omega)]
  by_cases c1 : k = 1
  · rw [if_pos c1, pk_un (by omega)]
  rw [if_neg c1]
  by_cases c2 : k = 2
  · rw [if_pos c2, pk_un (by omega)]
  rw [if_neg c2]
  by_cases c3 : k = 3
  · obtain ⟨⟨j, hj, e⟩, _⟩ := hv.2.2.2.2.1 c3
    rw [if_pos c3, e, nI_clamp (by omega), pk_un (by omega), pk_un (by omega)]
  rw [if_neg c3]
  by_cases c4 : k = 4
  · rw [if_pos c4, pk_un (by omega)]
  rw [if_neg c4]
  by_cases c5 : k = 5
  · rw [if_pos c5, pk_un (by omega)]
  rw [if_neg c5]
  by_cases c6 : k = 6
  · rw [if_pos c6, pk_un (by omega)]
  rw [if_neg c6, pk_un (by omega)]
theorem bw1_n {a : Int32} (h : bw a 1 60) : ∃ N, 1 ≤ N ∧ N ≤ 60 ∧ a = nI N := by
  obtain ⟨j, hj, e⟩ := bw_n (a := a) (n := 60) ⟨by have := h.1; omega, h.2⟩
  refine ⟨j, ?_, hj, e⟩
  have z := h.1
  rw [e, nI_toInt (by omega)] at z
  omega
def gt (k t : Nat) (a : Int32) : Nat := if k = 0 then t + a.toNatClampNeg else t
def gr (m : hM) (F B D P W k : Nat) (a : Int32) (v : Nat → Int32) : Int32 := if k = 0 then wrN m F B D P W (m.1 5 0 5) v a.toNatClampNeg else gR (m.1 6 0) F B D P k a v
def gv (m : hM) (F B D P W k : Nat) (a b : Int32) (v : Nat → Int32) : Nat → Int32 := gA (m.1 6 0) (itN m F B D P W (m.1 5 0 5)) F B D P k a b v
theorem CP_Ex {m m2 : hM} {F B D P W t c : Nat} {v : Nat → Int32} {kr : Nat → Nat → Int32} {tt : Nat → Nat} (h : Ex m m2) (q : CP m F B D P W v t c kr tt) : CP m2 F B D P W v t c kr tt := by
  obtain ⟨q1, q2, q3, q4, q5, q6⟩ := q
  have e5 : m2.1 5 0 5 = m.1 5 0 5 := h.1 5 0 5 (by decide)
  have hC := Ca_Ex h
  refine ⟨Ca_LL hC q1, LB_w (Ca_L hC) q2, by rw [h.1 0 0 12 (by decide)]; exact q3, ?_, ?_, q6⟩
  · rw [e5]; exact ST_Ex h q4
  · rw [e5]; exact KC_Ex h q5
theorem c_actG {m : hM} {F B D P W t c k : Nat} {a b : Int32} {v : Nat → Int32} {kr : Nat → Nat → Int32} {tt : Nat → Nat} (h : CP m F B D P W v t c kr tt) (hv : AV F B k a b) (hf : rfG (m.1 6 0) F B D P k a b v = -1) : ∃ m2, JX11_act (nI k) a b m = some (some (.inl (gr m F B D P W k a v)), m2) ∧ CP m2 F B D P W (gv m F B D P W k a b v) (gt k t a) (pc c) (pk c kr v) (pk c tt t) ∧ Ca m m2 := by
  obtain ⟨q1, q2, q3, q4, q5, q6⟩ := h
  have hF : F ≤ 3 := q1.1.2.2.2.2.2.2.1
  have hB : B ≤ 3 := q1.1.2.2.2.2.2.2.2.1
  have hD : D ≤ 2 := q1.1.2.2.2.2.2.2.2.2.1
  have hc40 : c ≤ 40 := by obtain ⟨s, _, _, z, _⟩ := q5; exact z
  obtain ⟨m1, a1, a2, a3, a4⟩ := c_rem q5 q4
  have hC1 : Ca m m1 := Ca_Rb a2 a4
  have s1 := ST_Rb a2 q4
  have l1 := Ca_LL hC1 q1
  have T1 := KT_push hc40 q6
  have g1 : m1.1 5 0 5 = m.1 5 0 5 := hC1.1 5 0 5 (by omega) (by omega) (by omega) (by omega)
  have p1 : m1.1 6 0 = m.1 6 0 := by funext i; exact hC1.1 6 0 i (by omega) (by omega) (by omega) (by omega)
  unfold JX11_act
  rw [a1, calV_s]
  by_cases c0 : k = 0
  · subst c0
    obtain ⟨N, hN1, hN2, ea⟩ := bw1_n (hv.2.1 rfl)
    subst ea
    have cl : (nI N).toNatClampNeg = N := nI_clamp (by omega)
    rw [rfG_0] at hf
    have e18 : v 18 = nI t := q4.1.2.2.1.2.2.2.2.2.2.2.2
    have htN : t + N ≤ 9999 := by
      have t3 : t ≤ 9999 := q4.2.2
      by_cases z1 : hwi (nI N) 1 60 = 0
      · rw [if_pos z1] at hf; exact absurd hf (by decide)
      · rw [if_neg z1, e18, nI_add] at hf
        by_cases z2 : nI (t + N) ≤ 9999
        · exact (nI_leI (a := t + N) (b := 9999) (by omega) (by decide)).mp z2
        · rw [if_neg z2] at hf; exact absurd hf (by decide)
    obtain ⟨m2, b1, b2, b3, b4, b5⟩ := c_sendL hN2 htN s1 l1 a3 T1
    have g2 : m2.1 5 0 5 = m1.1 5 0 5 := b5.1 5 0 5 (by omega) (by omega) (by omega) (by omega)
    have hC2 := Ca_t hC1 b5
    have hm := Ca_Ls hC1
    rw [itN_m hm hF hB hD] at b2
    rw [wrN_m hm hF hB hD] at b1
    refine ⟨m2, ?_, ⟨Ca_LL hC2 q1, LB_w (Ca_L hC2) q2, by rw [hC2.1 0 0 12 (by omega) (by omega) (by omega) (by omega)]; exact q3, ?_, ?_, ?_⟩, hC2⟩
    · rw [if_pos (by decide), b1, calI_s]
      unfold gr
      rw [if_pos rfl, cl]
    · rw [g2, g1]
      unfold gv gA gt
      rw [if_pos rfl, if_pos rfl, cl]
      exact b2
    · rw [g2, g1]; exact b3
    · unfold gt
      rw [if_pos rfl, cl]
      exact b4
  · have hk7 : k ≤ 7 := hv.1
    have hn0 : ¬ nI k = 0 := nI_ne0 (by omega) (by omega)
    have sa : SA m1 40 F B D P W v t := ⟨l1, LB_w (Ca_L hC1) q2, by rw [hC1.1 0 0 12 (by omega) (by omega) (by omega) (by omega)]; exact q3, s1.1.1, s1.1.2.2.1, by decide⟩
    obtain ⟨m3, w1, b1, b2, b3⟩ := c_carry sa s1.1 k (by omega) hv
    have hC3 : Ca m1 (Sm m3 40 w1 (m1.2 12 40 17)) := Ca_t (Ca_Ex b2) (Ca_Sm (by decide))
    have hC2 := Ca_t hC1 hC3
    have g2 : (Sm m3 40 w1 (m1.2 12 40 17)).1 5 0 5 = m1.1 5 0 5 := hC3.1 5 0 5 (by omega) (by omega) (by omega) (by omega)
    refine ⟨Sm m3 40 w1 (m1.2 12 40 17), ?_, ⟨Ca_LL hC2 q1, LB_w (Ca_L hC2) q2, by rw [hC2.1 0 0 12 (by omega) (by omega) (by omega) (by omega)]; exact q3, ?_, ?_, ?_⟩, hC2⟩
    · rw [if_neg hn0, b1, calI_s]
      unfold gr
      rw [if_neg c0, p1]
    · rw [g2, g1]
      unfold gt
      rw [if_neg c0]
      have r := b3 (itN m F B D P W (m.1 5 0 5))
      rw [p1] at r
      refine ⟨?_, ⟨?_, fun j hj d hd => ?_⟩, q4.2.2⟩
      · have e := vec_Sm (m := m3) (n := 40) (w := w1) (x := m1.2 12 40 17)
        have ex : (Sm m3 40 w1 (m1.2 12 40 17)).2 12 40 17 = m1.2 12 40 17 := Sm_x
        rw [ex]
        exact RS_g r e.1 e.2
      · unfold gv
        rw [gA_hi hF hB (by omega) hv (by decide)]
        exact q4.2.1.1
      · unfold gv
        rw [gA_hi hF hB (by omega) hv (by omega), Sm_o (by omega), b2.1 _ _ _ (by omega)]
        exact s1.2.1.2 j hj d hd
    · rw [g2, g1]
      exact KC_Sm (by decide) (KC_Ex b2 a3)
    · unfold gt
      rw [if_neg c0]
      exact KT_0 T1 (by decide)
