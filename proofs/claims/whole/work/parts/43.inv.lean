/-! what holds between two calls -/
def LG (m : hM) (n sz : Nat) (v : Nat → Int32) (t : Nat) : Prop := v 51 = nI (min t 60) ∧ ∀ j, j < min t 60 → ∀ c, c < 3 → v (52 + 3 * j + c) = m.1 (21 + c) n ((t - min t 60 + j) % sz)
def ST (m : hM) (B : Nat) (g : Int32) (n nl sz : Nat) (v : Nat → Int32) (t : Nat) : Prop := RS B g (vec m n) (m.2 12 n 17) v t ∧ LG m nl sz v t ∧ t ≤ 9999
def krow (m : hM) (j : Nat) : Nat → Int32 := fun i => m.1 52 0 (232 * j + i)
def LB (m : hM) (P : Nat) : Prop := 1 ≤ P ∧ (∀ j, j < P → bw (m.1 6 0 j) (-60) 60) ∧ bw (m.1 5 0 5) 1 9
def PC (m : hM) (B : Nat) (g : Int32) (t : Nat) : Prop := ∃ c s, ∃ tt : Nat → Nat, m.1 0 0 16 = nI c ∧ m.1 40 0 28 = nI c ∧ m.1 0 0 15 = nI s ∧ c ≤ 40 ∧ s < 40 ∧ tt c = t ∧ (∀ j, j < c → ST m B g ((s + j) % 40) 0 2460 (krow m j) (tt j)) ∧ ∀ j, j < c → tt j ≤ tt (j + 1) ∧ tt (j + 1) ≤ tt j + 60
def IM (m : hM) (B : Nat) (g : Int32) : Prop := m.1 0 0 13 = m.1 40 0 39 ∧ (m.1 0 0 13 = 0 ∨ m.1 0 0 13 = 1) ∧ (m.1 0 0 13 = 1 → ∃ t, ST m B g 41 1 60 (m.1 59 0) t)
def IL (m : hM) : Prop := ∃ F B D P W t, LL m F B D P W ∧ LB m P ∧ m.1 40 0 22 = m.1 5 0 5 ∧ ST m B (m.1 5 0 5) 40 0 2460 (m.1 50 0) t ∧ PC m B (m.1 5 0 5) t ∧ IM m B (m.1 5 0 5)
def I0 (m : hM) : Prop := m.1 12 40 6 = 0 ∧ m.1 50 0 18 = 0 ∧ m.1 50 0 51 = 0 ∧ m.1 0 0 16 = 0 ∧ m.1 40 0 28 = 0 ∧ m.1 0 0 13 = 0 ∧ m.1 40 0 39 = 0 ∧ ∃ s, s < 40 ∧ m.1 0 0 15 = nI s
/-- a step that may be in a script -/
def SV (k a b : Int32) : Prop := (k = 0 ∧ bw a 1 60) ∨ (k = 1 ∧ bw a 0 3) ∨ (k = 2 ∧ bw a 0 1) ∨ (k = 3 ∧ bw a 0 5 ∧ bw b (-255) 255) ∨ k = 4 ∨ (k = 5 ∧ bw a 0 4) ∨ (k = 6 ∧ bw a 0 99) ∨ k = 7
def SC (m : hM) (s : Nat) : Prop := ∃ n, n ≤ 12 ∧ m.1 8 s 3 = nI n ∧ m.1 49 0 s = nI n ∧ ∀ i, i < n → m.1 9 s i = m.1 48 0 (3 * (12 * s + i)) ∧ m.1 10 s i = m.1 48 0 (3 * (12 * s + i) + 1) ∧ m.1 11 s i = m.1 48 0 (3 * (12 * s + i) + 2) ∧ SV (m.1 9 s i) (m.1 10 s i) (m.1 11 s i)
def IS (m : hM) : Prop := ∃ q, q ≤ 4 ∧ m.1 0 0 14 = nI q ∧ m.1 40 0 18 = nI q ∧ ∀ s, s < q → SC m s
def IT (m : hM) : Prop := ∃ l, l ≤ 240 ∧ m.1 1 0 4 = nI l ∧ m.1 40 0 2 = nI l ∧ ∀ i, i < l → m.1 2 0 i = m.1 41 0 i ∧ bw (m.1 2 0 i) 1 255
def IR (m : hM) : Prop := (∀ j, j < 4 → m.1 37 0 j = m.1 51 0 j) ∧ m.1 0 0 17 = m.1 40 0 21 ∧ m.1 40 0 24 = 0 ∧ m.1 40 0 23 = -1000000000
def Inv (m : hM) : Prop := m.1 0 0 12 = m.1 40 0 15 ∧ ((m.1 0 0 12 = 0 ∧ I0 m) ∨ (m.1 0 0 12 = 1 ∧ IL m)) ∧ IS m ∧ IT m ∧ IR m
/-! it asks nothing of what is scratch -/
def nsA (a b c : Nat) : Prop := (5 ≤ a ∧ a ≤ 7 ∧ b = 0) ∨ (45 ≤ a ∧ a ≤ 47) ∨ (12 ≤ a ∧ a ≤ 19 ∧ b ≤ 41) ∨ (21 ≤ a ∧ a ≤ 23) ∨ a = 50 ∨ a = 52 ∨ a = 59 ∨ (a = 0 ∧ (c = 13 ∨ c = 15 ∨ c = 16)) ∨ (a = 40 ∧ (c = 22 ∨ c = 28 ∨ c = 39))
def nsC (a b c : Nat) : Prop := (8 ≤ a ∧ a ≤ 11 ∧ b < 4) ∨ (a = 48 ∧ c < 144) ∨ (a = 49 ∧ c < 4) ∨ (a = 0 ∧ c = 14) ∨ (a = 40 ∧ c = 18)
def nsT (a _b c : Nat) : Prop := a = 2 ∨ a = 41 ∨ (a = 1 ∧ c = 4) ∨ (a = 40 ∧ c = 2)
def nsR (a _b c : Nat) : Prop := a = 37 ∨ a = 51 ∨ (a = 0 ∧ c = 17) ∨ (a = 40 ∧ (c = 21 ∨ c = 23 ∨ c = 24))
def nsH (a _b c : Nat) : Prop := (a = 0 ∧ c = 12) ∨ (a = 40 ∧ c = 15)
theorem n_L {a c : Nat} (h : 5 ≤ a) (h2 : a ≤ 7) : nsA a 0 c := Or.inl (⟨h, h2, rfl⟩)
theorem n_M {a b c : Nat} (h : 45 ≤ a) (h2 : a ≤ 47) : nsA a b c := Or.inr (Or.inl (⟨h, h2⟩))
theorem n_S {a b c : Nat} (h : 12 ≤ a) (h2 : a ≤ 19) (h3 : b ≤ 41) : nsA a b c := Or.inr (Or.inr (Or.inl (⟨h, h2, h3⟩)))
theorem n_J {a b c : Nat} (h : 21 ≤ a) (h2 : a ≤ 23) : nsA a b c := Or.inr (Or.inr (Or.inr (Or.inl (⟨h, h2⟩))))
theorem n_50 {b c : Nat} : nsA 50 b c := Or.inr (Or.inr (Or.inr (Or.inr (Or.inl (rfl)))))
theorem n_52 {b c : Nat} : nsA 52 b c := Or.inr (Or.inr (Or.inr (Or.inr (Or.inr (Or.inl (rfl))))))
theorem n_59 {b c : Nat} : nsA 59 b c := Or.inr (Or.inr (Or.inr (Or.inr (Or.inr (Or.inr (Or.inl (rfl)))))))
theorem n_C {a b c : Nat} (h : 8 ≤ a) (h2 : a ≤ 11) (h3 : b < 4) : nsC a b c := Or.inl (⟨h, h2, h3⟩)
theorem n_48 {b c : Nat} (h : c < 144) : nsC 48 b c := Or.inr (Or.inl (⟨rfl, h⟩))
theorem n_49 {b c : Nat} (h : c < 4) : nsC 49 b c := Or.inr (Or.inr (Or.inl (⟨rfl, h⟩)))
theorem n_2 {b c : Nat} : nsT 2 b c := Or.inl (rfl)
theorem n_41 {b c : Nat} : nsT 41 b c := Or.inr (Or.inl (rfl))
theorem n_37 {b c : Nat} : nsR 37 b c := Or.inl (rfl)
theorem n_51 {b c : Nat} : nsR 51 b c := Or.inr (Or.inl (rfl))
def SmA (m m2 : hM) : Prop := (∀ a b c, nsA a b c → m2.1 a b c = m.1 a b c) ∧ ∀ n, n ≤ 41 → m2.2 12 n 17 = m.2 12 n 17
def SmP (p : Nat → Nat → Nat → Prop) (m m2 : hM) : Prop := ∀ a b c, p a b c → m2.1 a b c = m.1 a b c
def Same (m m2 : hM) : Prop := SmA m m2 ∧ SmP nsC m m2 ∧ SmP nsT m m2 ∧ SmP nsR m m2 ∧ SmP nsH m m2
theorem lc_k (i : Nat) : 12 ≤ (lc i).1 ∧ (lc i).1 ≤ 19 := by
  unfold lc
  by_cases h : i < 49
  · rw [if_pos h]
    have e : ∀ i, i < 49 → 12 ≤ (lcL.getD i (0, 0)).1 ∧ (lcL.getD i (0, 0)).1 ≤ 19 := by decide +kernel
    exact e i h
  · rw [if_neg h]
    show 12 ≤ 12 + (i - 1000) % 8 ∧ 12 + (i - 1000) % 8 ≤ 19
    omega
section
variable {m m2 : hM}
theorem vec_same (h : SmA m m2) {n : Nat} (hn : n ≤ 41) : vec m2 n = vec m n := by
  funext i
  unfold vec
  have := lc_k i
  exact h.1 _ _ _ (n_S this.1 this.2 hn)
theorem ST_same (h : SmA m m2) {B n nl sz t : Nat} {g : Int32} {v : Nat → Int32} (hn : n ≤ 41) (q : ST m B g n nl sz v t) : ST m2 B g n nl sz v t := by
  obtain ⟨q1, q2, q3⟩ := q
  refine ⟨?_, ⟨q2.1, fun j hj c hc => ?_⟩, q3⟩
  · rw [vec_same h hn, h.2 n hn]
    exact q1
  · rw [h.1 (21 + c) _ _ (n_J (by omega) (by omega))]
    exact q2.2 j hj c hc
theorem row_same (h : SmA m m2) {a b : Nat} (ha : a = 50 ∨ a = 52 ∨ a = 59) : m2.1 a b = m.1 a b := by
  funext c
  rcases ha with ha | ha | ha <;> subst ha
  · exact h.1 _ b c n_50
  · exact h.1 _ b c n_52
  · exact h.1 _ b c n_59
theorem LL_same (h : SmA m m2) {F B D P W : Nat} (q : LL m F B D P W) : LL m2 F B D P W := by
  obtain ⟨⟨a0, a1, a2, a3, a4, a5⟩, ⟨b1, b2, b3⟩, c1⟩ := q
  have e5 : ∀ a c, 5 ≤ a → a ≤ 7 → m2.1 a 0 c = m.1 a 0 c := fun a c x y => h.1 a 0 c (n_L x y)
  have e4 : ∀ a c, 45 ≤ a → a ≤ 47 → m2.1 a 0 c = m.1 a 0 c := fun a c x y => h.1 a 0 c (n_M x y)
  refine ⟨⟨?_, ?_, ?_, ?_, ?_, a5⟩, ⟨fun j hj => ?_, fun j hj => ?_, fun j hj => ?_⟩, fun j hj => ?_⟩
  · rw [e5 _ _ (by decide) (by decide)]; exact a0
  · rw [e5 _ _ (by decide) (by decide)]; exact a1
  · rw [e5 _ _ (by decide) (by decide)]; exact a2
  · rw [e5 _ _ (by decide) (by decide)]; exact a3
  · rw [e5 _ _ (by decide) (by decide)]; exact a4
  · rw [e5 5 _ (by decide) (by decide), e4 45 _ (by decide) (by decide)]; exact b1 j hj
  · rw [e5 6 _ (by decide) (by decide), e4 46 _ (by decide) (by decide)]; exact b2 j hj
  · rw [e5 7 _ (by decide) (by decide), e4 47 _ (by decide) (by decide)]; exact b3 j hj
  · rw [e5 _ _ (by decide) (by decide)]; exact c1 j hj
theorem LB_same (h : SmA m m2) {P : Nat} (q : LB m P) : LB m2 P := by
  refine ⟨q.1, fun j hj => ?_, ?_⟩
  · rw [h.1 6 0 j (n_L (by decide) (by decide))]; exact q.2.1 j hj
  · rw [h.1 5 0 5 (by unfold nsA; decide)]; exact q.2.2
theorem PC_same (h : SmA m m2) {B t : Nat} {g : Int32} (q : PC m B g t) : PC m2 B g t := by
  obtain ⟨c, s, tt, q1, q2, q3, q4, q5, q6, q7, q8⟩ := q
  refine ⟨c, s, tt, ?_, ?_, ?_, q4, q5, q6, fun j hj => ?_, q8⟩
  · rw [h.1 0 0 16 (by unfold nsA; decide)]; exact q1
  · rw [h.1 40 0 28 (by unfold nsA; decide)]; exact q2
  · rw [h.1 0 0 15 (by unfold nsA; decide)]; exact q3
  · have e : krow m2 j = krow m j := by
      unfold krow
      rw [row_same h (by decide)]
    rw [e]
    exact ST_same h (by omega) (q7 j hj)
theorem IM_same (h : SmA m m2) {B : Nat} {g : Int32} (q : IM m B g) : IM m2 B g := by
  unfold IM
  rw [h.1 0 0 13 (by unfold nsA; decide), h.1 40 0 39 (by unfold nsA; decide), row_same h (by decide)]
  refine ⟨q.1, q.2.1, fun e => ?_⟩
  obtain ⟨t, ht⟩ := q.2.2 e
  exact ⟨t, ST_same h (by decide) ht⟩
theorem IL_same (h : SmA m m2) (q : IL m) : IL m2 := by
  obtain ⟨F, B, D, P, W, t, q1, q2, q3, q4, q5, q6⟩ := q
  refine ⟨F, B, D, P, W, t, LL_same h q1, LB_same h q2, ?_, ?_, ?_, ?_⟩
  · rw [h.1 40 0 22 (by unfold nsA; decide), h.1 5 0 5 (by unfold nsA; decide)]; exact q3
  · rw [h.1 5 0 5 (by unfold nsA; decide), row_same h (by decide)]; exact ST_same h (by decide) q4
  · rw [h.1 5 0 5 (by unfold nsA; decide)]; exact PC_same h q5
  · rw [h.1 5 0 5 (by unfold nsA; decide)]; exact IM_same h q6
theorem I0_same (h : SmA m m2) (q : I0 m) : I0 m2 := by
  unfold I0
  rw [h.1 12 40 6 (by unfold nsA; decide), h.1 50 0 18 (by unfold nsA; decide), h.1 50 0 51 (by unfold nsA; decide), h.1 0 0 16 (by unfold nsA; decide), h.1 40 0 28 (by unfold nsA; decide), h.1 0 0 13 (by unfold nsA; decide), h.1 40 0 39 (by unfold nsA; decide), h.1 0 0 15 (by unfold nsA; decide)]
  exact q
theorem SC_same (h : SmP nsC m m2) {s : Nat} (hs : s < 4) (q : SC m s) : SC m2 s := by
  obtain ⟨n, q0, q1, q2, q3⟩ := q
  refine ⟨n, q0, ?_, ?_, fun i hi => ?_⟩
  · rw [h 8 s 3 (n_C (by decide) (by decide) hs)]; exact q1
  · rw [h 49 0 s (n_49 hs)]; exact q2
  · rw [h 9 s i (n_C (by decide) (by decide) hs), h 10 s i (n_C (by decide) (by decide) hs), h 11 s i (n_C (by decide) (by decide) hs), h 48 0 (3 * (12 * s + i)) (n_48 (by omega)), h 48 0 (3 * (12 * s + i) + 1) (n_48 (by omega)), h 48 0 (3 * (12 * s + i) + 2) (n_48 (by omega))]
    exact q3 i hi
theorem IS_same (h : SmP nsC m m2) (q : IS m) : IS m2 := by
  obtain ⟨c, q0, q1, q2, q3⟩ := q
  refine ⟨c, q0, ?_, ?_, fun s hs => SC_same h (by omega) (q3 s hs)⟩
  · rw [h 0 0 14 (by unfold nsC; decide)]; exact q1
  · rw [h 40 0 18 (by unfold nsC; decide)]; exact q2
theorem IT_same (h : SmP nsT m m2) (q : IT m) : IT m2 := by
  obtain ⟨l, q0, q1, q2, q3⟩ := q
  refine ⟨l, q0, ?_, ?_, fun i hi => ?_⟩
  · rw [h 1 0 4 (by unfold nsT; decide)]; exact q1
  · rw [h 40 0 2 (by unfold nsT; decide)]; exact q2
  · rw [h 2 0 i n_2, h 41 0 i n_41]; exact q3 i hi
theorem IR_same (h : SmP nsR m m2) (q : IR m) : IR m2 := by
  refine ⟨fun j hj => ?_, ?_, ?_, ?_⟩
  · rw [h 37 0 j n_37, h 51 0 j n_51]; exact q.1 j hj
  · rw [h 0 0 17 (by unfold nsR; decide), h 40 0 21 (by unfold nsR; decide)]; exact q.2.1
  · rw [h 40 0 24 (by unfold nsR; decide)]; exact q.2.2.1
  · rw [h 40 0 23 (by unfold nsR; decide)]; exact q.2.2.2
theorem IH_same (h : SmP nsH m m2) (hA : SmA m m2) (q : m.1 0 0 12 = m.1 40 0 15 ∧ ((m.1 0 0 12 = 0 ∧ I0 m) ∨ (m.1 0 0 12 = 1 ∧ IL m))) : m2.1 0 0 12 = m2.1 40 0 15 ∧ ((m2.1 0 0 12 = 0 ∧ I0 m2) ∨ (m2.1 0 0 12 = 1 ∧ IL m2)) := by
  refine ⟨?_, ?_⟩
  · rw [h 0 0 12 (by unfold nsH; decide), h 40 0 15 (by unfold nsH; decide)]; exact q.1
  · rw [h 0 0 12 (by unfold nsH; decide)]
    rcases q.2 with q2 | q2
    · exact Or.inl ⟨q2.1, I0_same hA q2.2⟩
    · exact Or.inr ⟨q2.1, IL_same hA q2.2⟩
theorem Inv_same (h : Same m m2) (q : Inv m) : Inv m2 := by
  obtain ⟨q1, q2, q3, q4, q5⟩ := q
  have e := IH_same h.2.2.2.2 h.1 ⟨q1, q2⟩
  exact ⟨e.1, e.2, IS_same h.2.1 q3, IT_same h.2.2.1 q4, IR_same h.2.2.2.1 q5⟩
end
/-- two calls answer alike, and what holds is kept -/
def Ok1 (f g : hM → hR) : Prop := ∀ m, Inv m → ∃ r m1 m2, f m = some (some (.inl r), m1) ∧ g m1 = some (some (.inl r), m2) ∧ Inv m2
theorem Ok1_p {f g : hM → hR} (h : ∀ m, Inv m → ∃ r, f m = some (some (.inl r), m) ∧ g m = some (some (.inl r), m)) : Ok1 f g := fun m hm => by
  obtain ⟨r, a, b⟩ := h m hm
  exact ⟨r, m, m, a, b, hm⟩
