/-! bursts: many passes -/
section
variable {nx : Nat → Nat → Nat} {B : Nat} {f g : Nat → Int32} {N : Nat}
def RBs (nx : Nat → Nat → Nat) (B : Nat) (M : hM) (f g : Nat → Int32) : Prop := RB2 nx B M f g ∧ ∀ M2, Rx M M2 → (∀ k, M2.1 57 0 k = M.1 57 0 k) → ∀ s, s < 512 → ∀ b, b < 2 → JX12_stateNext (nI s) (nI b) M2 = some (some (.inl (nI (nx s b))), M2)
theorem fN_ne {s : Nat} (hN : N < 999999) (hs : s < 512) (hnx : ∀ s b, nx s b < 512 ∧ nx s b % 8 < 2 ^ B) (hG : VG B f g N) (c : bC nx B f s) : (1 + hmx (f (nx s 0)) (f (nx s 1))) ≠ -1 := by
  obtain ⟨c1, c2, c3, c4⟩ := c
  have fa := (hG (nx s 0) (hnx s 0).1 (hnx s 0).2).1.resolve_left c3
  have fb := (hG (nx s 1) (hnx s 1).1 (hnx s 1).2).1.resolve_left c4
  have q1 := fa.1; have q2 := fa.2; have q3 := fb.1; have q4 := fb.2
  have e1 : (1 : Int32).toInt = 1 := by decide
  have r := hmx_t (f (nx s 0)) (f (nx s 1))
  intro z
  have y := congrArg Int32.toInt z
  rw [j_add (by rw [e1, r]; omega) (by rw [e1, r]; omega), e1, r, show (-1 : Int32).toInt = -1 from by decide] at y
  omega
theorem l_pass (hB : B ≤ 3) (hnx : ∀ s b, nx s b < 512 ∧ nx s b % 8 < 2 ^ B) (hG : VG B f g N) (hN : N + 512 < 999999) : ∀ n, n ≤ 512 → ∃ f2 g2, ∃ fd : Int32, (fd = 0 ∨ fd = 1) ∧ (fd = 0 → f2 = f ∧ g2 = g) ∧ (fd = 0 ∨ unk f2 512 + 1 ≤ unk f 512) ∧ VG B f2 g2 (N + n) ∧ (∀ M, CB nx B M f g → ∃ M2, CB nx B M2 f2 g2 ∧ Bx M M2 ∧ ∀ K F, JX1_spreadBack_4 K (F + n) 0 0 M = JX1_spreadBack_4 K F fd (nI n) M2) ∧ ∀ M, RBs nx B M f g → ∃ M2, RBs nx B M2 f2 g2 ∧ Rx M M2 ∧ ∀ K F, JX12_layBursts_97 K (nI (2 ^ B)) (F + n) 0 0 M = JX12_layBursts_97 K (nI (2 ^ B)) F fd (nI n) M2 := by
  intro n
  induction n with
  | zero => intro _; exact ⟨f, g, 0, Or.inl rfl, fun _ => ⟨rfl, rfl⟩, Or.inl rfl, hG, fun M h => ⟨M, h, Bx_r M, fun _ _ => rfl⟩, fun M h => ⟨M, h, Rx_r M, fun _ _ => rfl⟩⟩
  | succ n ih =>
    intro hn
    obtain ⟨f2, g2, fd, a1, a2, a3, a4, a5, a6⟩ := ih (by omega)
    by_cases c : bC nx B f2 n
    · have ne := fN_ne (by omega) (by omega) hnx a4 c
      have un := unk_u c.2.1 ne 512
      rw [if_pos (by omega)] at un
      refine ⟨fN nx f2 n, gN nx g2 n, 1, Or.inr rfl, fun z => absurd z (by decide), Or.inr ?_, ?_, fun M h => ?_, fun M h => ?_⟩
      · have un' : unk (fN nx f2 n) 512 + 1 = unk f2 512 := un
        rcases a3 with z | z
        · rw [← (a2 z).1]; omega
        · omega
      · have z := VG_n (N := N + n) (by omega) (by omega) hnx a4 c
        exact z
      · obtain ⟨M2, b1, b2, b3⟩ := a5 M h
        obtain ⟨M3, c1, c2, c3⟩ := (c_spr (fd := fd) hB (show n < 512 by omega) hnx b1).1 c
        refine ⟨M3, c1, Bx_t b2 c2, fun K F => ?_⟩
        rw [show F + (n + 1) = F + 1 + n from by omega, b3, c3]
      · obtain ⟨M2, b1, b2, b3⟩ := a6 M h
        obtain ⟨M3, c1, c2, c4, c3⟩ := (m_spr (fd := fd) (by omega) hB (show n < 512 by omega) hnx b1.1 a4 b1.2).1 c
        refine ⟨M3, ⟨c1, fun M4 r1 r2 => b1.2 M4 (Rx_t c2 r1) (fun k => (r2 k).trans (c4 k))⟩, Rx_t b2 c2, fun K F => ?_⟩
        rw [show F + (n + 1) = F + 1 + n from by omega, b3, c3]
    · refine ⟨f2, g2, fd, a1, a2, a3, VG_w a4 (by omega), fun M h => ?_, fun M h => ?_⟩
      · obtain ⟨M2, b1, b2, b3⟩ := a5 M h
        refine ⟨M2, b1, b2, fun K F => ?_⟩
        rw [show F + (n + 1) = F + 1 + n from by omega, b3, (c_spr (fd := fd) hB (show n < 512 by omega) hnx b1).2 c]
      · obtain ⟨M2, b1, b2, b3⟩ := a6 M h
        refine ⟨M2, b1, b2, fun K F => ?_⟩
        rw [show F + (n + 1) = F + 1 + n from by omega, b3, (m_spr (fd := fd) (by omega) hB (show n < 512 by omega) hnx b1.1 a4 b1.2).2 c]
theorem ar_o {N u : Nat} (h : N + 512 * (u + 1 + 2) < 999999) : N + 512 < 999999 ∧ N + 512 + 512 * (u + 2) < 999999 := by omega
theorem l_outer (hB : B ≤ 3) (hnx : ∀ s b, nx s b < 512 ∧ nx s b % 8 < 2 ^ B) : ∀ u f g N, unk f 512 ≤ u → VG B f g N → N + 512 * (u + 2) < 999999 → ∃ f2 g2 N2, (VG B f2 g2 N2 ∧ N2 < 999999) ∧ (∀ M, CB nx B M f g → ∃ M2, CB nx B M2 f2 g2 ∧ Bx M M2 ∧ ∀ K i F, i + u + 1 ≤ 512 → u + 2 ≤ F → JX1_explore_130 K F 1 (nI i) M = K M2) ∧ ∀ M, RBs nx B M f g → ∃ M2, RBs nx B M2 f2 g2 ∧ Rx M M2 ∧ ∀ K F, u + 2 ≤ F → JX12_layBursts_89 K (nI (2 ^ B)) F 1 M = K M2 := by
  intro u
  have pass : ∀ f g N, VG B f g N → N + 512 < 999999 → ∃ f2 g2, ∃ fd : Int32, (fd = 0 ∨ fd = 1) ∧ (fd = 0 → f2 = f ∧ g2 = g) ∧ (fd = 0 ∨ unk f2 512 + 1 ≤ unk f 512) ∧ VG B f2 g2 (N + 512) ∧ (∀ M, CB nx B M f g → ∃ M2, CB nx B M2 f2 g2 ∧ Bx M M2 ∧ JX1_spreadBack M = some (some (.inl fd), M2)) ∧ ∀ M, RBs nx B M f g → ∃ M2, RBs nx B M2 f2 g2 ∧ Rx M M2 ∧ ∀ K, JX12_layBursts_97 K (nI (2 ^ B)) FU 0 0 M = K fd M2 := by
    intro f g N hG hN
    obtain ⟨f2, g2, fd, a1, a2, a3, a4, a5, a6⟩ := l_pass hB hnx hG hN 512 (Nat.le_refl _)
    refine ⟨f2, g2, fd, a1, a2, a3, a4, fun M h => ?_, fun M h => ?_⟩
    · obtain ⟨M2, b1, b2, b3⟩ := a5 M h
      refine ⟨M2, b1, b2, ?_⟩
      unfold JX1_spreadBack
      rw [show FU = 99487 + 1 + 512 from rfl, b3]
      show bJX1_spreadBack_4 _ _ _ (nI 512) _ = _
      unfold bJX1_spreadBack_4
      rw [if_pos (by decide)]
      exact jretZ_b a1
    · obtain ⟨M2, b1, b2, b3⟩ := a6 M h
      refine ⟨M2, b1, b2, fun K => ?_⟩
      rw [show FU = 99487 + 1 + 512 from rfl, b3]
      show bJX12_layBursts_97 _ _ _ _ (nI 512) _ = _
      unfold bJX12_layBursts_97
      rw [if_pos (by decide)]
  have cst : ∀ (M M2 : hM) (fd : Int32), JX1_spreadBack M = some (some (.inl fd), M2) → ∀ K i F, i < 512 → JX1_explore_130 K (F + 1) 1 (nI i) M = JX1_explore_130 K F fd (nI (i + 1)) M2 := fun M M2 fd e K i F hi => by
    show bJX1_explore_130 _ _ _ _ _ = _
    unfold bJX1_explore_130
    rw [if_neg (show ¬ (512 : Int32) ≤ nI i from nI_ge (b := 512) hi (by decide)), if_neg (by decide), e, calI_s, ← nI_succ]
  have cend : ∀ (M : hM) K i F, JX1_explore_130 K (F + 1) 0 (nI i) M = K M := fun M K i F => by
    show bJX1_explore_130 _ _ _ _ _ = _
    unfold bJX1_explore_130
    by_cases z : (512 : Int32) ≤ nI i
    · rw [if_pos z]
    · rw [if_neg z, if_pos rfl]
  have mst : ∀ (M M2 : hM) (fd : Int32), (∀ K, JX12_layBursts_97 K (nI (2 ^ B)) FU 0 0 M = K fd M2) → ∀ K F, JX12_layBursts_89 K (nI (2 ^ B)) (F + 1) 1 M = JX12_layBursts_89 K (nI (2 ^ B)) F fd M2 := fun M M2 fd e K F => by
    show bJX12_layBursts_89 _ _ _ _ _ = _
    unfold bJX12_layBursts_89
    rw [if_neg (by decide), e]
  have mend : ∀ (M : hM) K F, JX12_layBursts_89 K (nI (2 ^ B)) (F + 1) 0 M = K M := fun M K F => by
    show bJX12_layBursts_89 _ _ _ _ _ = _
    unfold bJX12_layBursts_89
    rw [if_pos rfl]
  induction u with
  | zero =>
    intro f g N hu hG hN
    obtain ⟨f2, g2, fd, a1, a2, a3, a4, a5, a6⟩ := pass f g N hG (by omega)
    have f0 : fd = 0 := by
      rcases a3 with z | z
      · exact z
      · omega
    subst f0
    refine ⟨f2, g2, N + 512, ⟨a4, by omega⟩, fun M h => ?_, fun M h => ?_⟩
    · obtain ⟨M2, b1, b2, b3⟩ := a5 M h
      refine ⟨M2, b1, b2, fun K i F hi hF => ?_⟩
      obtain ⟨F, rfl⟩ : ∃ x, F = x + 1 + 1 := ⟨F - 2, by omega⟩
      rw [cst M M2 0 b3 K i (F + 1) (by omega), cend]
    · obtain ⟨M2, b1, b2, b3⟩ := a6 M h
      refine ⟨M2, b1, b2, fun K F hF => ?_⟩
      obtain ⟨F, rfl⟩ : ∃ x, F = x + 1 + 1 := ⟨F - 2, by omega⟩
      rw [mst M M2 0 b3 K (F + 1), mend]
  | succ u ih =>
    intro f g N hu hG hN
    obtain ⟨n1, n2⟩ := ar_o hN
    obtain ⟨f2, g2, fd, a1, a2, a3, a4, a5, a6⟩ := pass f g N hG n1
    rcases a1 with f0 | f1
    · subst f0
      refine ⟨f2, g2, N + 512, ⟨a4, n1⟩, fun M h => ?_, fun M h => ?_⟩
      · obtain ⟨M2, b1, b2, b3⟩ := a5 M h
        refine ⟨M2, b1, b2, fun K i F hi hF => ?_⟩
        obtain ⟨F, rfl⟩ : ∃ x, F = x + 1 + 1 := ⟨F - 2, by omega⟩
        rw [cst M M2 0 b3 K i (F + 1) (by omega), cend]
      · obtain ⟨M2, b1, b2, b3⟩ := a6 M h
        refine ⟨M2, b1, b2, fun K F hF => ?_⟩
        obtain ⟨F, rfl⟩ : ∃ x, F = x + 1 + 1 := ⟨F - 2, by omega⟩
        rw [mst M M2 0 b3 K (F + 1), mend]
    · subst f1
      have hu2 : unk f2 512 ≤ u := by
        rcases a3 with z | z
        · exact absurd z (by decide)
        · exact Nat.le_of_succ_le_succ (Nat.le_trans z hu)
      obtain ⟨f3, g3, N3, b0, b1, b2⟩ := ih f2 g2 (N + 512) hu2 a4 n2
      refine ⟨f3, g3, N3, b0, fun M h => ?_, fun M h => ?_⟩
      · obtain ⟨M2, c1, c2, c3⟩ := a5 M h
        obtain ⟨M3, d1, d2, d3⟩ := b1 M2 c1
        refine ⟨M3, d1, Bx_t c2 d2, fun K i F hi hF => ?_⟩
        obtain ⟨F, rfl⟩ : ∃ x, F = x + 1 := ⟨F - 1, by omega⟩
        rw [cst M M2 1 c3 K i F (by omega)]
        exact d3 K (i + 1) F (by omega) (by omega)
      · obtain ⟨M2, c1, c2, c3⟩ := a6 M h
        obtain ⟨M3, d1, d2, d3⟩ := b2 M2 c1
        refine ⟨M3, d1, Rx_t c2 d2, fun K F hF => ?_⟩
        obtain ⟨F, rfl⟩ : ∃ x, F = x + 1 := ⟨F - 1, by omega⟩
        rw [mst M M2 1 c3 K F]
        exact d3 K F (by omega)
end
/-! where it begins -/
def f0B : Nat → Int32 := fun s => if s % 8 = 0 then 0 else -1
theorem unk_s (f : Nat → Int32) (n : Nat) : unk f (n + 1) = unk f n + (if f n = -1 then 1 else 0) := rfl
theorem unk_a (f : Nat → Int32) (n : Nat) : unk f (n + 1) ≤ unk f n + 1 := by
  rw [unk_s]
  by_cases c : f n = -1
  · rw [if_pos c]; exact Nat.le_refl _
  · rw [if_neg c]; omega
theorem f0B_0 {s : Nat} (h : s % 8 = 0) : f0B s = 0 := by
  unfold f0B
  rw [if_pos h]
theorem f0B_n {s : Nat} (h : ¬ s % 8 = 0) : f0B s = -1 := by
  unfold f0B
  rw [if_neg h]
theorem unk_8 (n : Nat) (h : n % 8 = 0) : unk f0B (n + 1) = unk f0B n := by
  rw [unk_s, f0B_0 h, if_neg (by decide)]
  rfl
theorem unk_r : ∀ r, unk f0B (8 * r) ≤ 7 * r := by
  intro r
  induction r with
  | zero => exact Nat.le_refl _
  | succ r ih =>
    have z0 := unk_8 (8 * r) (by omega)
    have z1 : unk f0B (8 * r + 2) ≤ unk f0B (8 * r + 1) + 1 := unk_a f0B (8 * r + 1)
    have z2 : unk f0B (8 * r + 3) ≤ unk f0B (8 * r + 2) + 1 := unk_a f0B (8 * r + 2)
    have z3 : unk f0B (8 * r + 4) ≤ unk f0B (8 * r + 3) + 1 := unk_a f0B (8 * r + 3)
    have z4 : unk f0B (8 * r + 5) ≤ unk f0B (8 * r + 4) + 1 := unk_a f0B (8 * r + 4)
    have z5 : unk f0B (8 * r + 6) ≤ unk f0B (8 * r + 5) + 1 := unk_a f0B (8 * r + 5)
    have z6 : unk f0B (8 * r + 7) ≤ unk f0B (8 * r + 6) + 1 := unk_a f0B (8 * r + 6)
    have z7 : unk f0B (8 * r + 8) ≤ unk f0B (8 * r + 7) + 1 := unk_a f0B (8 * r + 7)
    rw [show 8 * (r + 1) = 8 * r + 8 from by omega]
    omega
theorem unk_g {n : Nat} (h : 8 * 64 = n) : unk f0B n ≤ 7 * 64 := by
  rw [← h]; exact unk_r 64
theorem unk_0 : unk f0B 512 ≤ 448 := unk_g (by decide)
theorem VG_0 {B : Nat} : VG B f0B (fun _ => 0) 0 := fun s _ _ => by
  refine ⟨?_, ⟨by rw [Int32.toInt_zero]; omega, by rw [Int32.toInt_zero]; omega⟩, fun z => ⟨f0B_0 z, rfl⟩⟩
  by_cases c : s % 8 = 0
  · rw [f0B_0 c]; exact Or.inr ⟨by rw [Int32.toInt_zero]; omega, by rw [Int32.toInt_zero]; omega⟩
  · rw [f0B_n c]; exact Or.inl rfl
section
variable {m : hM} {F B D P W t ph : Nat} {v : Nat → Int32}
/-- the tables of the class -/
theorem c_tab {M : hM} {K : hM → hR} (hl : Ln M 0 F B D P W) (h5 : M.1 28 0 5 = nI (2 ^ B - 1)) (h29 : ∀ r, r < 64 → M.1 29 0 r = zFo (m.1 6 0) P ph v (nI r) F) (h30 : ∀ b, b < 8 → M.1 30 0 b = bkS F v (nI b) B) : ∃ M2, JX1_explore_23 K 0 FU 0 M = K M2 ∧ Bx M M2 ∧ CB (nxB (m.1 6 0) F B D P ph v) B M2 f0B (fun _ => 0) := by
  have hB : B ≤ 3 := hl.2.2.2.2.2.2.2.1
  have p2 := p2B hB
  -- what stays and what is done
  have inner : ∀ (r : Nat) (X : hM), r < 64 → Bx M X → (∀ a c, a = 28 ∨ a = 29 ∨ a = 30 → X.1 a 0 c = M.1 a 0 c) → ∀ i, i ≤ 2 ^ B → ∃ Y, Bx M Y ∧ (∀ a c, a = 28 ∨ a = 29 ∨ a = 30 → Y.1 a 0 c = M.1 a 0 c) ∧ (∀ s, s < 8 * r → Y.1 31 0 (2 * s) = X.1 31 0 (2 * s) ∧ Y.1 31 0 (2 * s + 1) = X.1 31 0 (2 * s + 1) ∧ Y.1 32 0 s = X.1 32 0 s ∧ Y.1 33 0 s = X.1 33 0 s) ∧ (∀ j, j < i → Y.1 31 0 (2 * (8 * r + j)) = nI (nxB (m.1 6 0) F B D P ph v (8 * r + j) 0) ∧ Y.1 31 0 (2 * (8 * r + j) + 1) = nI (nxB (m.1 6 0) F B D P ph v (8 * r + j) 1) ∧ Y.1 32 0 (8 * r + j) = f0B (8 * r + j) ∧ Y.1 33 0 (8 * r + j) = 0) ∧ ∀ K f, JX1_explore_32 K 0 (nI r) (f + i) 0 X = JX1_explore_32 K 0 (nI r) f (nI i) Y := by
    intro r X hr hX hX2 i
    induction i with
    | zero => intro _; exact ⟨X, hX, hX2, fun _ _ => ⟨rfl, rfl, rfl, rfl⟩, fun j hj => absurd hj (by omega), fun _ _ => rfl⟩
    | succ i ih =>
      intro hi
      obtain ⟨Y, a1, a2, a3, a4, a5⟩ := ih (by omega)
      have q5 : ∀ (Z : hM), (∀ a c, a = 28 ∨ a = 29 ∨ a = 30 → Z.1 a 0 c = M.1 a 0 c) → Bx M Z → ∀ b, b < 2 → JX1_placeBehind 0 (nI r) (nI i) (nI b) Z = some (some (.inl (nI (nxB (m.1 6 0) F B D P ph v (8 * r + i) b))), Z) := fun Z z1 z2 b hb => c_place (Ln_Bx z2 hl) (by rw [z1 28 5 (by decide)]; exact h5) (fun r hr => by rw [z1 29 r (by decide)]; exact h29 r hr) (fun b hb => by rw [z1 30 b (by decide)]; exact h30 b hb) hr (by omega) hb
      generalize hv0 : nI (nxB (m.1 6 0) F B D P ph v (8 * r + i) 0) = x0 at *
      generalize hv1 : nI (nxB (m.1 6 0) F B D P ph v (8 * r + i) 1) = x1 at *
      generalize hs : 8 * r + i = s at *
      have hs5 : s < 512 := by omega
      have p0 := q5 Y a2 a1 0 (by decide)
      rw [hv0] at p0
      have b1 : Bx M (uI Y 31 0 (2 * s) x0) := Bx_t a1 (Bx_u (by decide))
      have p1 := q5 (uI Y 31 0 (2 * s) x0) (fun a c z => by rw [uI_o (by omega)]; exact a2 a c z) b1 1 (by decide)
      rw [hv1] at p1
      refine ⟨uI (uI (uI (uI Y 31 0 (2 * s) x0) 31 0 (2 * s + 1) x1) 32 0 s (f0B s)) 33 0 s 0, Bx_t b1 (Bx_t (Bx_u (by decide)) (Bx_t (Bx_u (by decide)) (Bx_u (by decide)))), fun a c z => by rw [uI_o (by omega), uI_o (by omega), uI_o (by omega), uI_o (by omega)]; exact a2 a c z, fun k hk => ?_, fun j hj => ?_, fun K f => ?_⟩
      · rw [uI_o (a := 31) (by decide), uI_o (a := 31) (by decide), uI_n (a := 31) (Or.inr (by omega)), uI_n (a := 31) (Or.inr (by omega)), uI_o (a := 31) (by decide), uI_o (a := 31) (by decide), uI_n (a := 31) (Or.inr (by omega)), uI_n (a := 31) (Or.inr (by omega)), uI_o (a := 32) (by decide), uI_n (a := 32) (Or.inr (by omega)), uI_o (a := 32) (by decide), uI_o (a := 32) (by decide), uI_n (a := 33) (Or.inr (by omega)), uI_o (a := 33) (by decide), uI_o (a := 33) (by decide), uI_o (a := 33) (by decide)]
        exact a3 k hk
      · by_cases c : j = i
        · subst c
          rw [hs, hv0, hv1]
          refine ⟨?_, ?_, ?_, uI_s⟩
          · rw [uI_o (by decide), uI_o (by decide), uI_n (Or.inr (by omega)), uI_s]
          · rw [uI_o (by decide), uI_o (by decide), uI_s]
          · rw [uI_o (by decide), uI_s]
        · have z := a4 j (by omega)
          rw [uI_o (a := 31) (by decide), uI_o (a := 31) (by decide), uI_n (a := 31) (Or.inr (by omega)), uI_n (a := 31) (Or.inr (by omega)), uI_o (a := 31) (by decide), uI_o (a := 31) (by decide), uI_n (a := 31) (Or.inr (by omega)), uI_n (a := 31) (Or.inr (by omega)), uI_o (a := 32) (by decide), uI_n (a := 32) (Or.inr (by omega)), uI_o (a := 32) (by decide), uI_o (a := 32) (by decide), uI_n (a := 33) (Or.inr (by omega)), uI_o (a := 33) (by decide), uI_o (a := 33) (by decide), uI_o (a := 33) (by decide)]
          exact z
      · rw [show f + (i + 1) = f + 1 + i from by omega, a5]
        show bJX1_explore_32 _ _ _ _ (nI i) _ = _
        unfold bJX1_explore_32 JX1_explore_104
        have es : nI r * 8 + nI i = nI s := by rw [show (8 : Int32) = nI 8 from rfl, pk_mul, nI_add, ← hs, Nat.mul_comm]
        have e2 : nI s * 2 = nI (2 * s) := by rw [show (2 : Int32) = nI 2 from rfl, pk_mul, Nat.mul_comm]
        have e21 : nI (2 * s) + 1 = nI (2 * s + 1) := (nI_succ _).symm
        have y5 : Y.1 28 0 5 = nI (2 ^ B - 1) := by rw [a2 28 5 (by decide)]; exact h5
        rw [y5, if_neg (nI_nlt (by omega) (by omega)), lt_s9, es, e2, e21]
        show calI (JX1_placeBehind 0 (nI r) (nI i) (nI 0) Y) _ = _
        rw [p0, calI_s, ast_n (t := 31) (n := 0) (2 * s) rfl (by decide) (show 2 * s < 1024 by omega)]
        show calI (JX1_placeBehind 0 (nI r) (nI i) (nI 1) (uI Y 31 0 (2 * s) x0)) _ = _
        rw [p1, calI_s, ast_n (t := 31) (n := 0) (2 * s + 1) rfl (by decide) (show 2 * s + 1 < 1024 by omega), ast_n (t := 32) (n := 0) s rfl (by decide) (show s < 512 from hs5), ast_n (t := 33) (n := 0) s rfl (by decide) (show s < 512 from hs5), ast_n (t := 32) (n := 0) s rfl (by decide) (show s < 512 from hs5), ast_n (t := 33) (n := 0) s rfl (by decide) (show s < 512 from hs5), ← nI_succ]
        have ef : f0B s = if nI i = 0 then 0 else -1 := by
          unfold f0B
          by_cases c : i = 0
          · rw [if_pos (by omega), c, if_pos (by decide)]
          · rw [if_neg (by omega), if_neg (nI_ne0 (by omega) (by omega))]
        rw [ef]
        by_cases c : nI i = 0
        · rw [if_pos c, if_pos c]
        · rw [if_neg c, if_neg c]
  have rows : ∀ i, i ≤ 64 → ∃ Y, Bx M Y ∧ (∀ a c, a = 28 ∨ a = 29 ∨ a = 30 → Y.1 a 0 c = M.1 a 0 c) ∧ (∀ s, s < 8 * i → s % 8 < 2 ^ B → Y.1 31 0 (2 * s) = nI (nxB (m.1 6 0) F B D P ph v s 0) ∧ Y.1 31 0 (2 * s + 1) = nI (nxB (m.1 6 0) F B D P ph v s 1) ∧ Y.1 32 0 s = f0B s ∧ Y.1 33 0 s = 0) ∧ ∀ f, JX1_explore_23 K 0 (f + i) 0 M = JX1_explore_23 K 0 f (nI i) Y := by
    intro i
    induction i with
    | zero => intro _; exact ⟨M, Bx_r M, fun _ _ _ => rfl, fun s hs => absurd hs (by omega), fun _ => rfl⟩
    | succ i ih =>
      intro hi
      obtain ⟨Y, a1, a2, a3, a4⟩ := ih (by omega)
      obtain ⟨Z, b1, b2, b3, b4, b5⟩ := inner i Y (by omega) a1 a2 (2 ^ B) (Nat.le_refl _)
      refine ⟨Z, b1, b2, fun s hs hv => ?_, fun f => ?_⟩
      · by_cases c : s < 8 * i
        · obtain ⟨c1, c2, c3, c4⟩ := b3 s c
          rw [c1, c2, c3, c4]
          exact a3 s c hv
        · have z := b4 (s % 8) hv
          rw [show 8 * i + s % 8 = s from by omega] at z
          exact z
      · rw [show f + (i + 1) = f + 1 + i from by omega, a4]
        show bJX1_explore_23 _ _ _ (nI i) _ = _
        unfold bJX1_explore_23
        rw [if_neg (n64 (by omega)), show FU = 100000 - 2 ^ B - 1 + 1 + 2 ^ B from by rw [FU_eq]; omega, b5]
        show bJX1_explore_32 _ _ _ _ (nI (2 ^ B)) _ = _
        unfold bJX1_explore_32
        have z5 : Z.1 28 0 5 = nI (2 ^ B - 1) := by rw [b2 28 5 (by decide)]; exact h5
        rw [z5, if_pos (nI_lt (by omega) (by omega)), ← nI_succ]
  obtain ⟨Y, a1, a2, a3, a4⟩ := rows 64 (Nat.le_refl _)
  refine ⟨Y, ?_, a1, by rw [a2 28 5 (by decide)]; exact h5, fun s hs hv => a3 s (by omega) hv⟩
  rw [show FU = 99935 + 1 + 64 from rfl, a4]
  show bJX1_explore_23 _ _ _ (nI 64) _ = _
  unfold bJX1_explore_23
  rw [if_pos (by decide)]
end
