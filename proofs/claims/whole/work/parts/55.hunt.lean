/-! the phase is hunted -/
def nb1 (H : Nat → Int32) (a : Nat) : Nat := if a = 0 then a else if H (a - 1) ≤ H a then a else a - 1
def nb (H : Nat → Int32) (a : Nat) : Nat := if 3 ≤ a then nb1 H a else if H (a + 1) ≤ H (nb1 H a) then nb1 H a else a + 1
theorem nle_lt {a b : Int32} (h : ¬ a ≤ b) : b.toInt < a.toInt := by
  rw [Int32.le_iff_toInt_le] at h
  omega
theorem nb1_s (H : Nat → Int32) (a : Nat) : nb1 H a = a ∨ (nb1 H a + 1 = a ∧ (H a).toInt < (H (nb1 H a)).toInt) := by
  unfold nb1
  by_cases c : a = 0
  · rw [if_pos c]; exact Or.inl rfl
  · rw [if_neg c]
    by_cases c2 : H (a - 1) ≤ H a
    · rw [if_pos c2]; exact Or.inl rfl
    · rw [if_neg c2]; exact Or.inr ⟨by omega, nle_lt c2⟩
theorem nb_s (H : Nat → Int32) (a : Nat) (ha : a ≤ 3) : nb H a ≤ 3 ∧ (nb H a = a ∨ ((nb H a = a + 1 ∨ nb H a + 1 = a) ∧ (H a).toInt < (H (nb H a)).toInt)) := by
  have q := nb1_s H a
  unfold nb
  by_cases c : 3 ≤ a
  · rw [if_pos c]
    refine ⟨by omega, ?_⟩
    rcases q with q | q
    · exact Or.inl q
    · exact Or.inr ⟨Or.inr q.1, q.2⟩
  · rw [if_neg c]
    by_cases c2 : H (a + 1) ≤ H (nb1 H a)
    · rw [if_pos c2]
      refine ⟨by omega, ?_⟩
      rcases q with q | q
      · exact Or.inl q
      · exact Or.inr ⟨Or.inr q.1, q.2⟩
    · rw [if_neg c2]
      refine ⟨by omega, Or.inr ⟨Or.inl rfl, ?_⟩⟩
      have z := nle_lt c2
      rcases q with q | q
      · rw [q] at z; exact z
      · omega
def nbk (H : Nat → Int32) (a : Nat) (k : Nat) : Nat := fr (fun _ x => nb H x) a k
theorem nbk_3 (H : Nat → Int32) (a : Nat) (k : Nat) (ha : a ≤ 3) : nbk H a k ≤ 3 := by
  induction k with
  | zero => exact ha
  | succ k ih => exact (nb_s H _ ih).1
theorem nbk_c {H G : Nat → Int32} (a : Nat) (h : ∀ i, i ≤ 3 → H i = G i) (ha : a ≤ 3) : ∀ k, nbk H a k = nbk G a k := by
  intro k
  induction k with
  | zero =>
    show a = a
    rfl
  | succ k ih =>
    show nb H (nbk H a k) = nb G (nbk G a k)
    rw [← ih]
    have q := nbk_3 H a k ha
    generalize nbk H a k = x at q
    have e1 : nb1 H x = nb1 G x := by
      unfold nb1
      rw [h x q, h (x - 1) (by omega)]
    have e2 := nb1_s G x
    unfold nb
    rw [e1, h (nb1 G x) (by omega)]
    by_cases c : 3 ≤ x
    · rw [if_pos c, if_pos c]
    · rw [if_neg c, if_neg c, h (x + 1) (by omega)]
theorem nb_fix (H : Nat → Int32) (a : Nat) (ha : a ≤ 3) : nb H (nbk H a 3) = nbk H a 3 := by
  have q0 := nb_s H a ha
  have q1 := nb_s H (nb H a) q0.1
  have q2 := nb_s H (nb H (nb H a)) q1.1
  have q3 := nb_s H (nb H (nb H (nb H a))) q2.1
  show nb H (nb H (nb H (nb H a))) = nb H (nb H (nb H a))
  by_cases c0 : nb H a = a
  · rw [c0, c0, c0, c0]
  · by_cases c1 : nb H (nb H a) = nb H a
    · rw [c1, c1, c1]
    · by_cases c2 : nb H (nb H (nb H a)) = nb H (nb H a)
      · rw [c2, c2]
      · by_cases c3 : nb H (nb H (nb H (nb H a))) = nb H (nb H (nb H a))
        · exact c3
        · exfalso
          have r0 := q0.2.resolve_left c0
          have r1 := q1.2.resolve_left c1
          have r2 := q2.2.resolve_left c2
          have r3 := q3.2.resolve_left c3
          have d1 : nb H (nb H a) ≠ a := fun e => by rw [e] at r1; omega
          have d2 : nb H (nb H (nb H a)) ≠ nb H a := fun e => by rw [e] at r2; omega
          have d3 : nb H (nb H (nb H (nb H a))) ≠ nb H (nb H a) := fun e => by rw [e] at r3; omega
          omega
theorem nbk_4 (H : Nat → Int32) (a : Nat) (ha : a ≤ 3) : nbk H a 4 = nbk H a 3 := nb_fix H a ha
section
variable {m : hM} {n F B D P W : Nat}
theorem n4 {i : Nat} (h : i < 4) : ¬ (4 : Int32) ≤ nI i := nI_ge (a := i) (b := 4) h (by decide)
theorem c_higher {H : Nat → Int32} {a : Nat} (ha : a ≤ 3) (hh : ∀ i, i < 4 → m.1 27 0 i = H i) : JX3_higherNeighbour (nI a) m = some (some (.inl (nI (nb H a))), m) := by
  have r : ∀ (i : Nat) (k : Int32 → hR), i < 4 → ald m 27 0 (nI i) k = k (H i) := fun i k hi => by rw [ald_n (t := 27) (n := 0) i rfl (by decide) (show i < 4 from hi), hh i hi]
  have e38 : ∀ b, b < 4 → JX3_higherNeighbour_38 (nI a) (nI b) m = some (some (.inl (if 3 ≤ a then nI b else if H (a + 1) ≤ H b then nI b else nI (a + 1))), m) := by
    intro b hb
    unfold JX3_higherNeighbour_38
    by_cases c : 3 ≤ a
    · rw [if_pos (show (3 : Int32) ≤ nI a from nI_le (a := 3) c (by omega)), if_pos c]
    · rw [if_neg (show ¬ (3 : Int32) ≤ nI a from nI_ge (b := 3) (by omega) (by decide)), if_neg c, ← nI_succ, r (a + 1) _ (by omega), r b _ hb]
      by_cases c2 : H (a + 1) ≤ H b
      · rw [if_pos c2, if_pos c2]
      · rw [if_neg c2, if_neg c2, lt_s9]
  have w : hwi (nI a) 0 3 = 1 := by
    have e : ∀ a, a < 4 → hwi (nI a) 0 3 = 1 := by decide +kernel
    exact e a (by omega)
  have f : nI (nb H a) = if 3 ≤ a then nI (nb1 H a) else if H (a + 1) ≤ H (nb1 H a) then nI (nb1 H a) else nI (a + 1) := by
    unfold nb
    by_cases c : 3 ≤ a
    · rw [if_pos c, if_pos c]
    · rw [if_neg c, if_neg c]
      by_cases c2 : H (a + 1) ≤ H (nb1 H a)
      · rw [if_pos c2, if_pos c2]
      · rw [if_neg c2, if_neg c2]
  unfold JX3_higherNeighbour
  rw [e_within, calI_s, w, if_neg (by decide), f]
  by_cases c : a = 0
  · subst c
    rw [if_pos (by decide), e38 0 (by decide)]
    rfl
  · obtain ⟨b, rfl⟩ : ∃ b, a = b + 1 := ⟨a - 1, by omega⟩
    rw [if_neg (nI_nle (by omega) (by omega)), nI_pred, r b _ (by omega), r (b + 1) _ (by omega)]
    have en : nb1 H (b + 1) = if H b ≤ H (b + 1) then b + 1 else b := by
      unfold nb1
      rw [if_neg (by omega)]
      rfl
    rw [en]
    by_cases c2 : H b ≤ H (b + 1)
    · rw [if_pos c2, if_pos c2, e38 (b + 1) (by omega)]
    · rw [if_neg c2, if_neg c2, lt_s9, e38 b (by omega)]
/-- heights of all phases -/
def hts (p : Nat → Int32) (F B D P : Nat) (v : Nat → Int32) : Nat → Int32 := fun ph => hgt D (fun r => zRw p F B D P ph v (nI r) 0)
/-- alike but for what the Eye has -/
def Ex (m m2 : hM) : Prop := (∀ a b c, a < 24 ∨ 27 < a → m2.1 a b c = m.1 a b c) ∧ m2.2 = m.2
theorem Ex_r : Ex m m := ⟨fun _ _ _ _ => rfl, rfl⟩
theorem Ex_t {a b c : hM} (h : Ex a b) (h2 : Ex b c) : Ex a c := ⟨fun x y z q => (h2.1 x y z q).trans (h.1 x y z q), h2.2.trans h.2⟩
theorem Ex_rst {u : Nat → Int32} {lo N : Nat} : Ex m (rst m 25 0 u lo N) := ⟨fun a b c q => rst_o (Or.inl (by omega)), rfl⟩
theorem Ex_uI {t k : Nat} {x : Int32} (h : 24 ≤ t ∧ t ≤ 27) : Ex m (uI m t 0 k x) := ⟨fun a b c q => uI_n (Or.inl (by omega)), rfl⟩
theorem Ln_Ex {m2 : hM} (h : Ex m m2) (hl : Ln m 0 F B D P W) : Ln m2 0 F B D P W := Ln_w (fun c => h.1 5 0 c (by omega)) hl
/-- what the Eye rests on -/
def EyC (m : hM) (n F B D P W : Nat) (v : Nat → Int32) : Prop := Ln m 0 F B D P W ∧ (∀ j, j < P → bw (m.1 6 0 j) (-60) 60) ∧ (∀ i, i < 6 → m.1 13 n i = v i) ∧ ∀ i, i < 6 → bw (v i) (-255) 255
theorem EyC_Ex {m2 : hM} {v : Nat → Int32} (h : Ex m m2) (q : EyC m n F B D P W v) : EyC m2 n F B D P W v := by
  refine ⟨Ln_Ex h q.1, fun j hj => ?_, fun i hi => ?_, q.2.2.2⟩
  · rw [h.1 6 0 j (by omega)]; exact q.2.1 j hj
  · rw [h.1 13 n i (by omega)]; exact q.2.2.1 i hi
theorem EyC_b {v : Nat → Int32} (q : EyC m n F B D P W v) (ph : Nat) (row wr : Int32) : ab (zRw (m.1 6 0) F B D P ph v row wr) 1000000 := by
  obtain ⟨⟨l0, l1, l2, l3, l4, f1, f2, b2, d2, p2, w2⟩, q2, q3, q4⟩ := q
  exact ab_w (zRw_b q2 p2 q4 f2 b2) (by decide)
theorem c_lookH {v : Nat → Int32} {ph : Nat} (q : EyC m n F B D P W v) (hp : ph ≤ 3) : ∃ m1, JX3_look 0 n (nI ph) m = some (none, m1) ∧ Ex m m1 ∧ (∀ r, r < 64 → m1.1 25 0 r = zRw (m.1 6 0) F B D P ph v (nI r) 0) ∧ ∀ a b c, a ≠ 25 → m1.1 a b c = m.1 a b c := by
  refine ⟨_, c_look q.1 hp q.2.2.1, Ex_rst, fun r hr => ?_, fun a b c h => rst_o (Or.inl h)⟩
  rw [rst_r, if_pos (by omega)]
  rfl
theorem c_hunted {v : Nat → Int32} {a : Nat} (q : EyC m n F B D P W v) (ha : m.1 12 n 7 = nI a) (ha2 : a ≤ 3) : ∃ m1, JX3_hunted 0 n m = some (some (.inl (nI (nbk (hts (m.1 6 0) F B D P v) a 3))), m1) ∧ Ex m m1 := by
  have key : ∀ i, i ≤ 4 → ∃ m1, Ex m m1 ∧ (∀ j, j < i → m1.1 27 0 j = hts (m.1 6 0) F B D P v j) ∧ ∀ K f, JX3_hunted_2 K 0 n (f + i) 0 m = JX3_hunted_2 K 0 n f (nI i) m1 := by
    intro i
    induction i with
    | zero => intro _; exact ⟨m, Ex_r, fun j hj => absurd hj (by omega), fun _ _ => rfl⟩
    | succ i ih =>
      intro hi
      obtain ⟨m1, e1, e2, e3⟩ := ih (by omega)
      have q1 := EyC_Ex e1 q
      have e6 : m1.1 6 0 = m.1 6 0 := by funext c; exact e1.1 6 0 c (by omega)
      obtain ⟨m2, a1, a2, a3, a4⟩ := c_lookH (ph := i) q1 (by omega)
      rw [e6] at a3
      have hg := c_height (m := m2) (Ln_Ex a2 q1.1) a3 (fun r hr => by rw [← e6]; exact EyC_b q1 _ _ _)
      refine ⟨uI m2 27 0 i (hts (m.1 6 0) F B D P v i), Ex_t (Ex_t e1 a2) (Ex_uI (by decide)), fun j hj => ?_, fun K f => ?_⟩
      · by_cases c : j = i
        · subst c; exact uI_s
        · rw [uI_n (Or.inr c), a4 27 0 j (by decide), e2 j (by omega)]
      · rw [show f + (i + 1) = f + 1 + i from by omega, e3]
        show bJX3_hunted_2 _ _ _ _ (nI i) _ = _
        unfold bJX3_hunted_2
        rw [if_neg (n4 (by omega)), a1, calV_s, hg, calI_s, ast_n (t := 27) (n := 0) i rfl (by decide) (show i < 4 by omega), ← nI_succ]
        rfl
  obtain ⟨m1, e1, e2, e3⟩ := key 4 (Nat.le_refl _)
  refine ⟨m1, ?_, e1⟩
  unfold JX3_hunted
  rw [show FU = 99995 + 1 + 4 from rfl, e3]
  show bJX3_hunted_2 _ _ _ _ (nI 4) _ = _
  unfold bJX3_hunted_2
  rw [if_pos (by decide)]
  show lt (m1.1 12 n 7) _ = _
  rw [lt_s9, e1.1 12 n 7 (by omega), ha, ← nbk_4 _ a ha2]
  refine Eq.trans (lpF (fun f (x : Int32 × Int32) => JX3_hunted_39 (fun v3 m9 => some (some (.inl v3), m9)) f x.1 x.2 m1) (fun i => (nI (nbk (hts (m.1 6 0) F B D P v) a i), nI i)) 4 (by omega) (by
    intro i f hi
    show bJX3_hunted_39 _ _ _ (nI i) _ = _
    unfold bJX3_hunted_39
    rw [if_neg (n4 hi), c_higher (nbk_3 _ _ _ ha2) e2, calI_s, ← nI_succ]
    rfl)) ?_
  show bJX3_hunted_39 _ _ _ (nI 4) _ = _
  unfold bJX3_hunted_39
  rw [if_pos (by decide)]
/-! the reference -/
def bet (H : Nat → Int32) (a : Nat) : Int32 := if nb H a = a then -1 else nI (nb H a)
theorem zR_HL {h l : Int32} {ph : Nat} : zR (HL m h l) F B D P ph = zR m F B D P ph := by
  unfold zR
  have e6 : (HL m h l).1 6 0 = m.1 6 0 := by funext c; exact HL_o (Or.inl (by decide))
  have e50 : (HL m h l).1 50 0 = m.1 50 0 := by funext c; exact HL_o (Or.inl (by decide))
  rw [e6, e50]
theorem HL_self : HL m (m.1 40 0 25) (m.1 40 0 26) = m := by
  unfold HL
  apply Prod.ext
  · funext a b c
    show (if a = 40 ∧ b = 0 ∧ c = 26 then m.1 40 0 26 else if a = 40 ∧ b = 0 ∧ c = 25 then m.1 40 0 25 else m.1 a b c) = m.1 a b c
    by_cases q : a = 40 ∧ b = 0 ∧ c = 26
    · rw [if_pos q, q.1, q.2.1, q.2.2]
    · rw [if_neg q]
      by_cases q2 : a = 40 ∧ b = 0 ∧ c = 25
      · rw [if_pos q2, q2.1, q2.2.1, q2.2.2]
      · rw [if_neg q2]
  · rfl
theorem m_htA {ph : Nat} (hl : LL m F B D P W) (hp : ph ≤ 3) (h l : Int32) : ∃ h2 l2, JX12_heightOf (nI ph) (HL m h l) = some (some (.inl (hts (m.1 6 0) F B D P (m.1 50 0) ph)), HL m h2 l2) := by
  have e := m_heightOf (LL_HL (h := h) (l := l) hl) hp
  rw [HL_HL, zR_HL] at e
  exact ⟨_, _, e⟩
/-- one try of the better phase's loop -/
theorem m_betI {a p : Nat} {best most : Int32} {K : Int32 → hM → hR} {f : Nat} (hl : LL m F B D P W) (hp : p ≤ 3) (hpa : ¬ nI a + 1 < nI p) (h l : Int32) : ∃ h2 l2, JX12_better_13 K (nI a) (f + 1) best most (nI p) (HL m h l) = JX12_better_13 K (nI a) f (if hts (m.1 6 0) F B D P (m.1 50 0) p ≤ most then best else nI p) (if hts (m.1 6 0) F B D P (m.1 50 0) p ≤ most then most else hts (m.1 6 0) F B D P (m.1 50 0) p) (nI p + 2) (HL m h2 l2) := by
  obtain ⟨h2, l2, e⟩ := m_htA hl hp h l
  obtain ⟨h3, l3, e2⟩ := m_htA hl hp h2 l2
  have w : hwi (nI p) 0 3 = 1 := by
    have e : ∀ a, a < 4 → hwi (nI a) 0 3 = 1 := by decide +kernel
    exact e p (by omega)
  by_cases c : hts (m.1 6 0) F B D P (m.1 50 0) p ≤ most
  · refine ⟨h2, l2, ?_⟩
    show bJX12_better_13 _ _ _ _ _ _ _ = _
    unfold bJX12_better_13 JX12_better_51
    rw [if_neg hpa, e_in, calI_s, w, if_neg (by decide), e, calI_s, if_pos c, if_pos c, if_pos c]
  · refine ⟨h3, l3, ?_⟩
    show bJX12_better_13 _ _ _ _ _ _ _ = _
    unfold bJX12_better_13 JX12_better_51
    rw [if_neg hpa, e_in, calI_s, w, if_neg (by decide), e, calI_s, if_neg c, e2, calI_s, if_neg c, if_neg c]
theorem m_betO {a : Nat} {best most p : Int32} {K : Int32 → hM → hR} {f : Nat} {M : hM} (hpa : ¬ nI a + 1 < p) (w : hwi p 0 3 = 0) : JX12_better_13 K (nI a) (f + 1) best most p M = JX12_better_13 K (nI a) f best most (p + 2) M := by
  show bJX12_better_13 _ _ _ _ _ _ _ = _
  unfold bJX12_better_13 JX12_better_51
  rw [if_neg hpa, e_in, calI_s, w, if_pos rfl]
theorem m_betE {a : Nat} {best most p : Int32} {K : Int32 → hM → hR} {f : Nat} {M : hM} (hpa : nI a + 1 < p) : JX12_better_13 K (nI a) (f + 1) best most p M = K best M := by
  show bJX12_better_13 _ _ _ _ _ _ _ = _
  unfold bJX12_better_13
  rw [if_pos hpa]
theorem m_better {a : Nat} (hl : LL m F B D P W) (ha : a ≤ 3) (h l : Int32) : ∃ h2 l2, JX12_better (nI a) (HL m h l) = some (some (.inl (bet (hts (m.1 6 0) F B D P (m.1 50 0)) a)), HL m h2 l2) := by
  obtain ⟨h1, l1, e1⟩ := m_htA hl ha h l
  unfold JX12_better
  rw [e1, calI_s, lt_s9, show FU = 99996 + 1 + 1 + 1 + 1 from rfl]
  generalize hH : hts (m.1 6 0) F B D P (m.1 50 0) = H
  by_cases c0 : a = 0
  · subst c0
    rw [show nI 0 - 1 = (-1 : Int32) from by decide, m_betO (by decide) (by decide), show (-1 : Int32) + 2 = nI 1 from by decide]
    obtain ⟨h2, l2, e2⟩ := m_betI (K := fun v2 m10 => some (some (.inl v2), m10)) (f := 99996 + 1 + 1) (a := 0) (p := 1) (best := -1) (most := H 0) hl (by decide) (by decide) h1 l1
    refine ⟨h2, l2, ?_⟩
    rw [e2, m_betE (by decide), hH]
    have en0 : nb H 0 = if H 1 ≤ H 0 then 0 else 1 := by
      unfold nb nb1
      rw [if_neg (by decide), if_pos rfl]
    unfold bet
    rw [en0]
    by_cases c : H 1 ≤ H 0
    · rw [if_pos c, if_pos c, if_pos rfl]
    · rw [if_neg c, if_neg c, if_neg (by decide)]
  · obtain ⟨b, rfl⟩ : ∃ b, a = b + 1 := ⟨a - 1, by omega⟩
    have eb : nI b + 2 = nI (b + 1 + 1) := by rw [show (2 : Int32) = nI 2 from rfl, nI_add]
    obtain ⟨h2, l2, e2⟩ := m_betI (K := fun v2 m10 => some (some (.inl v2), m10)) (f := 99996 + 1 + 1 + 1) (a := b + 1) (p := b) (best := -1) (most := H (b + 1)) hl (by omega) (by rw [← nI_succ]; exact nI_nlt (by omega) (by omega)) h1 l1
    rw [nI_pred, e2, hH, eb]
    have en : nb1 H (b + 1) = if H b ≤ H (b + 1) then b + 1 else b := by
      unfold nb1
      rw [if_neg (by omega)]
      rfl
    have ebst : (if H b ≤ H (b + 1) then (-1 : Int32) else nI b) = if nb1 H (b + 1) = b + 1 then -1 else nI (nb1 H (b + 1)) := by
      rw [en]
      by_cases c : H b ≤ H (b + 1)
      · rw [if_pos c, if_pos c, if_pos rfl]
      · rw [if_neg c, if_neg c, if_neg (by omega)]
    have emst : (if H b ≤ H (b + 1) then H (b + 1) else H b) = H (nb1 H (b + 1)) := by
      rw [en]
      by_cases c : H b ≤ H (b + 1)
      · rw [if_pos c, if_pos c]
      · rw [if_neg c, if_neg c]
    rw [ebst, emst]
    by_cases c3 : 3 ≤ b + 1
    · have e3 : b = 2 := by omega
      subst e3
      refine ⟨h2, l2, ?_⟩
      rw [m_betO (by decide) (by decide), m_betE (by decide)]
      have en2 : nb H (2 + 1) = nb1 H (2 + 1) := if_pos (by decide)
      unfold bet
      rw [en2]
    · obtain ⟨h3, l3, e3⟩ := m_betI (K := fun v2 m10 => some (some (.inl v2), m10)) (f := 99996 + 1 + 1) (a := b + 1) (p := b + 1 + 1) (best := if nb1 H (b + 1) = b + 1 then -1 else nI (nb1 H (b + 1))) (most := H (nb1 H (b + 1))) hl (by omega) (by rw [← nI_succ]; exact nI_nlt (by omega) (by omega)) h2 l2
      refine ⟨h3, l3, ?_⟩
      rw [e3, hH, m_betE (by rw [← nI_succ, show (2 : Int32) = nI 2 from rfl, nI_add]; exact nI_lt (by omega) (by omega))]
      have en3 : nb H (b + 1) = if H (b + 1 + 1) ≤ H (nb1 H (b + 1)) then nb1 H (b + 1) else b + 1 + 1 := if_neg c3
      unfold bet
      rw [en3]
      by_cases c : H (b + 1 + 1) ≤ H (nb1 H (b + 1))
      · rw [if_pos c, if_pos c]
      · rw [if_neg c, if_neg c, if_neg (by omega)]
end
section
variable {m : hM} {F B D P W : Nat}
theorem Nm_HL {v : Nat → Int32} {h l : Int32} : Nm (HL m h l) v = HL (Nm m v) h l := by
  unfold HL
  rw [Nm_uo (by decide), Nm_uo (by decide)]
theorem LL_Nm {v : Nat → Int32} (hl : LL m F B D P W) : LL (Nm m v) F B D P W := LL_w (fun a c q => Nm_o (by omega)) hl
theorem Nm_50 {v : Nat → Int32} : (Nm m v).1 50 0 = v := by funext i; exact Nm_r
theorem hts_c {p p2 : Nat → Int32} {v v2 : Nat → Int32} (hF : F ≤ 3) (hB : B ≤ 3) (hp : p = p2) (hv : ∀ i, i < 6 → v i = v2 i) : hts p F B D P v = hts p2 F B D P v2 := by
  funext ph
  unfold hts
  exact hgt_c (fun r _ => zRw_c hF hB hp hv)
theorem m_betN {v : Nat → Int32} {a : Nat} (hl : LL m F B D P W) (ha : a ≤ 3) (h l : Int32) : ∃ h2 l2, JX12_better (nI a) (HL (Nm m v) h l) = some (some (.inl (bet (hts (m.1 6 0) F B D P v) a)), HL (Nm m v) h2 l2) := by
  have e := m_better (m := Nm m v) (LL_Nm hl) ha h l
  have e6 : (Nm m v).1 6 0 = m.1 6 0 := by funext c; exact Nm_o (by decide)
  rw [Nm_50, e6] at e
  exact e
theorem bet_m {H : Nat → Int32} {a : Nat} (ha : a ≤ 3) : (bet H a = -1) ↔ nb H a = a := by
  have q := (nb_s H a ha).1
  unfold bet
  by_cases c : nb H a = a
  · rw [if_pos c]; exact ⟨fun _ => c, fun _ => rfl⟩
  · rw [if_neg c]
    refine ⟨fun e => ?_, fun e => absurd e c⟩
    have z : ∀ j, j < 4 → ¬ nI j = -1 := by decide +kernel
    exact absurd e (z _ (by omega))
theorem m_seekL {H : Nat → Int32} (hl : LL m F B D P W) {K : hM → hR} : ∀ k a f v h l, a ≤ 3 → nb H (nbk H a k) = nbk H a k → k < f → v 14 = nI a → H = hts (m.1 6 0) F B D P v → ∃ h2 l2, JX12_seekNow_12 K f (bet H a) (HL (Nm m v) h l) = K (HL (Nm m (upd v 14 (nI (nbk H a k)))) h2 l2) := by
  have hF : F ≤ 3 := hl.1.2.2.2.2.2.2.1
  have hB : B ≤ 3 := hl.1.2.2.2.2.2.2.2.1
  have stop : ∀ (a k f : Nat) (v : Nat → Int32) (h l : Int32), a ≤ 3 → 0 < f → nb H a = a → v 14 = nI a → JX12_seekNow_12 K f (bet H a) (HL (Nm m v) h l) = K (HL (Nm m (upd v 14 (nI (nbk H a k)))) h l) := by
    intro a k f v h l ha hf e hv
    obtain ⟨f, rfl⟩ : ∃ g, f = g + 1 := ⟨f - 1, by omega⟩
    show bJX12_seekNow_12 _ _ _ _ = _
    unfold bJX12_seekNow_12
    have ek : nbk H a k = a := by
      clear hf
      induction k with
      | zero => rfl
      | succ k ih => show nb H (nbk H a k) = a; rw [ih, e]
    rw [if_pos ((bet_m ha).mpr e), ek, ← hv]
    have : upd v 14 (v 14) = v := by
      funext i
      unfold upd
      by_cases c : i = 14
      · rw [if_pos c, c]
      · rw [if_neg c]
    rw [this]
  intro k
  induction k with
  | zero =>
    intro a f v h l ha e hf hv _
    exact ⟨h, l, stop a 0 f v h l ha hf e hv⟩
  | succ k ih =>
    intro a f v h l ha e hf hv hH
    by_cases c : nb H a = a
    · exact ⟨h, l, stop a (k + 1) f v h l ha (by omega) c hv⟩
    · have q := nb_s H a ha
      have eb : ∀ k, nbk H (nb H a) k = nbk H a (k + 1) := by
        intro k
        induction k with
        | zero => rfl
        | succ k ih => show nb H (nbk H (nb H a) k) = nb H (nbk H a (k + 1)); rw [ih]
      obtain ⟨f, rfl⟩ : ∃ g, f = g + 1 := ⟨f - 1, by omega⟩
      have hH2 : H = hts (m.1 6 0) F B D P (upd v 14 (nI (nb H a))) := by
        refine hH.trans (hts_c hF hB rfl (fun i hi => (pk_un (by omega)).symm))
      obtain ⟨h1, l1, e1⟩ := m_betN (v := upd v 14 (nI (nb H a))) hl q.1 h l
      rw [← hH2] at e1
      obtain ⟨h2, l2, e2⟩ := ih (nb H a) f (upd v 14 (nI (nb H a))) h1 l1 q.1 (by rw [eb]; exact e) (by omega) pk_us hH2
      refine ⟨h2, l2, ?_⟩
      show bJX12_seekNow_12 _ _ _ _ = _
      unfold bJX12_seekNow_12
      have ebv : bet H a = nI (nb H a) := if_neg c
      rw [if_neg (fun z => c ((bet_m ha).mp z)), ebv, ← Nm_HL, NW14, Nm_HL, e1, calI_s]
      show JX12_seekNow_12 K f (bet H (nb H a)) _ = _
      rw [e2, eb, upd_2]
theorem m_seekNow {v : Nat → Int32} {a : Nat} (hl : LL m F B D P W) (ha : a ≤ 3) (hv : v 14 = nI a) (h l : Int32) : ∃ h2 l2, JX12_seekNow (HL (Nm m v) h l) = some (none, HL (Nm m (upd v 14 (nI (nbk (hts (m.1 6 0) F B D P v) a 3)))) h2 l2) := by
  unfold JX12_seekNow
  obtain ⟨h1, l1, e1⟩ := m_betN (v := v) hl ha h l
  obtain ⟨h2, l2, e2⟩ := m_seekL (H := hts (m.1 6 0) F B D P v) (K := fun m7 => some (none, m7)) hl 3 a FU v h1 l1 ha (nb_fix _ a ha) (by rw [FU_eq]; decide) hv rfl
  refine ⟨h2, l2, ?_⟩
  rw [← Nm_HL, NR14, Nm_HL, hv, e1, calI_s]
  exact e2
end
