/-! bursts: the passes of both -/
def VG (B : Nat) (f g : Nat → Int32) (N : Nat) : Prop := ∀ s, s < 512 → s % 8 < 2 ^ B → (f s = -1 ∨ bw (f s) 0 N) ∧ bw (g s) 0 N ∧ (s % 8 = 0 → f s = 0 ∧ g s = 0)
def CB (nx : Nat → Nat → Nat) (B : Nat) (M : hM) (f g : Nat → Int32) : Prop := M.1 28 0 5 = nI (2 ^ B - 1) ∧ ∀ s, s < 512 → s % 8 < 2 ^ B → M.1 31 0 (2 * s) = nI (nx s 0) ∧ M.1 31 0 (2 * s + 1) = nI (nx s 1) ∧ M.1 32 0 s = f s ∧ M.1 33 0 s = g s
def RB2 (nx : Nat → Nat → Nat) (B : Nat) (M : hM) (f g : Nat → Int32) : Prop := (∀ s, s < 512 → ∀ b, b < 2 → JX12_stateNext (nI s) (nI b) M = some (some (.inl (nI (nx s b))), M)) ∧ ∀ s, s < 512 → s % 8 < 2 ^ B → s % 8 ≠ 0 → M.1 56 0 s = (if f s = -1 then 0 else 1) ∧ (f s ≠ -1 → M.1 54 0 s = f s ∧ M.1 55 0 s = g s)
def Rx (m m2 : hM) : Prop := (∀ a b c, a < 54 ∨ 57 < a → m2.1 a b c = m.1 a b c) ∧ m2.2 = m.2
theorem Rx_r (m : hM) : Rx m m := ⟨fun _ _ _ _ => rfl, rfl⟩
theorem Rx_t {a b c : hM} (h : Rx a b) (h2 : Rx b c) : Rx a c := ⟨fun x y z q => (h2.1 x y z q).trans (h.1 x y z q), h2.2.trans h.2⟩
theorem Rx_u {m : hM} {t k : Nat} {x : Int32} (h : 54 ≤ t ∧ t ≤ 57) : Rx m (uI m t 0 k x) := ⟨fun a b c q => uI_o (by omega), rfl⟩
theorem Same_Rx {m m2 : hM} (h : Rx m m2) : Same m m2 := ⟨⟨fun a b c q => h.1 a b c (by unfold nsA at q; omega), fun n _ => by rw [h.2]⟩, fun a b c q => h.1 a b c (by unfold nsC at q; omega), fun a b c q => h.1 a b c (by unfold nsT at q; omega), fun a b c q => h.1 a b c (by unfold nsR at q; omega), fun a b c q => h.1 a b c (by unfold nsH at q; omega)⟩
def unk (f : Nat → Int32) : Nat → Nat
  | 0 => 0
  | n + 1 => unk f n + (if f n = -1 then 1 else 0)
theorem unk_u {f : Nat → Int32} {s : Nat} {x : Int32} (h : f s = -1) (hx : x ≠ -1) : ∀ n, unk (upd f s x) n + (if s < n then 1 else 0) = unk f n := by
  intro n
  induction n with
  | zero => rw [if_neg (by omega)]; rfl
  | succ n ih =>
    show unk (upd f s x) n + (if upd f s x n = -1 then 1 else 0) + (if s < n + 1 then 1 else 0) = unk f n + (if f n = -1 then 1 else 0)
    by_cases c : n = s
    · subst c
      have e1 : (if n < n + 1 then 1 else 0) = 1 := if_pos (by omega)
      have e2 : (if n < n then 1 else 0) = 0 := if_neg (by omega)
      rw [e2] at ih
      rw [pk_us, if_neg hx, e1, if_pos h]
      omega
    · rw [pk_un c]
      by_cases c2 : s < n
      · have e1 : (if s < n + 1 then 1 else 0) = 1 := if_pos (by omega)
        have e2 : (if s < n then 1 else 0) = 1 := if_pos c2
        rw [e2] at ih
        rw [e1]
        omega
      · have e1 : (if s < n + 1 then 1 else 0) = 0 := if_neg (by omega)
        have e2 : (if s < n then 1 else 0) = 0 := if_neg c2
        rw [e2] at ih
        rw [e1]
        omega
theorem ne_m1 {a : Int32} {N : Int} (h : bw a 0 N) : a ≠ -1 := fun e => by
  have := h.1
  rw [e, show (-1 : Int32).toInt = -1 from by decide] at this
  omega
section
variable {nx : Nat → Nat → Nat} {B : Nat} {f g : Nat → Int32} {N : Nat}
/-- whether a place becomes known -/
def bC (nx : Nat → Nat → Nat) (B : Nat) (f : Nat → Int32) (s : Nat) : Prop := s % 8 < 2 ^ B ∧ f s = -1 ∧ f (nx s 0) ≠ -1 ∧ f (nx s 1) ≠ -1
def fN (nx : Nat → Nat → Nat) (f : Nat → Int32) (s : Nat) : Nat → Int32 := upd f s (1 + hmx (f (nx s 0)) (f (nx s 1)))
def gN (nx : Nat → Nat → Nat) (g : Nat → Int32) (s : Nat) : Nat → Int32 := upd g s (hmx (g (nx s 0) + nI (nx s 0 % 2)) (g (nx s 1) + nI (nx s 1 % 2)))
theorem i_and1 {a : Nat} (h : a < 512) : nI a &&& 1 = nI (a % 2) := pk_andN (by omega) 1 (by decide)
theorem i_and7 {a : Nat} (h : a < 512) : nI a &&& 7 = nI (a % 8) := pk_andN (by omega) 3 (by decide)
theorem c_spr {M : hM} {s : Nat} {fd : Int32} (hB : B ≤ 3) (hs : s < 512) (hnx : ∀ s b, nx s b < 512 ∧ nx s b % 8 < 2 ^ B) (h : CB nx B M f g) : (bC nx B f s → ∃ M2, CB nx B M2 (fN nx f s) (gN nx g s) ∧ Bx M M2 ∧ ∀ K F, JX1_spreadBack_4 K (F + 1) fd (nI s) M = JX1_spreadBack_4 K F 1 (nI (s + 1)) M2) ∧ (¬ bC nx B f s → ∀ K F, JX1_spreadBack_4 K (F + 1) fd (nI s) M = JX1_spreadBack_4 K F fd (nI (s + 1)) M) := by
  have p2 := p2B hB
  have c512 : ¬ (512 : Int32) ≤ nI s := nI_ge (a := s) (b := 512) hs (by decide)
  have e2 : nI s * 2 = nI (2 * s) := by rw [show (2 : Int32) = nI 2 from rfl, pk_mul, Nat.mul_comm]
  have e21 : nI (2 * s) + 1 = nI (2 * s + 1) := (nI_succ _).symm
  obtain ⟨a1, a2⟩ := hnx s 0
  obtain ⟨b1, b2⟩ := hnx s 1
  have step : ∀ K F, s % 8 < 2 ^ B → JX1_spreadBack_4 K (F + 1) fd (nI s) M = if f s = -1 then (if f (nx s 0) = -1 then JX1_spreadBack_4 K F fd (nI (s + 1)) M else if f (nx s 1) = -1 then JX1_spreadBack_4 K F fd (nI (s + 1)) M else JX1_spreadBack_4 K F 1 (nI (s + 1)) (uI (uI M 32 0 s (1 + hmx (f (nx s 0)) (f (nx s 1)))) 33 0 s (hmx (g (nx s 0) + nI (nx s 0 % 2)) (g (nx s 1) + nI (nx s 1 % 2))))) else JX1_spreadBack_4 K F fd (nI (s + 1)) M := fun K F hv => by
    obtain ⟨h1, h2, h3, h4⟩ := h.2 s hs hv
    obtain ⟨_, _, ha3, ha4⟩ := h.2 (nx s 0) a1 a2
    obtain ⟨_, _, hb3, hb4⟩ := h.2 (nx s 1) b1 b2
    show bJX1_spreadBack_4 _ _ _ _ _ = _
    unfold bJX1_spreadBack_4 JX1_spreadBack_127
    rw [if_neg c512, h.1, i_and7 hs, if_neg (nI_nlt (by omega) (by omega)), ald_n (t := 32) (n := 0) s rfl (by decide) (show s < 512 from hs), h3, e2, e21, ald_n (t := 31) (n := 0) (2 * s) rfl (by decide) (show 2 * s < 1024 by omega), ald_n (t := 31) (n := 0) (2 * s + 1) rfl (by decide) (show 2 * s + 1 < 1024 by omega), h1, h2, ← nI_succ]
    by_cases c0 : f s = -1
    · rw [if_pos c0, if_pos c0, o_known a1, calI_s, ha3]
      by_cases c1 : f (nx s 0) = -1
      · rw [if_pos c1, if_pos c1, if_pos rfl]
      · rw [if_neg c1, if_neg c1, if_neg (show ¬ (1 : Int32) = 0 by decide), o_known b1, calI_s, hb3]
        by_cases c2 : f (nx s 1) = -1
        · rw [if_pos c2, if_pos c2, if_pos rfl]
        · rw [if_neg c2, if_neg c2, if_neg (show ¬ (1 : Int32) = 0 by decide), ald_n (t := 32) (n := 0) (nx s 0) rfl (by decide) (show nx s 0 < 512 from a1), ha3, ald_n (t := 32) (n := 0) (nx s 1) rfl (by decide) (show nx s 1 < 512 from b1), hb3, e_max, calI_s, ast_n (t := 32) (n := 0) s rfl (by decide) (show s < 512 from hs), ald_n (t := 33) (n := 0) (nx s 0) rfl (by decide) (show nx s 0 < 512 from a1), ald_n (t := 33) (n := 0) (nx s 1) rfl (by decide) (show nx s 1 < 512 from b1), uI_o (by decide), uI_o (by decide), ha4, hb4, i_and1 a1, i_and1 b1, e_max, calI_s, ast_n (t := 33) (n := 0) s rfl (by decide) (show s < 512 from hs)]
    · rw [if_neg c0, if_neg c0]
  refine ⟨fun c => ⟨uI (uI M 32 0 s (1 + hmx (f (nx s 0)) (f (nx s 1)))) 33 0 s (hmx (g (nx s 0) + nI (nx s 0 % 2)) (g (nx s 1) + nI (nx s 1 % 2))), ⟨?_, fun t ht hv => ?_⟩, Bx_t (Bx_u (by decide)) (Bx_u (by decide)), fun K F => ?_⟩, fun c K F => ?_⟩
  · rw [uI_o (by decide), uI_o (by decide)]; exact h.1
  · obtain ⟨h1, h2, h3, h4⟩ := h.2 t ht hv
    rw [uI_o (a := 31) (by decide), uI_o (a := 31) (by decide), uI_o (a := 31) (by decide), uI_o (a := 31) (by decide), uI_o (a := 32) (by decide)]
    refine ⟨h1, h2, ?_, ?_⟩
    · unfold fN
      by_cases e : t = s
      · subst e; rw [uI_s, pk_us]
      · rw [uI_n (Or.inr e), pk_un e]; exact h3
    · unfold gN
      by_cases e : t = s
      · subst e; rw [uI_s, pk_us]
      · rw [uI_n (Or.inr e), uI_n (Or.inr e), pk_un e]; exact h4
  · rw [step K F c.1, if_pos c.2.1, if_neg c.2.2.1, if_neg c.2.2.2]
  · by_cases hv : s % 8 < 2 ^ B
    · rw [step K F hv]
      by_cases c0 : f s = -1
      · rw [if_pos c0]
        by_cases c1 : f (nx s 0) = -1
        · rw [if_pos c1]
        · rw [if_neg c1]
          by_cases c2 : f (nx s 1) = -1
          · rw [if_pos c2]
          · exact absurd ⟨hv, c0, c1, c2⟩ c
      · rw [if_neg c0]
    · show bJX1_spreadBack_4 _ _ _ _ _ = _
      unfold bJX1_spreadBack_4 JX1_spreadBack_127
      rw [if_neg c512, h.1, i_and7 hs, if_pos (nI_lt (by omega) (by omega)), ← nI_succ]
/-- one bit of a try -/
theorem m_tb {M : hM} {s b : Nat} {v2 v3 : Int32} (hB : B ≤ 3) (hs : s < 512) (hb : b < 2) (hnx : ∀ s b, nx s b < 512 ∧ nx s b % 8 < 2 ^ B) (h : RB2 nx B M f g) (hG : VG B f g N) : (f (nx s b) = -1 → ∀ K40 K103 F, JX12_tryState_7 K40 K103 (nI s) (F + 1) v2 v3 (nI b) M = K40 M) ∧ (f (nx s b) ≠ -1 → ∀ K40 K103 F, JX12_tryState_7 K40 K103 (nI s) (F + 1) v2 v3 (nI b) M = JX12_tryState_7 K40 K103 (nI s) F (hmx v2 (f (nx s b) + 1)) (hmx v3 (nI (nx s b % 2) + g (nx s b))) (nI (b + 1)) M) := by
  obtain ⟨a1, a2⟩ := hnx s b
  have hn := h.1 s hs b hb
  obtain ⟨g1, g2, g3⟩ := hG (nx s b) a1 a2
  have c2 : ¬ (2 : Int32) ≤ nI b := nI_ge (a := b) (b := 2) hb (by decide)
  have rem : ∀ K : Int32 → hR, jirem (nI (nx s b)) 8 K = K (nI (nx s b % 8)) := fun K => by
    unfold jirem
    rw [if_neg (by decide), show (8 : Int32) = nI 8 from rfl, pk_rem (by omega) (by decide) (by decide)]
  have go42 : f (nx s b) ≠ -1 → ∀ K7 K40 K103, JX12_tryState_42 K7 K40 K103 (nI s) v2 v3 (nI b) (nI (nx s b)) M = K7 (hmx v2 (f (nx s b) + 1)) (hmx v3 (nI (nx s b % 2) + g (nx s b))) (nI (b + 1)) M := fun hk K7 K40 K103 => by
    unfold JX12_tryState_42 JX12_tryState_64 JX12_tryState_92
    rw [rem, i_and1 a1, ← nI_succ]
    by_cases c : nx s b % 8 = 0
    · have z := g3 c
      rw [c, if_pos (by decide), e_max, calI_s, rem, c, if_pos (by decide), e_max, calI_s, z.1, z.2]
      rfl
    · have k := h.2 (nx s b) a1 a2 c
      have k2 := k.2 hk
      rw [if_neg (nI_ne0 (by omega) (by omega)), ald_n (t := 54) (n := 0) (nx s b) rfl (by decide) (show nx s b < 512 from a1), k2.1, e_max, calI_s, rem, if_neg (nI_ne0 (by omega) (by omega)), ald_n (t := 55) (n := 0) (nx s b) rfl (by decide) (show nx s b < 512 from a1), k2.2, e_max, calI_s]
  refine ⟨fun hk K40 K103 F => ?_, fun hk K40 K103 F => ?_⟩
  · have c : nx s b % 8 ≠ 0 := fun z => by
      rw [(g3 z).1] at hk
      exact absurd hk (by decide)
    have k := h.2 (nx s b) a1 a2 c
    show bJX12_tryState_7 _ _ _ _ _ _ _ _ = _
    unfold bJX12_tryState_7
    rw [if_neg c2, hn, calI_s, rem, if_neg (nI_ne0 (by omega) (by omega)), zald_n (t := 56) (n := 0) (nx s b) rfl (by decide) (show nx s b < 512 from a1), k.1, if_pos hk, if_pos rfl]
  · show bJX12_tryState_7 _ _ _ _ _ _ _ _ = _
    unfold bJX12_tryState_7
    rw [if_neg c2, hn, calI_s, rem, go42 hk]
    by_cases c : nx s b % 8 = 0
    · rw [c, if_pos (by decide)]
    · have k := h.2 (nx s b) a1 a2 c
      rw [if_neg (nI_ne0 (by omega) (by omega)), zald_n (t := 56) (n := 0) (nx s b) rfl (by decide) (show nx s b < 512 from a1), k.1, if_neg hk, if_neg (by decide)]
theorem hmx_id {a b : Int32} {N : Nat} (hN : N < 1000000) (h1 : bw a 0 N) (h2 : bw b 0 N) : hmx (hmx 0 (a + 1)) (b + 1) = 1 + hmx a b := by
  have a1 := h1.1; have a2 := h1.2; have b1 := h2.1; have b2 := h2.2
  have e1 : (1 : Int32).toInt = 1 := by decide
  have p : (a + 1).toInt = a.toInt + 1 := by rw [j_add (by rw [e1]; omega) (by rw [e1]; omega), e1]
  have q : (b + 1).toInt = b.toInt + 1 := by rw [j_add (by rw [e1]; omega) (by rw [e1]; omega), e1]
  have r := hmx_t a b
  apply Int32.toInt_inj.mp
  rw [hmx_t, hmx_t, p, q, Int32.toInt_zero, j_add (by rw [e1, r]; omega) (by rw [e1, r]; omega), e1, r]
  omega
theorem hmx_id2 {a b : Int32} {N : Nat} (h1 : bw a 0 N) (h2 : bw b 0 N) : hmx (hmx 0 a) b = hmx a b := by
  have a1 := h1.1
  apply Int32.toInt_inj.mp
  rw [hmx_t, hmx_t, hmx_t, Int32.toInt_zero]
  omega
theorem ga_b {a : Int32} {s : Nat} (h : bw a 0 N) (hN : N < 1000000) : bw (a + nI (s % 2)) 0 (N + 1 : Nat) := by
  have h1 := h.1; have h2 := h.2
  have e : (nI (s % 2)).toInt = ((s % 2 : Nat) : Int) := nI_toInt (by omega)
  have p : (a + nI (s % 2)).toInt = a.toInt + ((s % 2 : Nat) : Int) := by rw [j_add (by rw [e]; omega) (by rw [e]; omega), e]
  exact ⟨by rw [p]; omega, by rw [p]; omega⟩
theorem VG_w {N2 : Nat} (h : VG B f g N) (hN : N ≤ N2) : VG B f g N2 := fun s h1 h2 => by
  obtain ⟨a, b, c⟩ := h s h1 h2
  refine ⟨a.imp id (fun z => ⟨z.1, by have := z.2; omega⟩), ⟨b.1, by have := b.2; omega⟩, c⟩
theorem VG_n {s : Nat} (hN : N < 1000000) (hs : s < 512) (hnx : ∀ s b, nx s b < 512 ∧ nx s b % 8 < 2 ^ B) (hG : VG B f g N) (c : bC nx B f s) : VG B (fN nx f s) (gN nx g s) (N + 1) := by
  obtain ⟨c1, c2, c3, c4⟩ := c
  obtain ⟨a1, a2, _⟩ := hG (nx s 0) (hnx s 0).1 (hnx s 0).2
  obtain ⟨b1, b2, _⟩ := hG (nx s 1) (hnx s 1).1 (hnx s 1).2
  have fa := a1.resolve_left c3
  have fb := b1.resolve_left c4
  intro t ht hv
  obtain ⟨t1, t2, t3⟩ := VG_w hG (show N ≤ N + 1 by omega) t ht hv
  unfold fN gN
  by_cases e : t = s
  · subst e
    rw [pk_us, pk_us]
    have e1 : (1 : Int32).toInt = 1 := by decide
    have r := hmx_t (f (nx t 0)) (f (nx t 1))
    have x1 := fa.1; have x2 := fa.2; have y1 := fb.1; have y2 := fb.2
    have q : (1 + hmx (f (nx t 0)) (f (nx t 1))).toInt = 1 + max (f (nx t 0)).toInt (f (nx t 1)).toInt := by rw [j_add (by rw [e1, r]; omega) (by rw [e1, r]; omega), e1, r]
    refine ⟨Or.inr ⟨by rw [q]; omega, by rw [q]; omega⟩, ?_, fun z => ?_⟩
    · have u1 := ga_b (s := nx t 0) a2 hN
      have u2 := ga_b (s := nx t 1) b2 hN
      refine ⟨by rw [hmx_t]; have := u1.1; omega, by rw [hmx_t]; have := u1.2; have := u2.2; omega⟩
    · have := (t3 z).1
      rw [c2] at this
      exact absurd this (by decide)
  · rw [pk_un e, pk_un e]
    exact ⟨t1, t2, t3⟩
theorem m_spr {M : hM} {s : Nat} {fd : Int32} (hN : N < 999999) (hB : B ≤ 3) (hs : s < 512) (hnx : ∀ s b, nx s b < 512 ∧ nx s b % 8 < 2 ^ B) (h : RB2 nx B M f g) (hG : VG B f g N) (hst : ∀ M2, Rx M M2 → (∀ k, M2.1 57 0 k = M.1 57 0 k) → ∀ s, s < 512 → ∀ b, b < 2 → JX12_stateNext (nI s) (nI b) M2 = some (some (.inl (nI (nx s b))), M2)) : (bC nx B f s → ∃ M2, RB2 nx B M2 (fN nx f s) (gN nx g s) ∧ Rx M M2 ∧ (∀ k, M2.1 57 0 k = M.1 57 0 k) ∧ ∀ K F, JX12_layBursts_97 K (nI (2 ^ B)) (F + 1) fd (nI s) M = JX12_layBursts_97 K (nI (2 ^ B)) F 1 (nI (s + 1)) M2) ∧ (¬ bC nx B f s → ∀ K F, JX12_layBursts_97 K (nI (2 ^ B)) (F + 1) fd (nI s) M = JX12_layBursts_97 K (nI (2 ^ B)) F fd (nI (s + 1)) M) := by
  have p2 := p2B hB
  have c512 : ¬ (512 : Int32) ≤ nI s := nI_ge (a := s) (b := 512) hs (by decide)
  have rem : ∀ K : Int32 → hR, jirem (nI s) 8 K = K (nI (s % 8)) := fun K => by
    unfold jirem
    rw [if_neg (by decide), show (8 : Int32) = nI 8 from rfl, pk_rem (by omega) (by decide) (by decide)]
  obtain ⟨a1, a2, _⟩ := hG (nx s 0) (hnx s 0).1 (hnx s 0).2
  obtain ⟨b1, b2, _⟩ := hG (nx s 1) (hnx s 1).1 (hnx s 1).2
  have t0 := m_tb (v2 := 0) (v3 := 0) hB hs (b := 0) (by decide) hnx h hG
  have t1 := fun v2 v3 => m_tb (v2 := v2) (v3 := v3) hB hs (b := 1) (by decide) hnx h hG
  -- a try
  have tryY : f (nx s 0) ≠ -1 → f (nx s 1) ≠ -1 → JX12_tryState (nI s) M = some (some (.inl 1), uI (uI (uI M 56 0 s 1) 54 0 s (1 + hmx (f (nx s 0)) (f (nx s 1)))) 55 0 s (hmx (g (nx s 0) + nI (nx s 0 % 2)) (g (nx s 1) + nI (nx s 1 % 2)))) := fun h0 h1 => by
    unfold JX12_tryState
    rw [show FU = 99997 + 1 + 1 + 1 from rfl]
    refine (t0.2 h0 _ _ _).trans ?_
    refine ((t1 _ _).2 h1 _ _ _).trans ?_
    show bJX12_tryState_7 _ _ _ _ _ _ (nI 2) _ = _
    unfold bJX12_tryState_7
    rw [if_pos (by decide)]
    show zast M 56 0 (nI s) 1 _ = _
    rw [zast_n (t := 56) (n := 0) s rfl (by decide) (show s < 512 from hs) (Or.inr rfl), ast_n (t := 54) (n := 0) s rfl (by decide) (show s < 512 from hs), ast_n (t := 55) (n := 0) s rfl (by decide) (show s < 512 from hs), jretZ_1, hmx_id (by omega) (a1.resolve_left h0) (b1.resolve_left h1), Int32.add_comm (nI (nx s 0 % 2)), Int32.add_comm (nI (nx s 1 % 2)), hmx_id2 (ga_b a2 (by omega)) (ga_b b2 (by omega))]
  have tryN : ¬ (f (nx s 0) ≠ -1 ∧ f (nx s 1) ≠ -1) → JX12_tryState (nI s) M = some (some (.inl 0), M) := fun hn => by
    unfold JX12_tryState
    rw [show FU = 99997 + 1 + 1 + 1 from rfl]
    by_cases h0 : f (nx s 0) = -1
    · exact (t0.1 h0 _ _ _).trans jretZ_0
    · refine (t0.2 h0 _ _ _).trans ?_
      by_cases h1 : f (nx s 1) = -1
      · exact ((t1 _ _).1 h1 _ _ _).trans jretZ_0
      · exact absurd ⟨h0, h1⟩ hn
  refine ⟨fun c => ?_, fun c K F => ?_⟩
  · obtain ⟨c1, c2, c3, c4⟩ := c
    have c8 : s % 8 ≠ 0 := fun z => by
      have := ((hG s hs c1).2.2 z).1
      rw [c2] at this
      exact absurd this (by decide)
    have k := h.2 s hs c1 c8
    rw [if_pos c2] at k
    have rx : Rx M (uI (uI (uI M 56 0 s 1) 54 0 s (1 + hmx (f (nx s 0)) (f (nx s 1)))) 55 0 s (hmx (g (nx s 0) + nI (nx s 0 % 2)) (g (nx s 1) + nI (nx s 1 % 2)))) := Rx_t (Rx_t (Rx_u (by decide)) (Rx_u (by decide))) (Rx_u (by decide))
    have r57 : ∀ k, (uI (uI (uI M 56 0 s 1) 54 0 s (1 + hmx (f (nx s 0)) (f (nx s 1)))) 55 0 s (hmx (g (nx s 0) + nI (nx s 0 % 2)) (g (nx s 1) + nI (nx s 1 % 2)))).1 57 0 k = M.1 57 0 k := fun k => by rw [uI_o (by decide), uI_o (by decide), uI_o (by decide)]
    refine ⟨uI (uI (uI M 56 0 s 1) 54 0 s (1 + hmx (f (nx s 0)) (f (nx s 1)))) 55 0 s (hmx (g (nx s 0) + nI (nx s 0 % 2)) (g (nx s 1) + nI (nx s 1 % 2))), ⟨hst _ rx r57, fun t ht hv h8 => ?_⟩, rx, r57, fun K F => ?_⟩
    · have gn := VG_n (by omega) hs hnx hG ⟨c1, c2, c3, c4⟩ t ht hv
      unfold fN gN
      by_cases e : t = s
      · subst e
        have nm : ¬ (1 + hmx (f (nx t 0)) (f (nx t 1))) = -1 := by
          rcases gn.1 with z | z
          · unfold fN at z
            rw [pk_us] at z
            have q1 := (a1.resolve_left c3).1
            have q2 := (b1.resolve_left c4).1
            have q3 := (a1.resolve_left c3).2
            have q4 := (b1.resolve_left c4).2
            have e1 : (1 : Int32).toInt = 1 := by decide
            have r := hmx_t (f (nx t 0)) (f (nx t 1))
            intro _
            have y := congrArg Int32.toInt z
            rw [j_add (by rw [e1, r]; omega) (by rw [e1, r]; omega), e1, r, show (-1 : Int32).toInt = -1 from by decide] at y
            omega
          · unfold fN at z
            rw [pk_us] at z
            exact ne_m1 z
        rw [pk_us, pk_us, if_neg nm]
        exact ⟨by rw [uI_o (by decide), uI_o (by decide), uI_s], fun _ => ⟨by rw [uI_o (by decide), uI_s], uI_s⟩⟩
      · rw [pk_un e, pk_un e, uI_n (Or.inr e), uI_n (Or.inr e), uI_n (Or.inr e), uI_n (Or.inr e), uI_n (Or.inr e), uI_n (Or.inr e), uI_n (Or.inr e), uI_n (Or.inr e), uI_n (Or.inr e)]
        exact h.2 t ht hv h8
    · show bJX12_layBursts_97 _ _ _ _ _ _ = _
      unfold bJX12_layBursts_97 JX12_layBursts_138
      rw [if_neg c512, rem, if_neg (nI_nle (by omega) (by omega)), rem, if_neg (nI_ge c1 (by omega)), zald_n (t := 56) (n := 0) s rfl (by decide) (show s < 512 from hs), k.1, if_pos rfl, tryY c3 c4, calI_s, if_neg (by decide), ← nI_succ]
  · show bJX12_layBursts_97 _ _ _ _ _ _ = _
    unfold bJX12_layBursts_97 JX12_layBursts_138
    rw [if_neg c512, rem, ← nI_succ]
    by_cases c8 : s % 8 = 0
    · rw [c8, if_pos (by decide)]
    · rw [if_neg (nI_nle (by omega) (by omega)), rem]
      by_cases cv : s % 8 < 2 ^ B
      · have k := h.2 s hs cv c8
        rw [if_neg (nI_ge cv (by omega)), zald_n (t := 56) (n := 0) s rfl (by decide) (show s < 512 from hs), k.1]
        by_cases c0 : f s = -1
        · rw [if_pos c0, if_pos rfl, tryN (fun z => c ⟨cv, c0, z.1, z.2⟩), calI_s, if_pos rfl]
        · rw [if_neg c0, if_neg (by decide)]
      · rw [if_pos (nI_le (by omega) (by omega))]
end
