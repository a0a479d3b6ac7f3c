/-! bursts: both calls -/
theorem q8d {s : Nat} {K : Int32 → hR} (hs : s < 512) : jidiv (nI s) 8 K = K (nI (s / 8)) := by
  unfold jidiv
  rw [if_neg (by decide), show (8 : Int32) = nI 8 from rfl, pk_div (by omega) (by decide) (by decide)]
theorem q8r {s : Nat} {K : Int32 → hR} (hs : s < 512) : jirem (nI s) 8 K = K (nI (s % 8)) := by
  unfold jirem
  rw [if_neg (by decide), show (8 : Int32) = nI 8 from rfl, pk_rem (by omega) (by decide) (by decide)]
section
variable {m M : hM} {F B D P W t ph : Nat} {p v : Nat → Int32}
theorem m_2 {K : Int32 → hR} (hl : LL m F B D P W) : ald m 45 0 2 K = K (nI B) := by
  rw [ald_n (i := 2) (t := 45) (n := 0) 2 rfl (by decide) (by decide), hl.2.1.1 2 (by decide), hl.1.2.2.1]
theorem LL_Rx {m2 : hM} (h : Rx m m2) (hl : LL m F B D P W) : LL m2 F B D P W := LL_w (fun a c q => h.1 a 0 c (by omega)) hl
theorem m_next {s b : Nat} (hl : LL M F B D P W) (h : ∀ s, s < 512 → M.1 57 0 s = nI (wrB p F B D P ph v (s / 8) (s % 8))) (hs : s < 512) (hb : b < 2) : JX12_stateNext (nI s) (nI b) M = some (some (.inl (nI (nxB p F B D P ph v s b))), M) := by
  have hB : B ≤ 3 := hl.1.2.2.2.2.2.2.2.1
  have i3 := i_msk B (by omega)
  have hn : nrw (s / 8) b < 64 := Nat.mod_lt _ (by decide)
  have e8 : 8 * nI (nrw (s / 8) b) = nI (8 * nrw (s / 8) b) := pk_mul 8 _
  unfold JX12_stateNext
  rw [m_2 hl, i3.2.1, i3.2.2, lt_s9, q8d hs, i_row (s / 8) (by omega) b hb, lt_s9, q8r hs, e8, nI_add]
  generalize hk : 8 * nrw (s / 8) b + s % 8 = k
  have k5 : k < 512 := by omega
  have kd : k / 8 = nrw (s / 8) b ∧ k % 8 = s % 8 := by omega
  rw [zald_n (t := 57) (n := 0) k rfl (by decide) (show k < 512 from k5), h k k5, kd.1, kd.2]
  have e51 : ∀ w, w < 2 → JX12_stateNext_51 (nI (2 ^ B - 1)) (nI (nrw (s / 8) b)) (nI (s % 8)) (nI w) M = some (some (.inl (nI (8 * nrw (s / 8) b + (2 * (s % 8) + w) % 2 ^ B))), M) := fun w hw => by
    unfold JX12_stateNext_51
    rw [i_flg B (by omega) (s % 8) (by omega) w hw, e8, nI_add]
  unfold nxB
  have w2 := wrB_b (p := p) (F := F) (B := B) (D := D) (P := P) (ph := ph) (v := v) (r := nrw (s / 8) b) (fl := s % 8)
  generalize wrB p F B D P ph v (nrw (s / 8) b) (s % 8) = w at *
  have c : w = 0 ∨ w = 1 := by omega
  rcases c with c | c
  · subst c; rw [if_pos (by decide)]; exact e51 0 (by decide)
  · subst c; rw [if_neg (by decide)]; exact e51 1 (by decide)
theorem m_tab (hl : LL m F B D P W) (hp : ph ≤ 3) (h14 : m.1 50 0 14 = nI ph) : ∃ Y, Rx m Y ∧ RBs (nxB (m.1 6 0) F B D P ph (m.1 50 0)) B Y f0B (fun _ => 0) ∧ ∀ K, JX12_layBursts_11 K (nI (2 ^ B)) FU 0 m = K Y := by
  have key : ∀ i, i ≤ 512 → ∃ Y, Rx m Y ∧ (∀ s, s < i → Y.1 56 0 s = 0 ∧ Y.1 57 0 s = nI (wrB (m.1 6 0) F B D P ph (m.1 50 0) (s / 8) (s % 8))) ∧ ∀ K f, JX12_layBursts_11 K (nI (2 ^ B)) (f + i) 0 m = JX12_layBursts_11 K (nI (2 ^ B)) f (nI i) Y := by
    intro i
    induction i with
    | zero => intro _; exact ⟨m, Rx_r m, fun s hs => absurd hs (by omega), fun _ _ => rfl⟩
    | succ i ih =>
      intro hi
      obtain ⟨Y, a1, a2, a3⟩ := ih (by omega)
      have hi5 : i < 512 := by omega
      have y1 : Rx m (uI Y 56 0 i 0) := Rx_t a1 (Rx_u (by decide))
      have ly := LL_Rx y1 hl
      have e6 : (uI Y 56 0 i 0).1 6 0 = m.1 6 0 := by funext c; exact y1.1 6 0 c (by omega)
      have e5 : (uI Y 56 0 i 0).1 50 0 = m.1 50 0 := by funext c; exact y1.1 50 0 c (by omega)
      have wr := m_weighRow (row := nI (i / 8)) (wr := nI (i % 8)) ly hp
      rw [e6, e5] at wr
      refine ⟨uI (uI Y 56 0 i 0) 57 0 i (nI (wrB (m.1 6 0) F B D P ph (m.1 50 0) (i / 8) (i % 8))), Rx_t y1 (Rx_u (by decide)), fun s hs => ?_, fun K f => ?_⟩
      · by_cases c : s = i
        · subst c
          exact ⟨by rw [uI_o (by decide), uI_s], uI_s⟩
        · have z := a2 s (by omega)
          rw [uI_o (a := 56) (by decide), uI_n (a := 56) (Or.inr c), uI_n (a := 57) (Or.inr c), uI_o (a := 57) (by decide)]
          exact z
      · rw [show f + (i + 1) = f + 1 + i from by omega, a3]
        show bJX12_layBursts_11 _ _ _ (nI i) _ = _
        unfold bJX12_layBursts_11
        have e59 : ∀ b : Int32, JX12_layBursts_59 (fun v2 m => JX12_layBursts_11 K (nI (2 ^ B)) f v2 m) K (nI (2 ^ B)) (nI i) b (nI i) (uI Y 56 0 i 0) = JX12_layBursts_11 K (nI (2 ^ B)) f (nI (i + 1)) (uI (uI Y 56 0 i 0) 57 0 i (if b = (if hbt (nI (i / 8)) (nI D) = 1 then 1 else 0) then 0 else 1)) := fun b => by
          unfold JX12_layBursts_59 JX12_layBursts_80
          rw [q8d hi5, m_3 ly, e_has, calI_s]
          by_cases c : b = (if hbt (nI (i / 8)) (nI D) = 1 then 1 else 0)
          · rw [if_pos c, if_pos c, zast_n (t := 57) (n := 0) i rfl (by decide) (show i < 512 from hi5) (Or.inl rfl), ← nI_succ]
          · rw [if_neg c, if_neg c, zast_n (t := 57) (n := 0) i rfl (by decide) (show i < 512 from hi5) (Or.inr rfl), ← nI_succ]
        have nif : ∀ (q : Prop) [Decidable q], nI (if q then 0 else 1) = if q then 0 else 1 := fun q _ => by
          by_cases c : q
          · rw [if_pos c, if_pos c]; rfl
          · rw [if_neg c, if_neg c]; rfl
        rw [if_neg (show ¬ (512 : Int32) ≤ nI i from nI_ge (b := 512) hi5 (by decide)), zast_n (t := 56) (n := 0) i rfl (by decide) (show i < 512 from hi5) (Or.inl rfl), q8d hi5, ald_n (i := 14) (t := 50) (n := 0) 14 rfl (by decide) (by decide), congrFun e5 14, h14, q8r hi5, wr, calI_s, e59, e59]
        unfold wrB
        rw [nif]
        by_cases c : zRw (m.1 6 0) F B D P ph (m.1 50 0) (nI (i / 8)) (nI (i % 8)) < 0
        · rw [if_pos c, if_pos c]
        · rw [if_neg c, if_neg c]
  obtain ⟨Y, a1, a2, a3⟩ := key 512 (Nat.le_refl _)
  have nx : ∀ M2, Rx Y M2 → (∀ k, M2.1 57 0 k = Y.1 57 0 k) → ∀ s, s < 512 → ∀ b, b < 2 → JX12_stateNext (nI s) (nI b) M2 = some (some (.inl (nI (nxB (m.1 6 0) F B D P ph (m.1 50 0) s b))), M2) := fun M2 r1 r2 s hs b hb => m_next (LL_Rx (Rx_t a1 r1) hl) (fun s hs => by rw [r2]; exact (a2 s hs).2) hs hb
  refine ⟨Y, a1, ⟨⟨fun s hs b hb => nx Y (Rx_r Y) (fun _ => rfl) s hs b hb, fun s hs _ h0 => ?_⟩, nx⟩, fun K => ?_⟩
  · rw [f0B_n h0, (a2 s hs).1, if_pos rfl]
    exact ⟨rfl, fun z => absurd rfl z⟩
  · rw [show FU = 99487 + 1 + 512 from rfl, a3]
    show bJX12_layBursts_11 _ _ _ (nI 512) _ = _
    unfold bJX12_layBursts_11
    rw [if_pos (by decide)]
theorem b_both (h : CX m F B D P W t) : ∃ nx f g N, VG B f g N ∧ N < 999999 ∧ (∃ M, CB nx B M f g ∧ Bx m M ∧ JX1_explore 0 40 m = some (none, M)) ∧ ∀ m', Bx m m' → ∃ M2, RBs nx B M2 f g ∧ Rx m' M2 ∧ JX12_layBursts m' = some (none, M2) := by
  have hB : B ≤ 3 := h.1.1.2.2.2.2.2.2.2.1
  have i3 := i_msk B (by omega)
  have hvw := h.2.2.2.1.1.2.2.1
  have hph := ph_of hvw.2.2.1
  have h7 : m.1 12 40 7 = nI (phN (m.1 50 0)) := by
    rw [st_at h.2.2.2.1 12 7 14 (by decide) rfl (by decide)]
    exact hph.1
  obtain ⟨h14, hp⟩ := hph
  generalize phN (m.1 50 0) = ph at *
  obtain ⟨f, g, N, ⟨v1, v2⟩, a1, a2⟩ := l_outer (nx := nxB (m.1 6 0) F B D P ph (m.1 50 0)) hB (fun s b => ⟨(nxB_b hB).1, (nxB_b hB).2.1⟩) 448 f0B (fun _ => 0) 0 unk_0 VG_0 (by decide)
  refine ⟨nxB (m.1 6 0) F B D P ph (m.1 50 0), f, g, N, v1, v2, ?_, fun m' hm => ?_⟩
  · have x1 : Bx m (uI m 28 0 5 (nI (2 ^ B - 1))) := Bx_u (by decide)
    have q1 := EyC_Bx x1 (CX_ey h)
    obtain ⟨m2, b1, b2, b3, b4, b5⟩ := c_parts q1 hp (by rw [uI_o (by decide)]; exact h7)
    have e6 : (uI m 28 0 5 (nI (2 ^ B - 1))).1 6 0 = m.1 6 0 := by funext c; exact uI_o (by decide)
    rw [e6] at b4
    rw [uI_s] at b3
    obtain ⟨m3, c1, c2, c3⟩ := c_tab (K := fun m15 => JX1_explore_130 (fun m18 => some (none, m18)) FU 1 0 m15) (Ln_Bx b2 q1.1) b3 b4 b5
    obtain ⟨m4, d1, d2, d3⟩ := a1 m3 c3
    refine ⟨m4, d1, Bx_t x1 (Bx_t b2 (Bx_t c2 d2)), ?_⟩
    unfold JX1_explore
    rw [g_back h.1.1, calI_s, i3.1, stI_s, b1, calV_s, c1]
    exact d3 (fun m18 => some (none, m18)) 0 FU (by decide) (by decide)
  · have e6 : m'.1 6 0 = m.1 6 0 := by funext c; exact hm.1 6 0 c (by omega)
    have e5 : m'.1 50 0 = m.1 50 0 := by funext c; exact hm.1 50 0 c (by omega)
    have hl : LL m' F B D P W := LL_same (Same_Bx hm).1 h.1
    obtain ⟨Y, b1, b2, b3⟩ := m_tab hl hp (by rw [congrFun e5 14]; exact h14)
    rw [e6, e5] at b2
    obtain ⟨Z, c1, c2, c3⟩ := a2 Y b2
    refine ⟨Z, c1, Rx_t b1 c2, ?_⟩
    unfold JX12_layBursts
    rw [m_2 hl, i3.2.1, lt_s9, b3]
    exact c3 _ FU (by decide)
end
/-- what is asked of a start -/
def stB (B r : Nat) : Nat := 8 * r + (if B = 0 then 0 else 1)
def fA (B : Nat) (f : Nat → Int32) (r : Nat) : Int32 := f (stB B r)
section
variable {nx : Nat → Nat → Nat} {M : hM} {F B D P W N r : Nat} {f g : Nat → Int32}
theorem stB_b (hB : B ≤ 3) (hr : r < 64) : stB B r < 512 ∧ stB B r % 8 < 2 ^ B ∧ (B = 0 → stB B r % 8 = 0) := by
  unfold stB
  by_cases c : B = 0
  · subst c; rw [if_pos rfl]; refine ⟨by omega, ?_, fun _ => by omega⟩
    rw [show (2 : Nat) ^ 0 = 1 from rfl]; omega
  · rw [if_neg c]
    have e : ∀ B, B < 4 → B ≠ 0 → 2 ≤ 2 ^ B := by decide
    have := e B (by omega) c
    exact ⟨by omega, by omega, fun z => absurd z c⟩
theorem c_start (hB : B ≤ 3) (hr : r < 64) (h : CB nx B M f g) : JX1_startOf (nI r) M = some (some (.inl (nI (stB B r))), M) := by
  unfold JX1_startOf
  have e1 : ∀ r, r < 64 → nI r &&& 63 = nI r := by decide +kernel
  have e2 : ∀ B, B < 4 → (1 : Int32) &&& nI (2 ^ B - 1) = nI (if B = 0 then 0 else 1) := by decide +kernel
  rw [h.1, e1 r hr, e2 B (by omega), show (8 : Int32) = nI 8 from rfl, pk_mul, nI_add, Nat.mul_comm]
  rfl
theorem c_foll (hB : B ≤ 3) (hr : r < 64) (h : CB nx B M f g) : JX1_followers (nI r) M = some (some (.inl (if fA B f r = -1 then -1000000000 else fA B f r)), M) := by
  obtain ⟨s1, s2, _⟩ := stB_b (B := B) hB hr
  have z := h.2 _ s1 s2
  unfold JX1_followers
  rw [c_start hB hr h, calI_s, ald_n (t := 32) (n := 0) (stB B r) rfl (by decide) (show stB B r < 512 from s1), z.2.2.1]
  unfold fA
  by_cases c : f (stB B r) = -1
  · rw [if_pos c, if_pos c]
  · rw [if_neg c, if_neg c]
theorem c_errs (hB : B ≤ 3) (hr : r < 64) (h : CB nx B M f g) : JX1_errors (nI r) M = some (some (.inl (if fA B f r = -1 then -1000000000 else 1 + g (stB B r))), M) := by
  obtain ⟨s1, s2, _⟩ := stB_b (B := B) hB hr
  have z := h.2 _ s1 s2
  unfold JX1_errors
  rw [c_start hB hr h, calI_s, ald_n (t := 32) (n := 0) (stB B r) rfl (by decide) (show stB B r < 512 from s1), z.2.2.1, ald_n (t := 33) (n := 0) (stB B r) rfl (by decide) (show stB B r < 512 from s1), z.2.2.2]
  unfold fA
  by_cases c : f (stB B r) = -1
  · rw [if_pos c, if_pos c]
  · rw [if_neg c, if_neg c]
theorem m_of {w : Nat} (hl : LL M F B D P W) (hr : r < 64) (hw : w < 2) (h : RBs nx B M f g) (hG : VG B f g N) : JX12_burstOf (nI r) (nI w) M = some (some (.inl (if fA B f r = -1 then -1 else if w = 0 then fA B f r else 1 + g (stB B r))), M) := by
  have hB : B ≤ 3 := hl.1.2.2.2.2.2.2.2.1
  obtain ⟨s1, s2, s3⟩ := stB_b (B := B) hB hr
  obtain ⟨g1, g2, g3⟩ := hG _ s1 s2
  have w2 : w = 0 ∨ w = 1 := by omega
  unfold JX12_burstOf fA
  rw [m_2 hl]
  by_cases c : B = 0
  · have z := g3 (s3 c)
    rw [if_pos (show nI B = 0 by rw [c]; rfl), z.1, z.2, if_neg (by decide)]
    rcases w2 with e | e
    · subst e; rw [if_pos rfl]; rfl
    · subst e; rw [if_neg (by decide)]; rfl
  · have e8 : 8 * nI r + 1 = nI (stB B r) := by
      unfold stB
      rw [if_neg c, show 8 * nI r = nI (8 * r) from pk_mul 8 r, ← nI_succ]
    have s8 : stB B r % 8 ≠ 0 := by
      unfold stB
      rw [if_neg c]; omega
    have z := h.1.2 _ s1 s2 s8
    rw [if_neg (nI_ne0 (by omega) (by omega)), e8, lt_s9, zald_n (t := 56) (n := 0) (stB B r) rfl (by decide) (show stB B r < 512 from s1), z.1]
    by_cases d : f (stB B r) = -1
    · rw [if_pos d, if_pos d, if_pos rfl]
    · have y := z.2 d
      rw [if_neg d, if_neg d, if_neg (by decide), ald_n (t := 54) (n := 0) (stB B r) rfl (by decide) (show stB B r < 512 from s1), ald_n (t := 55) (n := 0) (stB B r) rfl (by decide) (show stB B r < 512 from s1), y.1, y.2]
      rcases w2 with e | e
      · subst e; rw [if_pos (by decide), if_pos rfl]
      · subst e; rw [if_neg (by decide), if_neg (by decide)]
end
theorem k_burst (a b : Int32) : Ok1 (JX11_burst a b) (JX12_burst a b) := Ok1_q fun m hm => by
  unfold JX11_burst JX12_burst
  by_cases c0 : m.1 0 0 12 = 0
  · exact ⟨-1, m, m, by rw [if_pos c0], by rw [← hm.1, if_pos c0], Same_r m⟩
  · obtain ⟨F, B, D, P, W, t, h⟩ := Inv_cx hm c0
    have hB : B ≤ 3 := h.1.1.2.2.2.2.2.2.2.1
    rw [if_neg c0, e_within, calI_s]
    have r40 : ¬ m.1 40 0 15 = 0 := by rw [h.2.2.2.2.2.2.2]; decide
    rcases hw a 63 64 (by decide) (by decide) with ⟨r, hr, ea, e1⟩ | ⟨e1, _⟩
    · subst ea
      rw [e1, if_neg (by decide), e_within, calI_s]
      rcases hw b 1 2 (by decide) (by decide) with ⟨w, hw2, eb, e2⟩ | ⟨e2, _⟩
      · subst eb
        obtain ⟨nx, f, g, N, v1, v2, ⟨M, d1, d2, d3⟩, k⟩ := b_both h
        obtain ⟨M2, q1, q2, q3⟩ := k M d2
        have hl : LL M2 F B D P W := LL_Rx q2 (LL_same (Same_Bx d2).1 h.1)
        have sm := Same_t (Same_Bx d2) (Same_Rx q2)
        have r41 : ¬ M.1 40 0 15 = 0 := by rw [d2.1 40 0 15 (by omega)]; exact r40
        rw [e2, if_neg (by decide), d3, calV_s]
        have ok : ∀ x : Int32, (if fA B f r = -1 then (-1000000000 : Int32) else x) = (if fA B f r = -1 then -1000000000 else x) := fun x => rfl
        have ref : ∀ x : Int32, x ≠ -1 ∨ fA B f r = -1 → (if w = 0 then fA B f r else 1 + g (stB B r)) = x → (if M.1 40 0 15 = 0 then some (some (.inl (-1)), M) else calI (JX12_in (nI r) 0 63 M) fun x2 m1 => if x2 = 0 then some (some (.inl (-1)), m1) else calI (JX12_in (nI w) 0 1 m1) fun x4 m3 => if x4 = 0 then some (some (.inl (-1)), m3) else calV (JX12_layBursts m3) fun m5 => calI (JX12_burstOf (nI r) (nI w) m5) fun x7 m6 => if x7 = -1 then some (some (.inl (-1000000000)), m6) else some (some (.inl x7), m6) : hR) = some (some (.inl (if fA B f r = -1 then -1000000000 else x)), M2) := fun x hx ex => by
          rw [if_neg r41, e_in, calI_s, e1, if_neg (by decide), e_in, calI_s, e2, if_neg (by decide), q3, calV_s, m_of hl hr hw2 q1 v1, calI_s, ex]
          by_cases c : fA B f r = -1
          · rw [if_pos c, if_pos c, if_pos rfl]
          · rw [if_neg c, if_neg c, if_neg (hx.resolve_right c)]
        have w2 : w = 0 ∨ w = 1 := by omega
        rcases w2 with e | e
        · subst e
          refine ⟨_, M, M2, by rw [if_pos (by decide), c_foll hB hr d1, calI_s], ref (fA B f r) ?_ (if_pos rfl), sm⟩
          by_cases c : fA B f r = -1
          · exact Or.inr c
          · exact Or.inl c
        · subst e
          refine ⟨_, M, M2, by rw [if_neg (by decide), c_errs hB hr d1, calI_s], ref (1 + g (stB B r)) (Or.inl ?_) (if_neg (by decide)), sm⟩
          obtain ⟨s1, s2, _⟩ := stB_b (B := B) hB hr
          have gb := (v1 _ s1 s2).2.1
          have g1 := gb.1; have g2 := gb.2
          intro z
          have e1 : (1 : Int32).toInt = 1 := by decide
          have y := congrArg Int32.toInt z
          rw [j_add (by rw [e1]; omega) (by rw [e1]; omega), e1, show (-1 : Int32).toInt = -1 from by decide] at y
          omega
      · exact ⟨-1, m, m, by rw [e2, if_pos rfl], by rw [if_neg r40, e_in, calI_s, e1, if_neg (by decide), e_in, calI_s, e2, if_pos rfl], Same_r m⟩
    · exact ⟨-1, m, m, by rw [e1, if_pos rfl], by rw [if_neg r40, e_in, calI_s, e1, if_pos rfl], Same_r m⟩
/-- the longest so far, and the first that never ends -/
def lgF (h : Nat → Int32) : Nat → Nat → Nat := fun i x => if h x = -1 then x else if h i = -1 then i else if h i ≤ h x then x else i
def lg (h : Nat → Int32) : Nat → Nat
  | 0 => 0
  | i + 1 => lgF h i (lg h i)
theorem lg_s (h : Nat → Int32) (i : Nat) : lg h (i + 1) = if h (lg h i) = -1 then lg h i else if h i = -1 then i else if h i ≤ h (lg h i) then lg h i else i := rfl
theorem lg_le (h : Nat → Int32) : ∀ i, lg h i ≤ i := by
  intro i
  induction i with
  | zero => exact Nat.le_refl _
  | succ i ih =>
    rw [lg_s]
    repeat' split
    all_goals omega
theorem lg_stick (h : Nat → Int32) {i x : Nat} (e : lg h i = x) (hx : h x = -1) : ∀ k, lg h (i + k) = x := by
  intro k
  induction k with
  | zero => exact e
  | succ k ih =>
    show lg h (i + k + 1) = x
    rw [lg_s, ih, if_pos hx]
theorem k_bursts : Ok1 JX11_bursts JX12_bursts := Ok1_q fun m hm => by
  unfold JX11_bursts JX12_bursts
  by_cases c0 : m.1 0 0 12 = 0
  · exact ⟨-1, m, m, by rw [if_pos c0], by rw [← hm.1, if_pos c0], Same_r m⟩
  · obtain ⟨F, B, D, P, W, t, h⟩ := Inv_cx hm c0
    have hB : B ≤ 3 := h.1.1.2.2.2.2.2.2.2.1
    have r40 : ¬ m.1 40 0 15 = 0 := by rw [h.2.2.2.2.2.2.2]; decide
    obtain ⟨nx, f, g, N, v1, v2, ⟨M, d1, d2, d3⟩, k⟩ := b_both h
    obtain ⟨M2, q1, q2, q3⟩ := k M d2
    have hl : LL M2 F B D P W := LL_Rx q2 (LL_same (Same_Bx d2).1 h.1)
    have sm := Same_t (Same_Bx d2) (Same_Rx q2)
    have r41 : ¬ M.1 40 0 15 = 0 := by rw [d2.1 40 0 15 (by omega)]; exact r40
    have fl := fun r (hr : r < 64) => c_foll hB hr d1
    have mo := fun r (hr : r < 64) => m_of (w := 0) hl hr (by decide) q1 v1
    have hb : ∀ r, r < 64 → fA B f r = -1 ∨ bw (fA B f r) 0 N := fun r hr => (v1 _ (stB_b hB hr).1 (stB_b hB hr).2.1).1
    generalize fA B f = hh at *
    have big : ∀ r, r < 64 → (hh r = -1 ↔ (if hh r = -1 then (-1000000000 : Int32) else hh r) = -1000000000) := fun r hr => by
      refine ⟨fun z => if_pos z, fun z => ?_⟩
      by_cases c : hh r = -1
      · exact c
      · rw [if_neg c] at z
        have := ((hb r hr).resolve_left c).1
        rw [z, show (-1000000000 : Int32).toInt = -1000000000 from by decide] at this
        omega
    have lb : ∀ i, i < 64 → lg hh i < 64 := fun i hi => Nat.lt_of_le_of_lt (lg_le hh i) hi
    have cls : ∀ n i, i + n = 64 → (hh (lg hh i) = -1 → i = 0) → ∀ F, JX1_longestRow_4 (fun v2 m5 => some (some (.inl v2), m5)) (fun v1 m6 => some (some (.inl v1), m6)) (F + n + 1) (nI (lg hh i)) (nI i) M = some (some (.inl (nI (lg hh 64))), M) := by
      intro n
      induction n with
      | zero =>
        intro i hi _ F
        have : i = 64 := by omega
        subst this
        show bJX1_longestRow_4 _ _ _ _ _ _ = _
        unfold bJX1_longestRow_4
        rw [if_pos (by decide)]
      | succ n ih =>
        intro i hi h0 F
        have i6 : i < 64 := by omega
        show bJX1_longestRow_4 _ _ _ _ _ _ = _
        unfold bJX1_longestRow_4 JX1_longestRow_35
        rw [if_neg (n64 i6), fl i i6, calI_s]
        have ls := lg_s hh i
        have nxt : ∀ x, lg hh (i + 1) = x → (hh x ≠ -1) → JX1_longestRow_4 (fun v2 m5 => some (some (.inl v2), m5)) (fun v1 m6 => some (some (.inl v1), m6)) (F + n + 1) (nI x) (nI (i + 1)) M = some (some (.inl (nI (lg hh 64))), M) := fun x e1 e2 => by
          rw [← e1]
          exact ih (i + 1) (by omega) (fun z => absurd z (by rw [e1]; exact e2)) F
        by_cases c : hh i = -1
        · rw [if_pos ((big i i6).mp c)]
          have li : lg hh (i + 1) = i := by
            rw [ls]
            by_cases d : hh (lg hh i) = -1
            · have := h0 d; subst this; rw [if_pos d]; rfl
            · rw [if_neg d, if_pos c]
          have st := lg_stick hh li c n
          rw [show i + 1 + n = 64 from by omega] at st
          rw [st]
        · rw [if_neg (fun z => c ((big i i6).mpr z)), fl _ (lb i i6), calI_s, if_neg c]
          by_cases d : hh (lg hh i) = -1
          · have z := h0 d
            subst z
            exact absurd d c
          · rw [if_neg d] at ls
            rw [if_neg c] at ls
            rw [if_neg d, ← nI_succ]
            by_cases e : hh i ≤ hh (lg hh i)
            · rw [if_pos e] at ls
              rw [if_pos e]
              exact nxt _ ls d
            · rw [if_neg e] at ls
              rw [if_neg e]
              exact nxt _ ls c
    have rf : ∀ n i, i + n = 64 → ∀ F, JX12_bursts_17 (fun v1 m6 => some (some (.inl v1), m6)) (F + n + 1) (nI (lg hh i)) (nI i) M2 = some (some (.inl (nI (lg hh 64))), M2) := by
      intro n
      induction n with
      | zero =>
        intro i hi F
        have : i = 64 := by omega
        subst this
        show bJX12_bursts_17 _ _ _ _ _ = _
        unfold bJX12_bursts_17
        rw [if_pos (by decide)]
      | succ n ih =>
        intro i hi F
        have i6 : i < 64 := by omega
        show bJX12_bursts_17 _ _ _ _ _ = _
        unfold bJX12_bursts_17 JX12_bursts_59 JX12_bursts_55 JX12_bursts_60
        have m1 := mo i i6
        have m2 := mo _ (lb i i6)
        rw [if_pos rfl] at m1 m2
        have hm1 : ∀ x : Int32, (if x = -1 then (-1 : Int32) else x) = x := fun x => by
          by_cases c : x = -1
          · rw [if_pos c, c]
          · rw [if_neg c]
        rw [hm1] at m1 m2
        rw [if_neg (n64 i6)]
        show calI (JX12_burstOf (nI i) (nI 0) M2) (fun x3 m2 => calI (JX12_burstOf (nI (lg hh i)) (nI 0) m2) _) = _
        rw [m1, calI_s, m2, calI_s, ← nI_succ]
        have ls := lg_s hh i
        have nxt : ∀ x, lg hh (i + 1) = x → JX12_bursts_17 (fun v1 m6 => some (some (.inl v1), m6)) (F + n + 1) (nI x) (nI (i + 1)) M2 = some (some (.inl (nI (lg hh 64))), M2) := fun x e1 => by
          rw [← e1]
          exact ih (i + 1) (by omega) F
        by_cases d : hh (lg hh i) = -1
        · rw [if_pos d] at ls
          rw [if_pos d]
          exact nxt _ ls
        · rw [if_neg d] at ls
          rw [if_neg d]
          by_cases c : hh i = -1
          · rw [if_pos c] at ls
            rw [if_pos c]
            exact nxt _ ls
          · rw [if_neg c] at ls
            rw [if_neg c]
            by_cases e : hh i ≤ hh (lg hh i)
            · rw [if_pos e] at ls
              rw [if_pos e]
              exact nxt _ ls
            · rw [if_neg e] at ls
              rw [if_neg e]
              exact nxt _ ls
    have l1 : lg hh 1 = 0 := by
      have := lg_le hh 1
      rw [lg_s]
      show (if hh 0 = -1 then 0 else if hh 0 = -1 then 0 else if hh 0 ≤ hh 0 then 0 else 0) = 0
      repeat' split
      all_goals rfl
    refine ⟨nI (lg hh 64), M, M2, ?_, ?_, sm⟩
    · rw [if_neg c0, d3, calV_s]
      unfold JX1_longestRow
      have z := cls 64 0 rfl (fun _ => rfl) 99935
      rw [show (99935 + 64 + 1 : Nat) = FU from rfl] at z
      refine Eq.trans (congrArg (fun x => calI x _) z) ?_
      rw [calI_s]
    · rw [if_neg r41, q3, calV_s]
      have z := rf 63 1 rfl 99936
      rw [l1] at z
      exact z
