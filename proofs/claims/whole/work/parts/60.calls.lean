/-! calls that are acts -/
def aC (k a b d : Int32) (m : hM) : hR := calI (JX11_isRefused k a b m) fun x2 m1 => if x2 = 0 then (calI (JX11_act k a b m1) fun x4 m3 => some (some (.inl x4), m3)) else (some (some (.inl d), m1))
theorem aC_no {m m1 : hM} {k a b d : Int32} {j : Nat} (hr : JX11_refusal 40 k a b m = some (some (.inl (nI j)), m1)) (hj : j < 4) : aC k a b d m = some (some (.inl d), uI m1 37 0 j (m1.1 37 0 j + 1)) := by
  unfold aC
  rw [c_ref1 hr hj, calI_s, if_neg (by decide)]
theorem aC_yes {m m1 m2 : hM} {k a b d r : Int32} (hr : JX11_refusal 40 k a b m = some (some (.inl (-1)), m1)) (h2 : JX11_act k a b m1 = some (some (.inl r), m2)) : aC k a b d m = some (some (.inl r), m2) := by
  unfold aC
  rw [c_ref0 hr, calI_s, if_pos rfl, h2, calI_s]
theorem HL_uI {m : hM} {h l x : Int32} {t k : Nat} (ht : t ≠ 40) : uI (HL m h l) t 0 k x = HL (uI m t 0 k x) h l := by
  unfold HL
  have e1 := uI_cm (m := uI m 40 0 25 h) (t := 40) (n := 0) (k := 26) (x := l) (t2 := t) (n2 := 0) (k2 := k) (y := x) (Or.inl (Ne.symm ht))
  have e2 := uI_cm (m := m) (t := 40) (n := 0) (k := 25) (x := h) (t2 := t) (n2 := 0) (k2 := k) (y := x) (Or.inl (Ne.symm ht))
  rw [e1, e2]
theorem rts_c (a lo hi v : Int32) : rts a lo hi v = 1 ∨ rts a lo hi v = 2 ∨ (rts a lo hi v = -1 ∧ hwi a lo hi = 1 ∧ a ≠ v) := by
  unfold rts
  rcases hwi_b a lo hi with e | e
  · rw [if_pos e]; exact Or.inl rfl
  · rw [if_neg (by rw [e]; decide)]
    by_cases c : a = v
    · rw [if_pos c]; exact Or.inr (Or.inl rfl)
    · rw [if_neg c]; exact Or.inr (Or.inr ⟨rfl, e, c⟩)
theorem hwi_bw {a lo hi : Int32} (h : hwi a lo hi = 1) : bw a lo.toInt hi.toInt := by
  unfold hwi at h
  by_cases c : a < lo
  · rw [if_pos c] at h; exact absurd h (by decide)
  · rw [if_neg c] at h
    by_cases c2 : hi < a
    · rw [if_pos c2] at h; exact absurd h (by decide)
    · rw [Int32.lt_iff_toInt_lt] at c c2
      exact ⟨by omega, by omega⟩
theorem rfG_v (p : Nat → Int32) (F B D P k : Nat) (a b : Int32) (v : Nat → Int32) (hk : k ≤ 7) (hF : F ≤ 3) (hB : B ≤ 3) : (∃ j, j < 4 ∧ rfG p F B D P k a b v = nI j) ∨ (rfG p F B D P k a b v = -1 ∧ AV F B k a b) := by
  have no : ∀ (k2 : Nat) (q : Prop), k2 ≠ k → (k = k2 → q) := fun k2 q h e => absurd e.symm h
  have av : (k = 0 → bw a 1 60) → (k = 1 → bw a 0 3) → (k = 2 → bw a 0 1) → (k = 3 → (∃ j, j < F + B ∧ a = nI j) ∧ bw b (-255) 255) → (k = 5 → bw a 0 4) → AV F B k a b := fun h0 h1 h2 h3 h4 => ⟨hk, h0, h1, h2, h3, h4⟩
  have r2 : ∀ x, (x = 1 ∨ x = 2 ∨ (x = -1 ∧ AV F B k a b)) → rfG p F B D P k a b v = x → (∃ j, j < 4 ∧ rfG p F B D P k a b v = nI j) ∨ (rfG p F B D P k a b v = -1 ∧ AV F B k a b) := fun x h e => by
    rcases h with h | h | h
    · exact Or.inl ⟨1, by decide, by rw [e, h]; rfl⟩
    · exact Or.inl ⟨2, by decide, by rw [e, h]; rfl⟩
    · exact Or.inr ⟨by rw [e]; exact h.1, h.2⟩
  rcases (by omega : k = 0 ∨ k = 1 ∨ k = 2 ∨ k = 3 ∨ k = 4 ∨ k = 5 ∨ k = 6 ∨ k = 7) with e | e | e | e | e | e | e | e <;> subst e
  · rw [rfG_0]
    rcases hwi_b a 1 60 with e | e
    · rw [if_pos e]; exact Or.inl ⟨1, by decide, rfl⟩
    · rw [if_neg (by rw [e]; decide)]
      by_cases c : v 18 + a ≤ 9999
      · rw [if_pos c]; exact Or.inr ⟨rfl, av (fun _ => hwi_bw e) (no 1 _ (by decide)) (no 2 _ (by decide)) (no 3 _ (by decide)) (no 5 _ (by decide))⟩
      · rw [if_neg c]; exact Or.inl ⟨3, by decide, rfl⟩
  · refine r2 _ ?_ rfG_1
    rcases rts_c a 0 3 (v 14) with e | e | ⟨e, e2, _⟩
    · exact Or.inl e
    · exact Or.inr (Or.inl e)
    · exact Or.inr (Or.inr ⟨e, av (no 0 _ (by decide)) (fun _ => hwi_bw e2) (no 2 _ (by decide)) (no 3 _ (by decide)) (no 5 _ (by decide))⟩)
  · refine r2 _ ?_ rfG_2
    rcases rts_c a 0 1 (v 16) with e | e | ⟨e, e2, _⟩
    · exact Or.inl e
    · exact Or.inr (Or.inl e)
    · exact Or.inr (Or.inr ⟨e, av (no 0 _ (by decide)) (no 1 _ (by decide)) (fun _ => hwi_bw e2) (no 3 _ (by decide)) (no 5 _ (by decide))⟩)
  · rcases hw a (nI (F + B) - 1) (F + B) (by omega) rfl with ⟨j, hj, ea, e1⟩ | ⟨e1, _⟩
    · refine r2 (rts b (-255) 255 (v a.toNatClampNeg)) ?_ (by rw [rfG_3, if_neg (by rw [e1]; decide)])
      rcases rts_c b (-255) 255 (v a.toNatClampNeg) with e | e | ⟨e, e2, _⟩
      · exact Or.inl e
      · exact Or.inr (Or.inl e)
      · exact Or.inr (Or.inr ⟨e, av (no 0 _ (by decide)) (no 1 _ (by decide)) (no 2 _ (by decide)) (fun _ => ⟨⟨j, hj, ea⟩, hwi_bw e2⟩) (no 5 _ (by decide))⟩)
    · rw [rfG_3, if_pos e1]; exact Or.inl ⟨0, by decide, rfl⟩
  · rw [rfG_4]
    by_cases c : v 22 = 0
    · rw [if_pos c]; exact Or.inr ⟨rfl, av (no 0 _ (by decide)) (no 1 _ (by decide)) (no 2 _ (by decide)) (no 3 _ (by decide)) (no 5 _ (by decide))⟩
    · rw [if_neg c]; exact Or.inl ⟨2, by decide, rfl⟩
  · refine r2 _ ?_ rfG_5
    rcases rts_c a 0 4 (v 20) with e | e | ⟨e, e2, _⟩
    · exact Or.inl e
    · exact Or.inr (Or.inl e)
    · exact Or.inr (Or.inr ⟨e, av (no 0 _ (by decide)) (no 1 _ (by decide)) (no 2 _ (by decide)) (no 3 _ (by decide)) (fun _ => hwi_bw e2)⟩)
  · refine r2 _ ?_ rfG_6
    rcases rts_c a 0 99 (v 19) with e | e | ⟨e, e2, _⟩
    · exact Or.inl e
    · exact Or.inr (Or.inl e)
    · exact Or.inr (Or.inr ⟨e, av (no 0 _ (by decide)) (no 1 _ (by decide)) (no 2 _ (by decide)) (no 3 _ (by decide)) (no 5 _ (by decide))⟩)
  · rw [rfG_7]
    by_cases c : nbk (hts p F B D P v) (phN v) 3 = phN v
    · rw [if_pos c]; exact Or.inl ⟨2, by decide, rfl⟩
    · rw [if_neg c]; exact Or.inr ⟨rfl, av (no 0 _ (by decide)) (no 1 _ (by decide)) (no 2 _ (by decide)) (no 3 _ (by decide)) (no 5 _ (by decide))⟩
/-- the shape of all such calls -/
theorem k_act (k : Nat) (a b d : Int32) (g : hM → hR) (hk : k ≤ 7)
    (G0 : ∀ m, m.1 40 0 15 = 0 → g m = some (some (.inl d), uI m 51 0 0 (m.1 51 0 0 + 1)))
    (G1 : ∀ m F B D P W v t c kr j, RP m F B D P W v t c kr → j < 4 → rfG (m.1 6 0) F B D P k a b v = nI j → ∃ h l, g m = some (some (.inl d), HL (uI m 51 0 j (m.1 51 0 j + 1)) h l))
    (G2 : ∀ m F B D P W v t c kr, RP m F B D P W v t c kr → rfG (m.1 6 0) F B D P k a b v = -1 → AV F B k a b → ∃ m2, g m = some (some (.inl (gr m F B D P W k a v)), m2) ∧ RP m2 F B D P W (gv m F B D P W k a b v) (gt k t a) (pc c) (pk c kr v) ∧ Ra m m2) : Ok1 (aC (nI k) a b d) g := by
  intro m hm
  by_cases c : m.1 0 0 12 = 0
  · have hr : JX11_refusal 40 (nI k) a b m = some (some (.inl (nI 0)), m) := by
      unfold JX11_refusal
      rw [if_pos c]
      rfl
    refine ⟨d, _, _, aC_no hr (by decide), G0 _ (by rw [uI_o (by decide), ← hm.1]; exact c), ?_⟩
    rw [uI_o (m := m) (a := 51) (by decide)]
    exact ref_inv hm (by decide)
  · obtain ⟨F, B, D, P, W, t, hy⟩ := Inv_cy hm c
    obtain ⟨cc, kr, tt, hc, hr⟩ := CY_cp hy
    have hF : F ≤ 3 := hc.1.1.2.2.2.2.2.2.1
    have hB : B ≤ 3 := hc.1.1.2.2.2.2.2.2.2.1
    have hD : D ≤ 2 := hc.1.1.2.2.2.2.2.2.2.2.1
    have sa : SA m 40 F B D P W (m.1 50 0) t := ⟨hc.1, hc.2.1, hc.2.2.1, hc.2.2.2.1.1.1, hc.2.2.2.1.1.2.2.1, by decide⟩
    obtain ⟨m1, e1, e2⟩ := c_refusal sa k hk a b
    have p1 : m1.1 6 0 = m.1 6 0 := by funext i; exact e2.1 6 0 i (by omega)
    rcases rfG_v (m.1 6 0) F B D P k a b (m.1 50 0) hk hF hB with ⟨j, hj, ej⟩ | ⟨ej, av⟩
    · rw [ej] at e1
      have hr1 : RP (uI m1 37 0 j (m1.1 37 0 j + 1)) F B D P W (m.1 50 0) t cc kr := RP_w (m := m1) (fun x y z q => uI_o (by omega)) (Ex_RP e2 hr)
      obtain ⟨h, l, eg⟩ := G1 _ F B D P W _ t cc kr j hr1 hj (by
        have : (uI m1 37 0 j (m1.1 37 0 j + 1)).1 6 0 = m.1 6 0 := by rw [← p1]; funext i; exact uI_o (by decide)
        rw [this]; exact ej)
      refine ⟨d, _, _, aC_no e1 hj, eg, ?_⟩
      rw [uI_o (m := m1) (a := 51) (by decide)]
      exact Inv_same Same_HL (ref_inv (Inv_same (Same_Ex e2) hm) hj)
    · rw [ej] at e1
      have hc1 := CP_Ex e2 hc
      obtain ⟨m2, b1, b2, b3⟩ := c_actG (k := k) (a := a) (b := b) hc1 av (by rw [p1]; exact ej)
      have hr2 := Ca_RP b3 (Ex_RP e2 hr)
      have p2 : m2.1 6 0 = m1.1 6 0 := by funext i; exact b3.1 6 0 i (by omega) (by omega) (by omega) (by omega)
      obtain ⟨m3, d1, d2, d3⟩ := G2 m2 F B D P W _ t cc kr hr2 (by rw [p2, p1]; exact ej) av
      have g5 : m2.1 5 0 5 = m1.1 5 0 5 := b3.1 5 0 5 (by omega) (by omega) (by omega) (by omega)
      have er : gr m2 F B D P W k a (m.1 50 0) = gr m1 F B D P W k a (m.1 50 0) := by
        unfold gr
        rw [p2, g5, wrN_m (Ca_Ls b3) hF hB hD]
      have ev : gv m2 F B D P W k a b (m.1 50 0) = gv m1 F B D P W k a b (m.1 50 0) := by
        unfold gv
        rw [p2, g5, show itN m2 F B D P W (m1.1 5 0 5) = itN m1 F B D P W (m1.1 5 0 5) from by funext v N; rw [itN_m (Ca_Ls b3) hF hB hD N]]
      rw [er] at d1
      rw [ev] at d2
      exact ⟨_, _, _, aC_yes e1 b1, d1, fin_inv hm hy (Ca_t (Ca_Ex e2) b3) b2 d3 d2⟩
