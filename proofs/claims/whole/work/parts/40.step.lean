/-! what a row keeps to -/
def bw (a : Int32) (lo hi : Int) : Prop := lo ≤ a.toInt ∧ a.toInt ≤ hi
def VW (B : Nat) (w : Nat → Int32) (t : Nat) : Prop := (∀ i, i < 6 → bw (w i) (-255) 255) ∧ bw (w 12) 1 99 ∧ bw (w 14) 0 3 ∧ bw (w 16) 0 1 ∧ bw (w 17) 0 1 ∧ bw (w 20) 0 4 ∧ bw (w 22) 0 1 ∧ (∃ r, w 30 = nI r ∧ r < max B 1) ∧ w 18 = nI t
theorem bw_n {a : Int32} {n : Nat} (h : bw a 0 n) : ∃ j, j ≤ n ∧ a = nI j := by
  refine ⟨a.toInt.toNat, by have := h.2; have := h.1; omega, ?_⟩
  apply Int32.toInt_inj.mp
  have h1 := h.1
  have := Int32.toInt_lt a
  rw [nI_toInt (by omega)]
  omega
theorem bw_01 {a : Int32} (h : bw a 0 1) : a = 0 ∨ a = 1 := by
  obtain ⟨j, hj, e⟩ := bw_n (n := 1) h
  rcases (by omega : j = 0 ∨ j = 1) with h | h <;> subst h
  · exact Or.inl e
  · exact Or.inr e
theorem VW_q {B t : Nat} {w v : Nat → Int32} (h : Eq9 w v) (hv : VW B v t) : VW B w t := by
  obtain ⟨h1, h2, h3, h4, h5, h6, h7, h8, h9⟩ := hv
  refine ⟨fun i hi => by rw [h i (by omega)]; exact h1 i hi, ?_, ?_, ?_, ?_, ?_, ?_, ?_, ?_⟩
  · rw [h _ (by decide)]; exact h2
  · rw [h _ (by decide)]; exact h3
  · rw [h _ (by decide)]; exact h4
  · rw [h _ (by decide)]; exact h5
  · rw [h _ (by decide)]; exact h6
  · rw [h _ (by decide)]; exact h7
  · rw [h _ (by decide)]; exact h8
  · rw [h _ (by decide)]; exact h9
theorem hmx_n (B : Nat) (h : B ≤ 3) : hmx (nI B) 1 = nI (max B 1) := by
  have e : ∀ B, B < 4 → hmx (nI B) 1 = nI (max B 1) := by decide +kernel
  exact e B (by omega)
theorem gd_of {B r : Nat} {a : Int32} (hB : B ≤ 3) (h : a = nI r) (h2 : r < max B 1) : gdv B a := by
  unfold gdv
  rw [h, hmx_n B hB, ← nI_succ]
  by_cases c : r + 1 = max B 1
  · exact Or.inr (by rw [c])
  · exact Or.inl (nI_lt (by omega) (by omega))
/-! votes keep to it -/
theorem hhl_b {v lo hi : Int32} (h : lo.toInt ≤ hi.toInt) : bw (hhl v lo hi) lo.toInt hi.toInt := by
  unfold hhl bw
  simp only [Int32.le_iff_toInt_le]
  repeat' split
  all_goals omega
theorem vtv_b {w : Nat → Int32} {vi ai k : Nat} {b en lo hi : Int32} {l h : Int} (hl : lo.toInt = l) (hh : hi.toInt = h) (hlh : l ≤ h) (hk : k ≠ vi) (ha : k = ai → bw (w k) l h) (P : Int32 → Prop) (hP : k ≠ ai → P (w k)) (hP2 : k = ai → ∀ a, bw a l h → P a) : P (vtv w vi b en ai lo hi k) := by
  unfold vtv
  split
  · rw [pk_un hk]
    by_cases c : k = ai
    · exact hP2 c _ (ha c)
    · exact hP c
  · rw [pk_un hk]
    by_cases c : k = ai
    · rw [c, pk_us]
      apply hP2 c
      have := hhl_b (v := (upd w vi (w vi + b) ai) + hsg (w vi + b)) (lo := lo) (hi := hi) (by omega)
      have e := hhl_b (v := w ai + hsg (w vi + b)) (lo := lo) (hi := hi) (by omega)
      rw [hl, hh] at e
      exact e
    · rw [pk_un c, pk_un hk]
      exact hP c
def PL (w : Nat → Int32) : Prop := (∀ i, i < 6 → bw (w i) (-255) 255) ∧ bw (w 12) 1 99 ∧ bw (w 14) 0 3
theorem PL_vt {w : Nat → Int32} {j : Nat} {b g : Int32} (hj : j < 6) (h : PL w) : PL (vtv w (6 + j) b g j (-255) 255) := by
  refine ⟨fun i hi => ?_, ?_, ?_⟩
  · exact vtv_b (l := -255) (h := 255) (by decide) (by decide) (by decide) (by omega) (fun e => h.1 i hi) (fun a => bw a (-255) 255) (fun _ => h.1 i hi) (fun _ a q => q)
  · rw [vtv_g (by omega) (by omega)]; exact h.2.1
  · rw [vtv_g (by omega) (by omega)]; exact h.2.2
theorem PL_lf {err g : Int32} {w : Nat → Int32} (h : PL w) : ∀ N, N ≤ 3 → PL (fr (lfv err g) w N) := by
  intro N
  induction N with
  | zero => intro _; exact h
  | succ N ih => intro hN; exact PL_vt (by omega) (ih (by omega))
theorem PL_lb {F : Nat} {err g : Int32} {w : Nat → Int32} (hF : F ≤ 3) (h : PL w) : ∀ N, N ≤ 3 → PL (fr (lbv F err g) w N) := by
  intro N
  induction N with
  | zero => intro _; exact h
  | succ N ih => intro hN; exact PL_vt (by omega) (ih (by omega))
theorem PL_lev {F B : Nat} {tr lk kp err g : Int32} {w : Nat → Int32} (hF : F ≤ 3) (hB : B ≤ 3) (h : PL w) : PL (lev F B tr lk kp err g w) := by
  unfold lev
  have e := PL_lb (err := err) (g := g) hF (PL_lf (err := err) (g := g) h F hF) B hB
  generalize fr (lbv F err g) (fr (lfv err g) w F) B = u at e
  have e2 : PL (ltv tr kp err g u) := by
    unfold ltv
    split
    · refine ⟨fun i hi => ?_, ?_, ?_⟩
      · rw [vtv_g (by omega) (by omega)]; exact e.1 i hi
      · exact vtv_b (l := 1) (h := 99) (by decide) (by decide) (by decide) (by omega) (fun _ => e.2.1) (fun a => bw a 1 99) (fun c => absurd rfl c) (fun _ a q => q)
      · rw [vtv_g (by omega) (by omega)]; exact e.2.2
    · exact e
  generalize ltv tr kp err g u = u2 at e2
  unfold lkv
  split
  · exact e2
  · refine ⟨fun i hi => ?_, ?_, ?_⟩
    · rw [vtv_g (by omega) (by omega)]; exact e2.1 i hi
    · rw [vtv_g (by omega) (by omega)]; exact e2.2.1
    · exact vtv_b (l := 0) (h := 3) (by decide) (by decide) (by decide) (by omega) (fun _ => e2.2.2) (fun a => bw a 0 3) (fun c => absurd rfl c) (fun _ a q => q)
theorem jgv_r {B r : Nat} {wr : Int32} {w : Nat → Int32} (hB : B ≤ 3) (hr : w 30 = nI r) (h2 : r < max B 1) : ∃ r2, jgv wr (nI B) w 30 = nI r2 ∧ r2 < max B 1 := by
  unfold jgv
  split
  · split
    · exact ⟨r, hr, h2⟩
    · split
      · rename_i c
        rw [pk_us, hr, ← nI_succ]
        rw [hr, hmx_n B hB, ← nI_succ, nI_ltI (by omega) (by omega)] at c
        exact ⟨r + 1, rfl, c⟩
      · rw [pk_us]
        exact ⟨0, rfl, by omega⟩
  · rw [pk_us]
    exact ⟨0, rfl, by omega⟩
theorem VW_TM {m : hM} {F B D P ph t : Nat} {nz g : Int32} {w : Nat → Int32} (hF : F ≤ 3) (hB : B ≤ 3) (h : VW B w t) : VW B (TM m F B D P ph nz g w) (t + 1) := by
  obtain ⟨h1, h2, h3, h4, h5, h6, h7, ⟨r, hr, hr2⟩, h9⟩ := h
  have lowA : ∀ k, k < 16 → TA m 0 F B P ph nz w k = w k := fun k hk => by
    unfold TA
    rw [RA_g hB (by omega) (by omega) (by omega) (by omega)]
  have pA : PL (TA m 0 F B P ph nz w) := ⟨fun i hi => by rw [lowA i (by omega)]; exact h1 i hi, by rw [lowA _ (by decide)]; exact h2, by rw [lowA _ (by decide)]; exact h3⟩
  have pC : PL (TC m 0 F B D P ph nz g w) := by
    have pB : PL (RB F B (m.1 5 0 10) (m.1 5 0 11) g (Tls m 0 F B P ph nz w) (Tkp m 0 F B D P ph nz w) (Ter m 0 F B D P ph nz w) (TA m 0 F B P ph nz w)) := by
      unfold RB
      split
      · exact pA
      · apply PL_lev hF hB
        exact ⟨fun i hi => by rw [pk_un (by omega)]; exact pA.1 i hi, by rw [pk_un (by decide)]; exact pA.2.1, by rw [pk_un (by decide)]; exact pA.2.2⟩
    unfold TC
    exact ⟨fun i hi => by rw [RC_g (by omega) (by omega) (by omega)]; exact pB.1 i hi, by rw [RC_g (by decide) (by decide) (by decide)]; exact pB.2.1, by rw [RC_g (by decide) (by decide) (by decide)]; exact pB.2.2⟩
  have hM : ∀ k, k ≠ 22 → k ≠ 44 → k ≠ 19 → k ≠ 43 → k ≠ 18 → TM m F B D P ph nz g w k = TC m 0 F B D P ph nz g w k := fun k a b c d e => by
    unfold TM
    rw [pk_un e, pk_un d, pk_un c, pk_un b, pk_un a]
  refine ⟨fun i hi => ?_, ?_, ?_, ?_, ?_, ?_, ?_, ?_, ?_⟩
  · rw [hM i (by omega) (by omega) (by omega) (by omega) (by omega)]; exact pC.1 i hi
  · rw [hM 12 (by decide) (by decide) (by decide) (by decide) (by decide)]; exact pC.2.1
  · rw [hM 14 (by decide) (by decide) (by decide) (by decide) (by decide)]; exact pC.2.2
  · rw [hM 16 (by decide) (by decide) (by decide) (by decide) (by decide), TC_g hF hB (by decide) (by decide) (by decide) (by decide)]; exact h4
  · rw [hM 17 (by decide) (by decide) (by decide) (by decide) (by decide)]
    unfold TC
    rw [RC_g (by decide) (by decide) (by decide), RB_g hF hB (by decide) (by decide)]
    unfold TA RA
    have e : (shv (tbv (upd w 45 (fsv w (Rsm m 0 P ph nz w) F)) F B) 40 3 (Rsm m 0 P ph nz w)) 17 = w 17 := by rw [shv_g (by decide) (by decide), tbv_g (by decide) hB, pk_un (by decide)]
    have e2 := hrv_b (w := shv (tbv (upd w 45 (fsv w (Rsm m 0 P ph nz w) F)) F B) 40 3 (Rsm m 0 P ph nz w)) (q := Rqt (w 22) (m.1 5 0 6) (Rsm m 0 P ph nz w)) (by rw [e]; exact bw_01 h5)
    rcases e2 with e2 | e2 <;> rw [e2] <;> exact ⟨by decide, by decide⟩
  · rw [hM 20 (by decide) (by decide) (by decide) (by decide) (by decide), TC_g hF hB (by decide) (by decide) (by decide) (by decide)]; exact h6
  · have e : TM m F B D P ph nz g w 22 = 0 := by
      unfold TM
      rw [pk_un (by decide), pk_un (by decide), pk_un (by decide), pk_un (by decide), pk_us]
    rw [e]; exact ⟨by decide, by decide⟩
  · rw [hM 30 (by decide) (by decide) (by decide) (by decide) (by decide)]
    unfold TC RC
    apply jgv_r (r := r) hB _ hr2
    rw [shv_g (by decide) (by decide), RB_g hF hB (by decide) (by decide)]
    unfold TA
    rw [RA_g hB (by decide) (by decide) (by decide) (by decide), hr]
  · unfold TM
    rw [pk_us, h9, ← nI_succ]
/-! the bit that comes next -/
def Lw (m : hM) (W : Nat) : Prop := ∀ j, j < W → m.1 7 0 j = 0 ∨ m.1 7 0 j = 1
theorem nbv_b {m : hM} {W : Nat} {w : Nat → Int32} (h : Lw m W) : nbv m 0 W w = 0 ∨ nbv m 0 W w = 1 := by
  unfold nbv
  by_cases c : W = 0
  · rw [if_pos c]
    obtain ⟨j, hj, e⟩ := pk_andE (w 21) (m := 1) 1 (by decide)
    rw [e]
    rcases (by omega : j = 0 ∨ j = 1) with h | h <;> subst h
    · exact Or.inl rfl
    · exact Or.inr rfl
  · rw [if_neg c]
    exact h _ (Nat.mod_lt _ (by omega))
theorem VW_Tw {m : hM} {B W t : Nat} {w : Nat → Int32} (h : VW B w t) : VW B (Tw m 0 W w) t := by
  obtain ⟨h1, h2, h3, h4, h5, h6, h7, h8, h9⟩ := h
  have e : ∀ k, k ≠ 21 → k < 31 → Tw m 0 W w k = w k := fun k a b => Tw_g a (Or.inl b)
  refine ⟨fun i hi => by rw [e i (by omega) (by omega)]; exact h1 i hi, ?_, ?_, ?_, ?_, ?_, ?_, ?_, ?_⟩
  · rw [e _ (by decide) (by decide)]; exact h2
  · rw [e _ (by decide) (by decide)]; exact h3
  · rw [e _ (by decide) (by decide)]; exact h4
  · rw [e _ (by decide) (by decide)]; exact h5
  · rw [e _ (by decide) (by decide)]; exact h6
  · rw [e _ (by decide) (by decide)]; exact h7
  · rw [e _ (by decide) (by decide)]; exact h8
  · rw [e _ (by decide) (by decide)]; exact h9
theorem q_Tw {m m2 : hM} {W : Nat} {w v : Nat → Int32} (h : Eq9 w v) (hm : Lsm m m2) : Eq9 (Tw m 0 W w) (Tw m2 0 W v) := by
  unfold Tw sbv
  have e : nbv m 0 W w = nbv m2 0 W v := by
    unfold nbv
    rw [h 21 (by decide), h 18 (by decide), hm 7 _ (by decide) (by decide)]
  rw [e]
  apply q_shv _ rfl (by decide)
  unfold nbw
  split
  · exact q_upd h (by rw [h 21 (by decide)])
  · exact h
