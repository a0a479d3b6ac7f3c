/-! what is tried: the class on a copy, the reference on its row put aside -/
theorem hR_r {q : hR} {r : Int32} {m : hM} (h : q = some (some (.inl r), m)) {k : Int32 → hM → hR} : calI q k = k r m := by rw [h]; rfl
theorem Same_t {a b c : hM} (h : Same a b) (h2 : Same b c) : Same a c := ⟨⟨fun x y z q => (h2.1.1 x y z q).trans (h.1.1 x y z q), fun n q => (h2.1.2 n q).trans (h.1.2 n q)⟩, fun x y z q => (h2.2.1 x y z q).trans (h.2.1 x y z q), fun x y z q => (h2.2.2.1 x y z q).trans (h.2.2.1 x y z q), fun x y z q => (h2.2.2.2.1 x y z q).trans (h.2.2.2.1 x y z q), fun x y z q => (h2.2.2.2.2 x y z q).trans (h.2.2.2.2 x y z q)⟩
theorem Same_r (a : hM) : Same a a := ⟨⟨fun _ _ _ _ => rfl, fun _ _ => rfl⟩, fun _ _ _ _ => rfl, fun _ _ _ _ => rfl, fun _ _ _ _ => rfl, fun _ _ _ _ => rfl⟩
theorem Sm_same {m : hM} {n : Nat} {w : Nat → Int32} {x : Int64} (hn : 42 ≤ n) : Same m (Sm m n w x) := by
  have e : ∀ a b c, ¬ (b = n ∧ 12 ≤ a ∧ a ≤ 19) → (Sm m n w x).1 a b c = m.1 a b c := fun a b c h => if_neg h
  refine ⟨⟨fun a b c h => e a b c (by unfold nsA at h; omega), fun k hk => if_neg (fun q => by have := q.2.1; omega)⟩, fun a b c h => e a b c (by unfold nsC at h; omega), fun a b c h => e a b c (by unfold nsT at h; omega), fun a b c h => e a b c (by unfold nsR at h; omega), fun a b c h => e a b c (by unfold nsH at h; omega)⟩
def mAs (m : hM) : hM := rst (uI m 40 0 24 1) 53 0 (m.1 50 0) 0 51
theorem mAs_o {m : hM} {a b c : Nat} (h : a ≠ 53) (h2 : a ≠ 40 ∨ c ≠ 24) : (mAs m).1 a b c = m.1 a b c := by
  unfold mAs
  rw [rst_o (Or.inl h), uI_n h2]
theorem mAs_24 {m : hM} : (mAs m).1 40 0 24 = 1 := by
  unfold mAs
  rw [rst_o (by decide), uI_s]
theorem m_put (m : hM) : JX12_putAside 0 m = some (none, Nm (mAs m) (m.1 50 0)) := by
  have e : Nm (mAs m) (m.1 50 0) = mAs m := by
    have q : m.1 50 0 = (mAs m).1 50 0 := by
      funext c
      rw [mAs_o (by decide) (Or.inl (by decide))]
    rw [q, Nm_self]
  rw [e]
  exact m_putAside (d := 0) (by decide)
theorem mAs_A (m : hM) : SmA m (mAs m) := ⟨fun a b c h => mAs_o (by unfold nsA at h; omega) (by unfold nsA at h; omega), fun _ _ => rfl⟩
theorem m_back {m : hM} {v : Nat → Int32} (h24 : m.1 40 0 24 = 0) (hv : ∀ k, 51 ≤ k → v k = m.1 50 0 k) : ∃ m2, JX12_bringBack 0 (Nm (mAs m) v) = some (none, m2) ∧ Same m m2 := by
  refine ⟨_, m_bringBack (d := 0) (by decide), ?_⟩
  have e : ∀ a b c, a ≠ 53 → (rst (uI (Nm (mAs m) v) 40 0 24 (if 0 = 0 then 0 else 1)) 50 0 (fun i => (Nm (mAs m) v).1 53 0 (51 * 0 + i)) 0 51).1 a b c = m.1 a b c := by
    intro a b c h
    by_cases h1 : a = 50 ∧ b = 0
    · rw [h1.1, h1.2, rst_r]
      by_cases h2 : 0 ≤ c ∧ c < 0 + 51
      · rw [if_pos h2]
        show (Nm (mAs m) v).1 53 0 (51 * 0 + (c - 0)) = _
        rw [Nm_o (by decide)]
        unfold mAs
        rw [rst_r, if_pos (by omega), show 51 * 0 + (c - 0) - 0 = c from by omega]
      · rw [if_neg h2, uI_n (Or.inl (by decide)), Nm_r, hv c (by omega)]
    · rw [rst_o (by omega)]
      by_cases h2 : a = 40 ∧ b = 0 ∧ c = 24
      · rw [h2.1, h2.2.1, h2.2.2, uI_s, if_pos rfl, h24]
      · have e1 : (uI (Nm (mAs m) v) 40 0 24 (if 0 = 0 then 0 else 1)).1 a b c = (Nm (mAs m) v).1 a b c := if_neg h2
        have e2 : (Nm (mAs m) v).1 a b c = (mAs m).1 a b c := if_neg h1
        rw [e1, e2]
        unfold mAs
        rw [rst_o (Or.inl h)]
        exact if_neg h2
  exact ⟨⟨fun a b c h => e a b c (by unfold nsA at h; omega), fun _ _ => rfl⟩, fun a b c h => e a b c (by unfold nsC at h; omega), fun a b c h => e a b c (by unfold nsT at h; omega), fun a b c h => e a b c (by unfold nsR at h; omega), fun a b c h => e a b c (by unfold nsH at h; omega)⟩
theorem stM_g {m : hM} {F B D P W k : Nat} {g : Int32} {v : Nat → Int32} (hF : F ≤ 3) (hB : B ≤ 3) (hk : 51 ≤ k) : stM m F B D P W g v k = v k := by
  unfold stM
  rw [TM_g hF hB (by omega)]
  unfold wM
  rw [nxv_g (by omega) (by omega), Tw_g (by omega) (by omega)]
theorem itM_g {m : hM} {F B D P W k : Nat} {g : Int32} {v : Nat → Int32} (hF : F ≤ 3) (hB : B ≤ 3) (hk : 51 ≤ k) : ∀ N, itM m F B D P W g v N k = v k := by
  intro N
  induction N with
  | zero => rfl
  | succ N ih =>
    show stM m F B D P W g (itM m F B D P W g v N) k = _
    rw [stM_g hF hB hk, ih]
/-- lines of what is alike -/
theorem SmA_L {m m2 : hM} (h : SmA m m2) : ∀ a c, 5 ≤ a → a ≤ 7 → m2.1 a 0 c = m.1 a 0 c := fun a c h1 h2 => h.1 a 0 c (n_L h1 h2)
theorem RS_g {B : Nat} {g : Int32} {w u : Nat → Int32} {x : Int64} {v : Nat → Int32} {t : Nat} (h : RS B g w x v t) (e : Eq9 u w) (e2 : u 1088 = w 1088) : RS B g u x v t := ⟨fun k hk => (e k hk).trans (h.1 k hk), h.2.1, h.2.2.1, e2.trans h.2.2.2.1, h.2.2.2.2⟩
/-- the copy -/
theorem c_copyOf {m : hM} {B t nl sz : Nat} {g : Int32} {v : Nat → Int32} (h : ST m B g 40 nl sz v t) : ∃ w, JX0_copyOf 40 m = some (some (.inr (.inr (12, 42))), Sm m 42 w (m.2 12 40 17)) ∧ RS B g w (m.2 12 40 17) v t := by
  have hv := VW_q h.1.1 h.1.2.2.1
  obtain ⟨w, e1, e2, e3, _⟩ := c_copy (m := m) (n := 42) (n1 := 40) (by decide) (bw_01 hv.2.2.2.2.1) (bw_01 hv.2.2.2.1) (bw_01 hv.2.2.2.2.2.2.1)
  refine ⟨w, ?_, RS_g h.1 e2 e3⟩
  unfold JX0_copyOf aal
  rw [if_pos (by decide)]
  show calV (JX8_copy (42 + 0) 40 m) _ = _
  rw [e1, calV_s, if_pos (by decide)]
  rfl
/-- the context of a call when a line is told -/
def CX (m : hM) (F B D P W t : Nat) : Prop := LL m F B D P W ∧ LB m P ∧ m.1 40 0 22 = m.1 5 0 5 ∧ ST m B (m.1 5 0 5) 40 0 2460 (m.1 50 0) t ∧ m.1 40 0 24 = 0 ∧ m.1 40 0 23 = -1000000000 ∧ m.1 0 0 12 = 1 ∧ m.1 40 0 15 = 1
theorem Inv_cx {m : hM} (h : Inv m) (c : ¬ m.1 0 0 12 = 0) : ∃ F B D P W t, CX m F B D P W t := by
  obtain ⟨F, B, D, P, W, t, q1, q2, q3, q4, q5, q6⟩ := Inv_1 h c
  have e : m.1 0 0 12 = 1 := by
    rcases h.2.1 with q | q
    · exact absurd q.1 c
    · exact q.1
  exact ⟨F, B, D, P, W, t, q1, q2, q3, q4, h.2.2.2.2.2.2.1, h.2.2.2.2.2.2.2, e, by rw [← h.1]; exact e⟩
theorem CX_same {m m2 : hM} {F B D P W t : Nat} (h : Same m m2) (q : CX m F B D P W t) : CX m2 F B D P W t := by
  obtain ⟨q1, q2, q3, q4, q5, q6, q7, q8⟩ := q
  refine ⟨LL_same h.1 q1, LB_same h.1 q2, ?_, ?_, ?_, ?_, ?_, ?_⟩
  · rw [h.1.1 40 0 22 (by unfold nsA; decide), h.1.1 5 0 5 (n_L (by decide) (by decide))]; exact q3
  · rw [h.1.1 5 0 5 (n_L (by decide) (by decide)), row_same h.1 (by decide)]; exact ST_same h.1 (by decide) q4
  · rw [h.2.2.2.1 40 0 24 (by unfold nsR; decide)]; exact q5
  · rw [h.2.2.2.1 40 0 23 (by unfold nsR; decide)]; exact q6
  · rw [h.2.2.2.2 0 0 12 (by unfold nsH; decide)]; exact q7
  · rw [h.2.2.2.2 40 0 15 (by unfold nsH; decide)]; exact q8
theorem Lsm_of {m m2 : hM} (h : SmA m m2) : Lsm m m2 := fun a c h1 h2 => (h.1 a 0 c (n_L h1 h2)).symm
theorem SmA_t {a b c : hM} (h : SmA a b) (h2 : SmA b c) : SmA a c := ⟨fun x y z q => (h2.1 x y z q).trans (h.1 x y z q), fun n q => (h2.2 n q).trans (h.2 n q)⟩
/-- the reference's symbols, its row put aside -/
theorem m_symsA {m : hM} {F B D P W t t2 N : Nat} {v : Nat → Int32} (h : CX m F B D P W t) (hv : VW B v t2) (hN : N < 10000) (ht : t2 < 100000) : JX12_symbols (nI N) (Nm (mAs m) v) = some (some (.inl (wrS (mAs m) F B D P W (m.1 5 0 5) v N)), Nm (mAs m) (itM (mAs m) F B D P W (m.1 5 0 5) v N)) := by
  obtain ⟨q1, q2, q3, q4, q5, q6, q7, q8⟩ := h
  have e := m_symbolsT (m := mAs m) (N := N) hv (by rw [mAs_o (by decide) (by decide)]; exact q6) mAs_24 (LL_same (mAs_A m) q1) hN ht
  rw [mAs_o (by decide) (by decide), q3] at e
  exact e
/-- wrong ones of n symbols, on both sides, from rows that agree -/
theorem t_same {m m1 : hM} {F B D P W t t2 N : Nat} {w v : Nat → Int32} {x : Int64} (h : CX m F B D P W t) (hL : Same m m1) (hr : RS B (m.1 5 0 5) w x v t2) (hN : N < 10000) (ht : t2 < 100000) : (itC m F B D P W (w, x) N).1 25 - w 25 = wrS (mAs m1) F B D P W (m.1 5 0 5) v N ∧ RS B (m.1 5 0 5) (itC m F B D P W (w, x) N).1 (itC m F B D P W (w, x) N).2 (itM (mAs m1) F B D P W (m.1 5 0 5) v N) (t2 + N) := by
  have hl : Lsm m (mAs m1) := Lsm_of (SmA_t hL.1 (mAs_A m1))
  exact ⟨it_same hr hl h.1.1 hN ht, RS_it hr hl h.1.1 N (by omega)⟩
